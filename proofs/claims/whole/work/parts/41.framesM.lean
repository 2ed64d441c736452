theorem lt_e {α β : Type} {e : β} {g : β → Option α} {o : α} (hf : lt e g = some o) : ∃ x, x = e ∧ g x = some o := ⟨e, rfl, hf⟩
theorem ite_or {α : Type} {c : Prop} [Decidable c] {A B : Option α} {o : α} (hf : (if c then A else B) = some o) : A = some o ∨ B = some o := by
  by_cases hc : c
  · rw [if_pos hc] at hf
    exact Or.inl hf
  · rw [if_neg hc] at hf
    exact Or.inr hf
/-- the reference: rows outside L, and of its own fields those outside S, stay -/
def Fx (L S : List Nat) (h h' : Hp) : Prop := (∀ k, k ∉ L → k ≠ 108 → h'.1 k = h.1 k) ∧ (∀ k, k ∉ L → h'.2 k = h.2 k) ∧ ∀ i, i ∉ S → h'.1 108 i = h.1 108 i
theorem Fx.refl {L S : List Nat} {h : Hp} : Fx L S h h := ⟨fun _ _ _ => rfl, fun _ _ => rfl, fun _ _ => rfl⟩
theorem Fx.trans {L S : List Nat} {h h1 h2 : Hp} (a : Fx L S h h1) (b : Fx L S h1 h2) : Fx L S h h2 := ⟨fun k x y => (b.1 k x y).trans (a.1 k x y), fun k x => (b.2.1 k x).trans (a.2.1 k x), fun i x => (b.2.2 i x).trans (a.2.2 i x)⟩
theorem Fx.eqr {L S : List Nat} {h h1 h2 : Hp} (H : Fx L S h h1) (e : h1 = h2) : Fx L S h h2 := by
  subst e
  exact H
theorem Fx.mono {L S L' S' : List Nat} {h h1 : Hp} (a : Fx L S h h1) (hL : ∀ k ∈ L, k ∈ L') (hS : ∀ k ∈ S, k ∈ S') : Fx L' S' h h1 := ⟨fun k x y => a.1 k (fun z => x (hL k z)) y, fun k x => a.2.1 k (fun z => x (hL k z)), fun i x => a.2.2 i (fun z => x (hS i z))⟩
theorem Fx_rI {L S : List Nat} {h h1 h2 : Hp} {a : Nat} {f : Nat → Int32} (H : Fx L S h h1) (e : h2 = rI h1 a f) (ha : a ∈ L ∧ a ≠ 108) : Fx L S h h2 := by
  subst e
  exact ⟨fun k x y => (rI_ne h1 f (fun z => x (by rw [z]; exact ha.1))).trans (H.1 k x y), fun k x => H.2.1 k x, fun i x => by rw [rI_ne h1 f (Ne.symm ha.2)]; exact H.2.2 i x⟩
theorem Fx_sI {L S : List Nat} {h h1 h2 : Hp} {a i : Nat} {v : Int32} (H : Fx L S h h1) (e : h2 = sI h1 a i v) (ha : a ∈ L ∧ a ≠ 108) : Fx L S h h2 := Fx_rI H e ha
theorem Fx_sL {L S : List Nat} {h h1 h2 : Hp} {a i : Nat} {v : Int64} (H : Fx L S h h1) (e : h2 = sL h1 a i v) (ha : a ∈ L ∧ a ≠ 108) : Fx L S h h2 := by
  subst e
  exact ⟨fun k x y => H.1 k x y, fun k x => (rL_ne h1 _ (fun z => x (by rw [z]; exact ha.1))).trans (H.2.1 k x), fun i x => H.2.2 i x⟩
theorem Fx_f {L S : List Nat} {h h1 h2 : Hp} {i : Nat} {v : Int32} (H : Fx L S h h1) (e : h2 = sI h1 108 i v) (hi : i ∈ S) : Fx L S h h2 := by
  subst e
  refine ⟨fun k x y => (rI_ne h1 _ y).trans (H.1 k x y), fun k x => H.2.1 k x, fun j x => ?_⟩
  unfold sI
  rw [rI_self]
  unfold upd
  rw [if_neg (fun z => x (by rw [z]; exact hi))]
  exact H.2.2 j x
theorem Fx_eq {h h' : Hp} (a : Fx [] [] h h') : h = h' := by
  have e1 : h'.1 = h.1 := by
    funext k
    by_cases hk : k = 108
    · subst hk
      funext i
      exact a.2.2 i (by simp)
    · exact a.1 k (by simp) hk
  have e2 : h'.2 = h.2 := by
    funext k
    exact a.2.1 k (by simp)
  exact Prod.ext e1.symm e2.symm
set_option maxRecDepth 100000 in
theorem mf_X9_above {x1 : Int32} {x2 : Int32} {h : Hp} {o : Int32 × Hp} (hf : f_X9_above 108 x1 x2 h = some o) : h = o.2 := by
  refine Fx_eq ?_
  have hF : Fx [] [] h h := Fx.refl
  unfold f_X9_above at hf
  rcases ite_or hf with hf | hf
  · obtain rfl := Option.some.inj hf
    exact hF
  · rcases ite_or hf with hf | hf
    · obtain rfl := Option.some.inj hf
      exact hF
    · rcases ite_or hf with hf | hf
      · obtain rfl := Option.some.inj hf
        exact hF
      · rcases ite_or hf with hf | hf
        · obtain rfl := Option.some.inj hf
          exact hF
        · rcases ite_or hf with hf | hf
          · obtain rfl := Option.some.inj hf
            exact hF
          · obtain ⟨-, hf⟩ := ite_some hf
            obtain ⟨-, hf⟩ := ite_some hf
            obtain rfl := Option.some.inj hf
            exact hF
set_option maxRecDepth 100000 in
theorem mf_X9_below {x1 : Int32} {x2 : Int32} {h : Hp} {o : Int32 × Hp} (hf : f_X9_below 108 x1 x2 h = some o) : h = o.2 := by
  refine Fx_eq ?_
  have hF : Fx [] [] h h := Fx.refl
  unfold f_X9_below at hf
  rcases ite_or hf with hf | hf
  · obtain rfl := Option.some.inj hf
    exact hF
  · rcases ite_or hf with hf | hf
    · obtain rfl := Option.some.inj hf
      exact hF
    · rcases ite_or hf with hf | hf
      · obtain rfl := Option.some.inj hf
        exact hF
      · rcases ite_or hf with hf | hf
        · obtain rfl := Option.some.inj hf
          exact hF
        · rcases ite_or hf with hf | hf
          · obtain ⟨-, hf⟩ := ite_some hf
            obtain rfl := Option.some.inj hf
            exact hF
          · obtain rfl := Option.some.inj hf
            exact hF
set_option maxRecDepth 100000 in
theorem mf_X9_claims {x1 : Int32} {x2 : Int32} {x3 : Int32} {h : Hp} {o : Unit × Hp} (hf : f_X9_claims 108 x1 x2 x3 h = some o) : Fx [113, 114, 115] [] h o.2 := by
  have hF : Fx [113, 114, 115] [] h h := Fx.refl
  unfold f_X9_claims at hf
  obtain ⟨-, hf⟩ := ite_some hf
  obtain ⟨m1, em, hf⟩ := lt_e hf
  have hF := Fx_sI hF em (by decide)
  clear em
  obtain ⟨-, hf⟩ := ite_some hf
  obtain ⟨-, hf⟩ := ite_some hf
  obtain ⟨m2, em, hf⟩ := lt_e hf
  have hF := Fx_sI hF em (by decide)
  clear em
  obtain ⟨-, hf⟩ := ite_some hf
  obtain ⟨-, hf⟩ := ite_some hf
  obtain ⟨m3, em, hf⟩ := lt_e hf
  have hF := Fx_sI hF em (by decide)
  clear em
  obtain rfl := Option.some.inj hf
  exact hF
set_option maxRecDepth 100000 in
theorem mf_X9_clear  {h : Hp} {o : Int32 × Hp} (hf : f_X9_clear 108 h = some o) : Fx [] [6] h o.2 := by
  have hF : Fx [] [6] h h := Fx.refl
  unfold f_X9_clear at hf
  obtain ⟨v1, -, hf⟩ := lt_e hf
  obtain ⟨m2, em, hf⟩ := lt_e hf
  have hF := Fx_f hF em (by decide)
  clear em
  obtain rfl := Option.some.inj hf
  exact hF
set_option maxRecDepth 100000 in
theorem mf_X9_divisor_6 {hs : Hp} {o : Int64 × Hp}  : ∀ (n : Nat) {x4 : Int64} {x6 : Int64} {h : Hp}, Fx [] [] hs h → lp (F := Int64 → Int64 → Hp → Option (Int64 × Hp)) (fun _ _ _ => none) (f_X9_divisor_6) n x4 x6 h = some o → Fx [] [] hs o.2 := by
  intro n
  induction n with
  | zero =>
    intro x4 x6 h hF hf
    have hf : (none : Option (Int64 × Hp)) = some o := hf
    cases hf
  | succ n hk6 =>
    intro x4 x6 h hF hf
    have hf : f_X9_divisor_6  (lp (F := Int64 → Int64 → Hp → Option (Int64 × Hp)) (fun _ _ _ => none) (f_X9_divisor_6) n) x4 x6 h = some o := hf
    unfold f_X9_divisor_6 at hf
    rcases ite_or hf with hf | hf
    · obtain rfl := Option.some.inj hf
      exact hF
    · obtain ⟨-, hf⟩ := ite_none hf
      obtain ⟨v1, -, hf⟩ := lt_e hf
      exact hk6 hF hf
set_option maxRecDepth 100000 in
theorem mf_X9_divisor {x0 : Int64} {x2 : Int64} {h : Hp} {o : Int64 × Hp} (hf : f_X9_divisor x0 x2 h = some o) : h = o.2 := by
  refine Fx_eq ?_
  have hF : Fx [] [] h h := Fx.refl
  unfold f_X9_divisor at hf
  exact mf_X9_divisor_6  1000 hF hf
set_option maxRecDepth 100000 in
theorem mf_X9_gains {x1 : Int32} {h : Hp} {o : Int32 × Hp} (hf : f_X9_gains 108 x1 h = some o) : h = o.2 := by
  refine Fx_eq ?_
  have hF : Fx [] [] h h := Fx.refl
  unfold f_X9_gains at hf
  obtain ⟨-, hf⟩ := ite_some hf
  obtain ⟨-, hf⟩ := ite_some hf
  obtain rfl := Option.some.inj hf
  exact hF
set_option maxRecDepth 100000 in
theorem mf_X9_givesUp {x1 : Int32} {h : Hp} {o : Int32 × Hp} (hf : f_X9_givesUp 108 x1 h = some o) : h = o.2 := by
  refine Fx_eq ?_
  have hF : Fx [] [] h h := Fx.refl
  unfold f_X9_givesUp at hf
  obtain ⟨-, hf⟩ := ite_none hf
  obtain ⟨-, hf⟩ := ite_some hf
  obtain ⟨-, hf⟩ := ite_some hf
  obtain rfl := Option.some.inj hf
  exact hF
set_option maxRecDepth 100000 in
theorem mf_X9_greatestRest_55 {hs : Hp} {o : Int32 × Hp} {k4 : Nat → Int32 → Int32 → Hp → Option (Int32 × Hp)} (hk4 : ∀ {x1 : Int32} {x2 : Int32} {h : Hp}, Fx [] [] hs h → k4 108 x1 x2 h = some o → Fx [] [] hs o.2) {x1 : Int32} {x2 : Int32} {h : Hp} (hF : Fx [] [] hs h) (hf : f_X9_greatestRest_55 k4 108 x1 x2 h = some o) : Fx [] [] hs o.2 := by
  unfold f_X9_greatestRest_55 at hf
  obtain ⟨v1, -, hf⟩ := lt_e hf
  exact hk4 hF hf
set_option maxRecDepth 100000 in
theorem mf_X9_greatestRest_53 {hs : Hp} {o : Int32 × Hp} {k4 : Nat → Int32 → Int32 → Hp → Option (Int32 × Hp)} (hk4 : ∀ {x1 : Int32} {x2 : Int32} {h : Hp}, Fx [] [] hs h → k4 108 x1 x2 h = some o → Fx [] [] hs o.2) {x2 : Int32} {h : Hp} (hF : Fx [] [] hs h) (hf : f_X9_greatestRest_53 k4 108 x2 h = some o) : Fx [] [] hs o.2 := by
  unfold f_X9_greatestRest_53 at hf
  exact mf_X9_greatestRest_55 hk4 hF hf
set_option maxRecDepth 100000 in
theorem mf_X9_greatestRest_4 {hs : Hp} {o : Int32 × Hp}  : ∀ (n : Nat) {x1 : Int32} {x2 : Int32} {h : Hp}, Fx [] [] hs h → lp (F := Nat → Int32 → Int32 → Hp → Option (Int32 × Hp)) (fun _ _ _ _ => none) (f_X9_greatestRest_4) n 108 x1 x2 h = some o → Fx [] [] hs o.2 := by
  intro n
  induction n with
  | zero =>
    intro x1 x2 h hF hf
    have hf : (none : Option (Int32 × Hp)) = some o := hf
    cases hf
  | succ n hk4 =>
    intro x1 x2 h hF hf
    have hf : f_X9_greatestRest_4  (lp (F := Nat → Int32 → Int32 → Hp → Option (Int32 × Hp)) (fun _ _ _ _ => none) (f_X9_greatestRest_4) n) 108 x1 x2 h = some o := hf
    unfold f_X9_greatestRest_4 at hf
    rcases ite_or hf with hf | hf
    · obtain rfl := Option.some.inj hf
      exact hF
    · obtain ⟨-, hf⟩ := ite_some hf
      rcases ite_or hf with hf | hf
      · exact mf_X9_greatestRest_55 hk4 hF hf
      · obtain ⟨-, hf⟩ := ite_some hf
        rcases ite_or hf with hf | hf
        · rcases ite_or hf with hf | hf
          · exact mf_X9_greatestRest_53 hk4 hF hf
          · obtain ⟨-, hf⟩ := ite_some hf
            obtain ⟨-, hf⟩ := ite_some hf
            rcases ite_or hf with hf | hf
            · exact mf_X9_greatestRest_55 hk4 hF hf
            · exact mf_X9_greatestRest_53 hk4 hF hf
        · exact mf_X9_greatestRest_55 hk4 hF hf
set_option maxRecDepth 100000 in
theorem mf_X9_greatestRest  {h : Hp} {o : Int32 × Hp} (hf : f_X9_greatestRest 108 h = some o) : h = o.2 := by
  refine Fx_eq ?_
  have hF : Fx [] [] h h := Fx.refl
  unfold f_X9_greatestRest at hf
  exact mf_X9_greatestRest_4  1000 hF hf
set_option maxRecDepth 100000 in
theorem mf_X9_holdsHouse_2 {hs : Hp} {o : Unit × Hp}  : ∀ (n : Nat) {x1 : Int32} {h : Hp}, Fx [126] [] hs h → lp (F := Nat → Int32 → Hp → Option (Unit × Hp)) (fun _ _ _ => none) (f_X9_holdsHouse_2) n 108 x1 h = some o → Fx [126] [] hs o.2 := by
  intro n
  induction n with
  | zero =>
    intro x1 h hF hf
    have hf : (none : Option (Unit × Hp)) = some o := hf
    cases hf
  | succ n hk2 =>
    intro x1 h hF hf
    have hf : f_X9_holdsHouse_2  (lp (F := Nat → Int32 → Hp → Option (Unit × Hp)) (fun _ _ _ => none) (f_X9_holdsHouse_2) n) 108 x1 h = some o := hf
    unfold f_X9_holdsHouse_2 at hf
    rcases ite_or hf with hf | hf
    · obtain rfl := Option.some.inj hf
      exact hF
    · obtain ⟨-, hf⟩ := ite_some hf
      obtain ⟨-, hf⟩ := ite_some hf
      obtain ⟨m1, em, hf⟩ := lt_e hf
      have hF := Fx_sI hF em (by decide)
      clear em
      obtain ⟨v2, -, hf⟩ := lt_e hf
      exact hk2 hF hf
set_option maxRecDepth 100000 in
theorem mf_X9_holdsHouse  {h : Hp} {o : Unit × Hp} (hf : f_X9_holdsHouse 108 h = some o) : Fx [126] [] h o.2 := by
  have hF : Fx [126] [] h h := Fx.refl
  unfold f_X9_holdsHouse at hf
  exact mf_X9_holdsHouse_2  1000 hF hf
set_option maxRecDepth 100000 in
theorem mf_X9_isPart_9 {hs : Hp} {o : Int32 × Hp}   {h : Hp} (hF : Fx [] [] hs h) (hf : f_X9_isPart_9   h = some o) : Fx [] [] hs o.2 := by
  unfold f_X9_isPart_9 at hf
  obtain ⟨-, hf⟩ := ite_some hf
  obtain rfl := Option.some.inj hf
  exact hF
set_option maxRecDepth 100000 in
theorem mf_X9_isPart {x0 : Int32} {h : Hp} {o : Int32 × Hp} (hf : f_X9_isPart x0 h = some o) : h = o.2 := by
  refine Fx_eq ?_
  have hF : Fx [] [] h h := Fx.refl
  unfold f_X9_isPart at hf
  rcases ite_or hf with hf | hf
  · exact mf_X9_isPart_9  hF hf
  · rcases ite_or hf with hf | hf
    · exact mf_X9_isPart_9  hF hf
    · obtain ⟨-, hf⟩ := ite_some hf
      obtain rfl := Option.some.inj hf
      exact hF
set_option maxRecDepth 100000 in
theorem mf_X9_isRingParty_2 {hs : Hp} {o : Int32 × Hp}  : ∀ (n : Nat) {x1 : Int32} {x2 : Int32} {x3 : Int32} {h : Hp}, Fx [] [] hs h → lp (F := Nat → Int32 → Int32 → Int32 → Hp → Option (Int32 × Hp)) (fun _ _ _ _ _ => none) (f_X9_isRingParty_2) n 108 x1 x2 x3 h = some o → Fx [] [] hs o.2 := by
  intro n
  induction n with
  | zero =>
    intro x1 x2 x3 h hF hf
    have hf : (none : Option (Int32 × Hp)) = some o := hf
    cases hf
  | succ n hk2 =>
    intro x1 x2 x3 h hF hf
    have hf : f_X9_isRingParty_2  (lp (F := Nat → Int32 → Int32 → Int32 → Hp → Option (Int32 × Hp)) (fun _ _ _ _ _ => none) (f_X9_isRingParty_2) n) 108 x1 x2 x3 h = some o := hf
    unfold f_X9_isRingParty_2 at hf
    rcases ite_or hf with hf | hf
    · obtain ⟨-, hf⟩ := ite_some hf
      obtain rfl := Option.some.inj hf
      exact hF
    · obtain ⟨-, hf⟩ := ite_some hf
      rcases ite_or hf with hf | hf
      · obtain ⟨-, hf⟩ := ite_some hf
        obtain rfl := Option.some.inj hf
        exact hF
      · obtain ⟨v1, -, hf⟩ := lt_e hf
        exact hk2 hF hf
set_option maxRecDepth 100000 in
theorem mf_X9_isRingParty {x1 : Int32} {x2 : Int32} {h : Hp} {o : Int32 × Hp} (hf : f_X9_isRingParty 108 x1 x2 h = some o) : h = o.2 := by
  refine Fx_eq ?_
  have hF : Fx [] [] h h := Fx.refl
  unfold f_X9_isRingParty at hf
  exact mf_X9_isRingParty_2  1000 hF hf
set_option maxRecDepth 100000 in
theorem mf_X9_isRingWard_2 {hs : Hp} {o : Int32 × Hp}  : ∀ (n : Nat) {x1 : Int32} {x2 : Int32} {x3 : Int32} {h : Hp}, Fx [] [] hs h → lp (F := Nat → Int32 → Int32 → Int32 → Hp → Option (Int32 × Hp)) (fun _ _ _ _ _ => none) (f_X9_isRingWard_2) n 108 x1 x2 x3 h = some o → Fx [] [] hs o.2 := by
  intro n
  induction n with
  | zero =>
    intro x1 x2 x3 h hF hf
    have hf : (none : Option (Int32 × Hp)) = some o := hf
    cases hf
  | succ n hk2 =>
    intro x1 x2 x3 h hF hf
    have hf : f_X9_isRingWard_2  (lp (F := Nat → Int32 → Int32 → Int32 → Hp → Option (Int32 × Hp)) (fun _ _ _ _ _ => none) (f_X9_isRingWard_2) n) 108 x1 x2 x3 h = some o := hf
    unfold f_X9_isRingWard_2 at hf
    rcases ite_or hf with hf | hf
    · obtain ⟨-, hf⟩ := ite_some hf
      obtain rfl := Option.some.inj hf
      exact hF
    · obtain ⟨-, hf⟩ := ite_some hf
      rcases ite_or hf with hf | hf
      · obtain ⟨-, hf⟩ := ite_some hf
        obtain rfl := Option.some.inj hf
        exact hF
      · obtain ⟨v1, -, hf⟩ := lt_e hf
        exact hk2 hF hf
set_option maxRecDepth 100000 in
theorem mf_X9_isRingWard {x1 : Int32} {x2 : Int32} {h : Hp} {o : Int32 × Hp} (hf : f_X9_isRingWard 108 x1 x2 h = some o) : h = o.2 := by
  refine Fx_eq ?_
  have hF : Fx [] [] h h := Fx.refl
  unfold f_X9_isRingWard at hf
  exact mf_X9_isRingWard_2  1000 hF hf
set_option maxRecDepth 100000 in
theorem mf_X9_leastOf {x1 : Int32} {h : Hp} {o : Int32 × Hp} (hf : f_X9_leastOf 108 x1 h = some o) : h = o.2 := by
  refine Fx_eq ?_
  have hF : Fx [] [] h h := Fx.refl
  unfold f_X9_leastOf at hf
  obtain ⟨-, hf⟩ := ite_some hf
  obtain rfl := Option.some.inj hf
  exact hF
set_option maxRecDepth 100000 in
theorem mf_X9_listOf {x1 : Int32} {h : Hp} {o : Int32 × Hp} (hf : f_X9_listOf 108 x1 h = some o) : h = o.2 := by
  refine Fx_eq ?_
  have hF : Fx [] [] h h := Fx.refl
  unfold f_X9_listOf at hf
  obtain ⟨-, hf⟩ := ite_some hf
  obtain rfl := Option.some.inj hf
  exact hF
set_option maxRecDepth 100000 in
theorem mf_X9_nobodyClaims_2 {hs : Hp} {o : Unit × Hp}  : ∀ (n : Nat) {x1 : Int32} {h : Hp}, Fx [113, 114, 115] [] hs h → lp (F := Nat → Int32 → Hp → Option (Unit × Hp)) (fun _ _ _ => none) (f_X9_nobodyClaims_2) n 108 x1 h = some o → Fx [113, 114, 115] [] hs o.2 := by
  intro n
  induction n with
  | zero =>
    intro x1 h hF hf
    have hf : (none : Option (Unit × Hp)) = some o := hf
    cases hf
  | succ n hk2 =>
    intro x1 h hF hf
    have hf : f_X9_nobodyClaims_2  (lp (F := Nat → Int32 → Hp → Option (Unit × Hp)) (fun _ _ _ => none) (f_X9_nobodyClaims_2) n) 108 x1 h = some o := hf
    unfold f_X9_nobodyClaims_2 at hf
    rcases ite_or hf with hf | hf
    · obtain rfl := Option.some.inj hf
      exact hF
    · obtain ⟨-, hf⟩ := ite_some hf
      obtain ⟨m1, em, hf⟩ := lt_e hf
      have hF := Fx_sI hF em (by decide)
      clear em
      obtain ⟨-, hf⟩ := ite_some hf
      obtain ⟨m2, em, hf⟩ := lt_e hf
      have hF := Fx_sI hF em (by decide)
      clear em
      obtain ⟨-, hf⟩ := ite_some hf
      obtain ⟨m3, em, hf⟩ := lt_e hf
      have hF := Fx_sI hF em (by decide)
      clear em
      obtain ⟨v4, -, hf⟩ := lt_e hf
      exact hk2 hF hf
set_option maxRecDepth 100000 in
theorem mf_X9_nobodyClaims  {h : Hp} {o : Unit × Hp} (hf : f_X9_nobodyClaims 108 h = some o) : Fx [113, 114, 115] [] h o.2 := by
  have hF : Fx [113, 114, 115] [] h h := Fx.refl
  unfold f_X9_nobodyClaims at hf
  exact mf_X9_nobodyClaims_2  1000 hF hf
set_option maxRecDepth 100000 in
theorem mf_X9_seatsOf {x1 : Int32} {h : Hp} {o : Int32 × Hp} (hf : f_X9_seatsOf 108 x1 h = some o) : h = o.2 := by
  refine Fx_eq ?_
  have hF : Fx [] [] h h := Fx.refl
  unfold f_X9_seatsOf at hf
  obtain ⟨-, hf⟩ := ite_some hf
  obtain rfl := Option.some.inj hf
  exact hF
set_option maxRecDepth 100000 in
theorem mf_X9_tells {x1 : Int32} {x2 : Int32} {h : Hp} {o : Int32 × Hp} (hf : f_X9_tells 108 x1 x2 h = some o) : Fx [109] [3] h o.2 := by
  have hF : Fx [109] [3] h h := Fx.refl
  unfold f_X9_tells at hf
  obtain ⟨-, hf⟩ := ite_some hf
  obtain ⟨v1, -, hf⟩ := lt_e hf
  obtain ⟨-, hf⟩ := ite_some hf
  obtain ⟨m2, em, hf⟩ := lt_e hf
  have hF := Fx_sI hF em (by decide)
  clear em
  obtain ⟨m3, em, hf⟩ := lt_e hf
  have hF := Fx_f hF em (by decide)
  clear em
  obtain rfl := Option.some.inj hf
  exact hF
set_option maxRecDepth 100000 in
theorem mf_X9_times_23 {hs : Hp} {o : Int64 × Hp}  {x1 : Int64} {x3 : Int64} {h : Hp} (hF : Fx [] [38] hs h) (hf : f_X9_times_23  x1 x3 h = some o) : Fx [] [38] hs o.2 := by
  unfold f_X9_times_23 at hf
  obtain rfl := Option.some.inj hf
  exact hF
set_option maxRecDepth 100000 in
theorem mf_X9_times {x1 : Int64} {x3 : Int64} {h : Hp} {o : Int64 × Hp} (hf : f_X9_times 108 x1 x3 h = some o) : Fx [] [38] h o.2 := by
  have hF : Fx [] [38] h h := Fx.refl
  unfold f_X9_times at hf
  rcases ite_or hf with hf | hf
  · exact mf_X9_times_23  hF hf
  · obtain ⟨-, hf⟩ := ite_none hf
    rcases ite_or hf with hf | hf
    · exact mf_X9_times_23  hF hf
    · obtain ⟨m1, em, hf⟩ := lt_e hf
      have hF := Fx_f hF em (by decide)
      clear em
      obtain rfl := Option.some.inj hf
      exact hF
set_option maxRecDepth 100000 in
theorem mf_X9_votesOf {x1 : Int32} {x2 : Int32} {h : Hp} {o : Int32 × Hp} (hf : f_X9_votesOf 108 x1 x2 h = some o) : h = o.2 := by
  refine Fx_eq ?_
  have hF : Fx [] [] h h := Fx.refl
  unfold f_X9_votesOf at hf
  obtain ⟨-, hf⟩ := ite_some hf
  obtain rfl := Option.some.inj hf
  exact hF
set_option maxRecDepth 100000 in
theorem mf_X9_wayNow  {h : Hp} {o : Int32 × Hp} (hf : f_X9_wayNow 108 h = some o) : h = o.2 := by
  refine Fx_eq ?_
  have hF : Fx [] [] h h := Fx.refl
  unfold f_X9_wayNow at hf
  obtain ⟨-, hf⟩ := ite_some hf
  obtain rfl := Option.some.inj hf
  exact hF
set_option maxRecDepth 100000 in
theorem mf_X9_within {x0 : Int64} {x2 : Int64} {x4 : Int64} {h : Hp} {o : Int32 × Hp} (hf : f_X9_within x0 x2 x4 h = some o) : h = o.2 := by
  refine Fx_eq ?_
  have hF : Fx [] [] h h := Fx.refl
  unfold f_X9_within at hf
  rcases ite_or hf with hf | hf
  · obtain ⟨-, hf⟩ := ite_some hf
    obtain rfl := Option.some.inj hf
    exact hF
  · rcases ite_or hf with hf | hf
    · obtain ⟨-, hf⟩ := ite_some hf
      obtain rfl := Option.some.inj hf
      exact hF
    · obtain ⟨-, hf⟩ := ite_some hf
      obtain rfl := Option.some.inj hf
      exact hF
set_option maxRecDepth 100000 in
theorem mf_X9_writes {x1 : Int32} {h : Hp} {o : Unit × Hp} (hf : f_X9_writes 108 x1 h = some o) : Fx [127] [28] h o.2 := by
  have hF : Fx [127] [28] h h := Fx.refl
  unfold f_X9_writes at hf
  obtain ⟨-, hf⟩ := ite_some hf
  obtain ⟨m1, em, hf⟩ := lt_e hf
  have hF := Fx_sI hF em (by decide)
  clear em
  obtain ⟨m2, em, hf⟩ := lt_e hf
  have hF := Fx_f hF em (by decide)
  clear em
  obtain rfl := Option.some.inj hf
  exact hF
set_option maxRecDepth 100000 in
theorem mf_X9_allSeats_4 {hs : Hp} {o : Int32 × Hp}  : ∀ (n : Nat) {x1 : Int32} {x2 : Int32} {h : Hp}, Fx [] [] hs h → lp (F := Nat → Int32 → Int32 → Hp → Option (Int32 × Hp)) (fun _ _ _ _ => none) (f_X9_allSeats_4) n 108 x1 x2 h = some o → Fx [] [] hs o.2 := by
  intro n
  induction n with
  | zero =>
    intro x1 x2 h hF hf
    have hf : (none : Option (Int32 × Hp)) = some o := hf
    cases hf
  | succ n hk4 =>
    intro x1 x2 h hF hf
    have hf : f_X9_allSeats_4  (lp (F := Nat → Int32 → Int32 → Hp → Option (Int32 × Hp)) (fun _ _ _ _ => none) (f_X9_allSeats_4) n) 108 x1 x2 h = some o := hf
    unfold f_X9_allSeats_4 at hf
    rcases ite_or hf with hf | hf
    · obtain rfl := Option.some.inj hf
      exact hF
    · obtain ⟨q1, e9, hf⟩ := Option.bind_eq_some_iff.mp hf
      have e9 := mf_X9_seatsOf e9
      have hF := hF.eqr e9
      clear e9
      obtain ⟨v2, -, hf⟩ := lt_e hf
      obtain ⟨v3, -, hf⟩ := lt_e hf
      exact hk4 hF hf
set_option maxRecDepth 100000 in
theorem mf_X9_allSeats  {h : Hp} {o : Int32 × Hp} (hf : f_X9_allSeats 108 h = some o) : h = o.2 := by
  refine Fx_eq ?_
  have hF : Fx [] [] h h := Fx.refl
  unfold f_X9_allSeats at hf
  exact mf_X9_allSeats_4  1000 hF hf
set_option maxRecDepth 100000 in
theorem mf_X9_bar {x1 : Int32} {h : Hp} {o : Int32 × Hp} (hf : f_X9_bar 108 x1 h = some o) : Fx [109] [3] h o.2 := by
  have hF : Fx [109] [3] h h := Fx.refl
  unfold f_X9_bar at hf
  obtain ⟨q1, e9, hf⟩ := Option.bind_eq_some_iff.mp hf
  have e9 := mf_X9_within e9
  have hF := hF.eqr e9
  clear e9
  rcases ite_or hf with hf | hf
  · obtain rfl := Option.some.inj hf
    exact hF
  · obtain ⟨q2, e9, hf⟩ := Option.bind_eq_some_iff.mp hf
    have hF := hF.trans ((mf_X9_tells e9).mono (by decide) (by decide))
    clear e9
    obtain rfl := Option.some.inj hf
    exact hF
set_option maxRecDepth 100000 in
theorem mf_X9_begins_70 {hs : Hp} {o : Unit × Hp} {k49 : Nat → Int32 → Hp → Option (Unit × Hp)} (hk49 : ∀ {x1 : Int32} {h : Hp}, Fx [126, 131] [] hs h → k49 108 x1 h = some o → Fx [126, 131] [] hs o.2) : ∀ (n : Nat) {x1 : Int32} {x2 : Int32} {x3 : Int32} {h : Hp}, Fx [126, 131] [] hs h → lp (F := Nat → Int32 → Int32 → Int32 → Hp → Option (Unit × Hp)) (fun _ _ _ _ _ => none) (f_X9_begins_70 k49) n 108 x1 x2 x3 h = some o → Fx [126, 131] [] hs o.2 := by
  intro n
  induction n with
  | zero =>
    intro x1 x2 x3 h hF hf
    have hf : (none : Option (Unit × Hp)) = some o := hf
    cases hf
  | succ n hk70 =>
    intro x1 x2 x3 h hF hf
    have hf : f_X9_begins_70 k49 (lp (F := Nat → Int32 → Int32 → Int32 → Hp → Option (Unit × Hp)) (fun _ _ _ _ _ => none) (f_X9_begins_70 k49) n) 108 x1 x2 x3 h = some o := hf
    unfold f_X9_begins_70 at hf
    rcases ite_or hf with hf | hf
    · obtain ⟨v6, -, hf⟩ := lt_e hf
      exact hk49 hF hf
    · obtain ⟨-, hf⟩ := ite_some hf
      obtain ⟨-, hf⟩ := ite_some hf
      obtain ⟨v7, -, hf⟩ := lt_e hf
      obtain ⟨-, hf⟩ := ite_some hf
      obtain ⟨-, hf⟩ := ite_some hf
      obtain ⟨-, hf⟩ := ite_some hf
      obtain ⟨m8, em, hf⟩ := lt_e hf
      have hF := Fx_sI hF em (by decide)
      clear em
      obtain ⟨-, hf⟩ := ite_some hf
      obtain ⟨-, hf⟩ := ite_some hf
      obtain ⟨-, hf⟩ := ite_some hf
      obtain ⟨m9, em, hf⟩ := lt_e hf
      have hF := Fx_sI hF em (by decide)
      clear em
      obtain ⟨v10, -, hf⟩ := lt_e hf
      obtain ⟨v11, -, hf⟩ := lt_e hf
      exact hk70 hF hf
set_option maxRecDepth 100000 in
theorem mf_X9_begins_49 {hs : Hp} {o : Unit × Hp}  : ∀ (n : Nat) {x1 : Int32} {h : Hp}, Fx [126, 131] [] hs h → lp (F := Nat → Int32 → Hp → Option (Unit × Hp)) (fun _ _ _ => none) (f_X9_begins_49) n 108 x1 h = some o → Fx [126, 131] [] hs o.2 := by
  intro n
  induction n with
  | zero =>
    intro x1 h hF hf
    have hf : (none : Option (Unit × Hp)) = some o := hf
    cases hf
  | succ n hk49 =>
    intro x1 h hF hf
    have hf : f_X9_begins_49  (lp (F := Nat → Int32 → Hp → Option (Unit × Hp)) (fun _ _ _ => none) (f_X9_begins_49) n) 108 x1 h = some o := hf
    unfold f_X9_begins_49 at hf
    rcases ite_or hf with hf | hf
    · obtain rfl := Option.some.inj hf
      exact hF
    · obtain ⟨-, hf⟩ := ite_some hf
      obtain ⟨q5, e9, hf⟩ := Option.bind_eq_some_iff.mp hf
      have e9 := mf_X9_seatsOf e9
      have hF := hF.eqr e9
      clear e9
      exact mf_X9_begins_70 hk49 1000 hF hf
set_option maxRecDepth 100000 in
theorem mf_X9_begins_23 {hs : Hp} {o : Unit × Hp}  : ∀ (n : Nat) {x1 : Int32} {h : Hp}, Fx [126, 131] [] hs h → lp (F := Nat → Int32 → Hp → Option (Unit × Hp)) (fun _ _ _ => none) (f_X9_begins_23) n 108 x1 h = some o → Fx [126, 131] [] hs o.2 := by
  intro n
  induction n with
  | zero =>
    intro x1 h hF hf
    have hf : (none : Option (Unit × Hp)) = some o := hf
    cases hf
  | succ n hk23 =>
    intro x1 h hF hf
    have hf : f_X9_begins_23  (lp (F := Nat → Int32 → Hp → Option (Unit × Hp)) (fun _ _ _ => none) (f_X9_begins_23) n) 108 x1 h = some o := hf
    unfold f_X9_begins_23 at hf
    rcases ite_or hf with hf | hf
    · exact mf_X9_begins_49  1000 hF hf
    · obtain ⟨-, hf⟩ := ite_some hf
      obtain ⟨-, hf⟩ := ite_some hf
      obtain ⟨m3, em, hf⟩ := lt_e hf
      have hF := Fx_sI hF em (by decide)
      clear em
      obtain ⟨v4, -, hf⟩ := lt_e hf
      exact hk23 hF hf
set_option maxRecDepth 100000 in
theorem mf_X9_begins_2 {hs : Hp} {o : Unit × Hp}  : ∀ (n : Nat) {x1 : Int32} {h : Hp}, Fx [126, 131] [] hs h → lp (F := Nat → Int32 → Hp → Option (Unit × Hp)) (fun _ _ _ => none) (f_X9_begins_2) n 108 x1 h = some o → Fx [126, 131] [] hs o.2 := by
  intro n
  induction n with
  | zero =>
    intro x1 h hF hf
    have hf : (none : Option (Unit × Hp)) = some o := hf
    cases hf
  | succ n hk2 =>
    intro x1 h hF hf
    have hf : f_X9_begins_2  (lp (F := Nat → Int32 → Hp → Option (Unit × Hp)) (fun _ _ _ => none) (f_X9_begins_2) n) 108 x1 h = some o := hf
    unfold f_X9_begins_2 at hf
    rcases ite_or hf with hf | hf
    · exact mf_X9_begins_23  1000 hF hf
    · obtain ⟨-, hf⟩ := ite_some hf
      obtain ⟨m1, em, hf⟩ := lt_e hf
      have hF := Fx_sI hF em (by decide)
      clear em
      obtain ⟨v2, -, hf⟩ := lt_e hf
      exact hk2 hF hf
set_option maxRecDepth 100000 in
theorem mf_X9_begins  {h : Hp} {o : Unit × Hp} (hf : f_X9_begins 108 h = some o) : Fx [126, 131] [] h o.2 := by
  have hF : Fx [126, 131] [] h h := Fx.refl
  unfold f_X9_begins at hf
  exact mf_X9_begins_2  1000 hF hf
set_option maxRecDepth 100000 in
theorem mf_X9_differs_4 {hs : Hp} {o : Int32 × Hp}  : ∀ (n : Nat) {x1 : Int32} {x2 : Int32} {h : Hp}, Fx [] [] hs h → lp (F := Nat → Int32 → Int32 → Hp → Option (Int32 × Hp)) (fun _ _ _ _ => none) (f_X9_differs_4) n 108 x1 x2 h = some o → Fx [] [] hs o.2 := by
  intro n
  induction n with
  | zero =>
    intro x1 x2 h hF hf
    have hf : (none : Option (Int32 × Hp)) = some o := hf
    cases hf
  | succ n hk4 =>
    intro x1 x2 h hF hf
    have hf : f_X9_differs_4  (lp (F := Nat → Int32 → Int32 → Hp → Option (Int32 × Hp)) (fun _ _ _ _ => none) (f_X9_differs_4) n) 108 x1 x2 h = some o := hf
    unfold f_X9_differs_4 at hf
    rcases ite_or hf with hf | hf
    · obtain ⟨-, hf⟩ := ite_none hf
      obtain rfl := Option.some.inj hf
      exact hF
    · obtain ⟨-, hf⟩ := ite_some hf
      obtain ⟨-, hf⟩ := ite_some hf
      obtain ⟨v1, -, hf⟩ := lt_e hf
      obtain ⟨v2, -, hf⟩ := lt_e hf
      exact hk4 hF hf
set_option maxRecDepth 100000 in
theorem mf_X9_differs  {h : Hp} {o : Int32 × Hp} (hf : f_X9_differs 108 h = some o) : h = o.2 := by
  refine Fx_eq ?_
  have hF : Fx [] [] h h := Fx.refl
  unfold f_X9_differs at hf
  exact mf_X9_differs_4  1000 hF hf
set_option maxRecDepth 100000 in
theorem mf_X9_feed {x1 : Int32} {h : Hp} {o : Int32 × Hp} (hf : f_X9_feed 108 x1 h = some o) : Fx [111] [6] h o.2 := by
  have hF : Fx [111] [6] h h := Fx.refl
  unfold f_X9_feed at hf
  obtain ⟨q1, e9, hf⟩ := Option.bind_eq_some_iff.mp hf
  have e9 := mf_X9_within e9
  have hF := hF.eqr e9
  clear e9
  rcases ite_or hf with hf | hf
  · obtain rfl := Option.some.inj hf
    exact hF
  · rcases ite_or hf with hf | hf
    · obtain rfl := Option.some.inj hf
      exact hF
    · obtain ⟨-, hf⟩ := ite_some hf
      obtain ⟨m2, em, hf⟩ := lt_e hf
      have hF := Fx_sI hF em (by decide)
      clear em
      obtain ⟨m3, em, hf⟩ := lt_e hf
      have hF := Fx_f hF em (by decide)
      clear em
      obtain rfl := Option.some.inj hf
      exact hF
set_option maxRecDepth 100000 in
theorem mf_X9_givesByRests_226 {hs : Hp} {o : Int32 × Hp} {k187 : Nat → Int32 → Int32 → Int32 → Hp → Option (Int32 × Hp)} (hk187 : ∀ {x4 : Int32} {x5 : Int32} {x6 : Int32} {h : Hp}, Fx [116, 118, 119] [] hs h → k187 108 x4 x5 x6 h = some o → Fx [116, 118, 119] [] hs o.2) {x4 : Int32} {x5 : Int32} {x6 : Int32} {h : Hp} (hF : Fx [116, 118, 119] [] hs h) (hf : f_X9_givesByRests_226 k187 108 x4 x5 x6 h = some o) : Fx [116, 118, 119] [] hs o.2 := by
  unfold f_X9_givesByRests_226 at hf
  obtain ⟨q12, e9, hf⟩ := Option.bind_eq_some_iff.mp hf
  have e9 := mf_X9_greatestRest e9
  have hF := hF.eqr e9
  clear e9
  obtain ⟨-, hf⟩ := ite_some hf
  obtain ⟨m13, em, hf⟩ := lt_e hf
  have hF := Fx_sI hF em (by decide)
  clear em
  obtain ⟨-, hf⟩ := ite_some hf
  obtain ⟨-, hf⟩ := ite_some hf
  obtain ⟨m14, em, hf⟩ := lt_e hf
  have hF := Fx_sI hF em (by decide)
  clear em
  obtain ⟨v15, -, hf⟩ := lt_e hf
  exact hk187 hF hf
set_option maxRecDepth 100000 in
theorem mf_X9_givesByRests_197 {hs : Hp} {o : Int32 × Hp} {k187 : Nat → Int32 → Int32 → Int32 → Hp → Option (Int32 × Hp)} (hk187 : ∀ {x4 : Int32} {x5 : Int32} {x6 : Int32} {h : Hp}, Fx [116, 118, 119] [] hs h → k187 108 x4 x5 x6 h = some o → Fx [116, 118, 119] [] hs o.2) : ∀ (n : Nat) {x4 : Int32} {x5 : Int32} {x6 : Int32} {x7 : Int32} {h : Hp}, Fx [116, 118, 119] [] hs h → lp (F := Nat → Int32 → Int32 → Int32 → Int32 → Hp → Option (Int32 × Hp)) (fun _ _ _ _ _ _ => none) (f_X9_givesByRests_197 k187) n 108 x4 x5 x6 x7 h = some o → Fx [116, 118, 119] [] hs o.2 := by
  intro n
  induction n with
  | zero =>
    intro x4 x5 x6 x7 h hF hf
    have hf : (none : Option (Int32 × Hp)) = some o := hf
    cases hf
  | succ n hk197 =>
    intro x4 x5 x6 x7 h hF hf
    have hf : f_X9_givesByRests_197 k187 (lp (F := Nat → Int32 → Int32 → Int32 → Int32 → Hp → Option (Int32 × Hp)) (fun _ _ _ _ _ _ => none) (f_X9_givesByRests_197 k187) n) 108 x4 x5 x6 x7 h = some o := hf
    unfold f_X9_givesByRests_197 at hf
    obtain ⟨-, hf⟩ := ite_none hf
    rcases ite_or hf with hf | hf
    · rcases ite_or hf with hf | hf
      · exact mf_X9_givesByRests_226 hk187 hF hf
      · obtain ⟨-, hf⟩ := ite_some hf
        obtain ⟨m10, em, hf⟩ := lt_e hf
        have hF := Fx_sI hF em (by decide)
        clear em
        obtain ⟨v11, -, hf⟩ := lt_e hf
        exact hk197 hF hf
    · exact mf_X9_givesByRests_226 hk187 hF hf
set_option maxRecDepth 100000 in
theorem mf_X9_givesByRests_187 {hs : Hp} {o : Int32 × Hp}  : ∀ (n : Nat) {x4 : Int32} {x5 : Int32} {x6 : Int32} {h : Hp}, Fx [116, 118, 119] [] hs h → lp (F := Nat → Int32 → Int32 → Int32 → Hp → Option (Int32 × Hp)) (fun _ _ _ _ _ => none) (f_X9_givesByRests_187) n 108 x4 x5 x6 h = some o → Fx [116, 118, 119] [] hs o.2 := by
  intro n
  induction n with
  | zero =>
    intro x4 x5 x6 h hF hf
    have hf : (none : Option (Int32 × Hp)) = some o := hf
    cases hf
  | succ n hk187 =>
    intro x4 x5 x6 h hF hf
    have hf : f_X9_givesByRests_187  (lp (F := Nat → Int32 → Int32 → Int32 → Hp → Option (Int32 × Hp)) (fun _ _ _ _ _ => none) (f_X9_givesByRests_187) n) 108 x4 x5 x6 h = some o := hf
    unfold f_X9_givesByRests_187 at hf
    rcases ite_or hf with hf | hf
    · obtain ⟨-, hf⟩ := ite_some hf
      obtain rfl := Option.some.inj hf
      exact hF
    · exact mf_X9_givesByRests_197 hk187 1000 hF hf
set_option maxRecDepth 100000 in
theorem mf_X9_givesByRests_184 {hs : Hp} {o : Int32 × Hp}  {x4 : Int32} {x5 : Int32} {h : Hp} (hF : Fx [116, 118, 119] [] hs h) (hf : f_X9_givesByRests_184  108 x4 x5 h = some o) : Fx [116, 118, 119] [] hs o.2 := by
  unfold f_X9_givesByRests_184 at hf
  exact mf_X9_givesByRests_187  1000 hF hf
set_option maxRecDepth 100000 in
theorem mf_X9_givesByRests_161 {hs : Hp} {o : Int32 × Hp} {k38 : Nat → Int32 → Int64 → Int32 → Int32 → Int32 → Hp → Option (Int32 × Hp)} (hk38 : ∀ {x1 : Int32} {x2 : Int64} {x4 : Int32} {x5 : Int32} {x6 : Int32} {h : Hp}, Fx [116, 118, 119] [] hs h → k38 108 x1 x2 x4 x5 x6 h = some o → Fx [116, 118, 119] [] hs o.2) {x1 : Int32} {x2 : Int64} {x4 : Int32} {x5 : Int32} {x6 : Int32} {h : Hp} (hF : Fx [116, 118, 119] [] hs h) (hf : f_X9_givesByRests_161 k38 108 x1 x2 x4 x5 x6 h = some o) : Fx [116, 118, 119] [] hs o.2 := by
  unfold f_X9_givesByRests_161 at hf
  obtain ⟨v16, -, hf⟩ := lt_e hf
  exact hk38 hF hf
set_option maxRecDepth 100000 in
theorem mf_X9_givesByRests_38 {hs : Hp} {o : Int32 × Hp}  : ∀ (n : Nat) {x1 : Int32} {x2 : Int64} {x4 : Int32} {x5 : Int32} {x6 : Int32} {h : Hp}, Fx [116, 118, 119] [] hs h → lp (F := Nat → Int32 → Int64 → Int32 → Int32 → Int32 → Hp → Option (Int32 × Hp)) (fun _ _ _ _ _ _ _ => none) (f_X9_givesByRests_38) n 108 x1 x2 x4 x5 x6 h = some o → Fx [116, 118, 119] [] hs o.2 := by
  intro n
  induction n with
  | zero =>
    intro x1 x2 x4 x5 x6 h hF hf
    have hf : (none : Option (Int32 × Hp)) = some o := hf
    cases hf
  | succ n hk38 =>
    intro x1 x2 x4 x5 x6 h hF hf
    have hf : f_X9_givesByRests_38  (lp (F := Nat → Int32 → Int64 → Int32 → Int32 → Int32 → Hp → Option (Int32 × Hp)) (fun _ _ _ _ _ _ _ => none) (f_X9_givesByRests_38) n) 108 x1 x2 x4 x5 x6 h = some o := hf
    unfold f_X9_givesByRests_38 at hf
    rcases ite_or hf with hf | hf
    · rcases ite_or hf with hf | hf
      · obtain ⟨-, hf⟩ := ite_some hf
        obtain rfl := Option.some.inj hf
        exact hF
      · rcases ite_or hf with hf | hf
        · exact mf_X9_givesByRests_184  hF hf
        · rcases ite_or hf with hf | hf
          · obtain ⟨-, hf⟩ := ite_some hf
            obtain rfl := Option.some.inj hf
            exact hF
          · exact mf_X9_givesByRests_184  hF hf
    · obtain ⟨-, hf⟩ := ite_some hf
      obtain ⟨m3, em, hf⟩ := lt_e hf
      have hF := Fx_sI hF em (by decide)
      clear em
      obtain ⟨-, hf⟩ := ite_some hf
      obtain ⟨m4, em, hf⟩ := lt_e hf
      have hF := Fx_sL hF em (by decide)
      clear em
      obtain ⟨-, hf⟩ := ite_some hf
      rcases ite_or hf with hf | hf
      · exact mf_X9_givesByRests_161 hk38 hF hf
      · obtain ⟨-, hf⟩ := ite_some hf
        obtain ⟨-, hf⟩ := ite_none hf
        obtain ⟨v5, -, hf⟩ := lt_e hf
        obtain ⟨-, hf⟩ := ite_some hf
        obtain ⟨-, hf⟩ := ite_some hf
        obtain ⟨m6, em, hf⟩ := lt_e hf
        have hF := Fx_sI hF em (by decide)
        clear em
        obtain ⟨-, hf⟩ := ite_some hf
        obtain ⟨v7, -, hf⟩ := lt_e hf
        obtain ⟨-, hf⟩ := ite_some hf
        rcases ite_or hf with hf | hf
        · exact mf_X9_givesByRests_161 hk38 hF hf
        · obtain ⟨-, hf⟩ := ite_some hf
          obtain ⟨-, hf⟩ := ite_none hf
          obtain ⟨-, hf⟩ := ite_some hf
          obtain ⟨m8, em, hf⟩ := lt_e hf
          have hF := Fx_sL hF em (by decide)
          clear em
          obtain ⟨v9, -, hf⟩ := lt_e hf
          exact mf_X9_givesByRests_161 hk38 hF hf
set_option maxRecDepth 100000 in
theorem mf_X9_givesByRests_5 {hs : Hp} {o : Int32 × Hp}  : ∀ (n : Nat) {x1 : Int32} {x2 : Int64} {x4 : Int32} {h : Hp}, Fx [116, 118, 119] [] hs h → lp (F := Nat → Int32 → Int64 → Int32 → Hp → Option (Int32 × Hp)) (fun _ _ _ _ _ => none) (f_X9_givesByRests_5) n 108 x1 x2 x4 h = some o → Fx [116, 118, 119] [] hs o.2 := by
  intro n
  induction n with
  | zero =>
    intro x1 x2 x4 h hF hf
    have hf : (none : Option (Int32 × Hp)) = some o := hf
    cases hf
  | succ n hk5 =>
    intro x1 x2 x4 h hF hf
    have hf : f_X9_givesByRests_5  (lp (F := Nat → Int32 → Int64 → Int32 → Hp → Option (Int32 × Hp)) (fun _ _ _ _ _ => none) (f_X9_givesByRests_5) n) 108 x1 x2 x4 h = some o := hf
    unfold f_X9_givesByRests_5 at hf
    rcases ite_or hf with hf | hf
    · exact mf_X9_givesByRests_38  1000 hF hf
    · obtain ⟨-, hf⟩ := ite_some hf
      obtain ⟨v1, -, hf⟩ := lt_e hf
      obtain ⟨v2, -, hf⟩ := lt_e hf
      exact hk5 hF hf
set_option maxRecDepth 100000 in
theorem mf_X9_givesByRests {x1 : Int32} {h : Hp} {o : Int32 × Hp} (hf : f_X9_givesByRests 108 x1 h = some o) : Fx [116, 118, 119] [] h o.2 := by
  have hF : Fx [116, 118, 119] [] h h := Fx.refl
  unfold f_X9_givesByRests at hf
  exact mf_X9_givesByRests_5  1000 hF hf
set_option maxRecDepth 100000 in
theorem mf_X9_isFigure  {h : Hp} {o : Int32 × Hp} (hf : f_X9_isFigure 108 h = some o) : h = o.2 := by
  refine Fx_eq ?_
  have hF : Fx [] [] h h := Fx.refl
  unfold f_X9_isFigure at hf
  rcases ite_or hf with hf | hf
  · obtain ⟨-, hf⟩ := ite_some hf
    obtain rfl := Option.some.inj hf
    exact hF
  · obtain ⟨-, hf⟩ := ite_some hf
    obtain ⟨q1, e9, hf⟩ := Option.bind_eq_some_iff.mp hf
    have e9 := mf_X9_within e9
    have hF := hF.eqr e9
    clear e9
    rcases ite_or hf with hf | hf
    · obtain ⟨-, hf⟩ := ite_some hf
      obtain rfl := Option.some.inj hf
      exact hF
    · obtain ⟨-, hf⟩ := ite_some hf
      obtain rfl := Option.some.inj hf
      exact hF
set_option maxRecDepth 100000 in
theorem mf_X9_isHouse {x0 : Int32} {h : Hp} {o : Int32 × Hp} (hf : f_X9_isHouse x0 h = some o) : h = o.2 := by
  refine Fx_eq ?_
  have hF : Fx [] [] h h := Fx.refl
  unfold f_X9_isHouse at hf
  obtain ⟨q1, e9, hf⟩ := Option.bind_eq_some_iff.mp hf
  have e9 := mf_X9_within e9
  have hF := hF.eqr e9
  clear e9
  obtain ⟨-, hf⟩ := ite_some hf
  obtain rfl := Option.some.inj hf
  exact hF
set_option maxRecDepth 100000 in
theorem mf_X9_isParty {x0 : Int32} {h : Hp} {o : Int32 × Hp} (hf : f_X9_isParty x0 h = some o) : h = o.2 := by
  refine Fx_eq ?_
  have hF : Fx [] [] h h := Fx.refl
  unfold f_X9_isParty at hf
  obtain ⟨q1, e9, hf⟩ := Option.bind_eq_some_iff.mp hf
  have e9 := mf_X9_within e9
  have hF := hF.eqr e9
  clear e9
  obtain ⟨-, hf⟩ := ite_some hf
  obtain rfl := Option.some.inj hf
  exact hF
set_option maxRecDepth 100000 in
theorem mf_X9_isRow {x0 : Int32} {h : Hp} {o : Int32 × Hp} (hf : f_X9_isRow x0 h = some o) : h = o.2 := by
  refine Fx_eq ?_
  have hF : Fx [] [] h h := Fx.refl
  unfold f_X9_isRow at hf
  obtain ⟨q1, e9, hf⟩ := Option.bind_eq_some_iff.mp hf
  have e9 := mf_X9_within e9
  have hF := hF.eqr e9
  clear e9
  obtain ⟨-, hf⟩ := ite_some hf
  obtain rfl := Option.some.inj hf
  exact hF
set_option maxRecDepth 100000 in
theorem mf_X9_isWard {x0 : Int32} {h : Hp} {o : Int32 × Hp} (hf : f_X9_isWard x0 h = some o) : h = o.2 := by
  refine Fx_eq ?_
  have hF : Fx [] [] h h := Fx.refl
  unfold f_X9_isWard at hf
  obtain ⟨q1, e9, hf⟩ := Option.bind_eq_some_iff.mp hf
  have e9 := mf_X9_within e9
  have hF := hF.eqr e9
  clear e9
  obtain ⟨-, hf⟩ := ite_some hf
  obtain rfl := Option.some.inj hf
  exact hF
set_option maxRecDepth 100000 in
theorem mf_X9_lowest {x0 : Int64} {x2 : Int64} {x4 : Int32} {h : Hp} {o : Int64 × Hp} (hf : f_X9_lowest x0 x2 x4 h = some o) : h = o.2 := by
  refine Fx_eq ?_
  have hF : Fx [] [] h h := Fx.refl
  unfold f_X9_lowest at hf
  obtain ⟨q1, e9, hf⟩ := Option.bind_eq_some_iff.mp hf
  have e9 := mf_X9_divisor e9
  have hF := hF.eqr e9
  clear e9
  rcases ite_or hf with hf | hf
  · obtain ⟨-, hf⟩ := ite_none hf
    obtain rfl := Option.some.inj hf
    exact hF
  · obtain ⟨-, hf⟩ := ite_none hf
    obtain rfl := Option.some.inj hf
    exact hF
set_option maxRecDepth 100000 in
theorem mf_X9_ofWard_4 {hs : Hp} {o : Int32 × Hp}  : ∀ (n : Nat) {x1 : Int32} {x2 : Int32} {x3 : Int32} {h : Hp}, Fx [] [] hs h → lp (F := Nat → Int32 → Int32 → Int32 → Hp → Option (Int32 × Hp)) (fun _ _ _ _ _ => none) (f_X9_ofWard_4) n 108 x1 x2 x3 h = some o → Fx [] [] hs o.2 := by
  intro n
  induction n with
  | zero =>
    intro x1 x2 x3 h hF hf
    have hf : (none : Option (Int32 × Hp)) = some o := hf
    cases hf
  | succ n hk4 =>
    intro x1 x2 x3 h hF hf
    have hf : f_X9_ofWard_4  (lp (F := Nat → Int32 → Int32 → Int32 → Hp → Option (Int32 × Hp)) (fun _ _ _ _ _ => none) (f_X9_ofWard_4) n) 108 x1 x2 x3 h = some o := hf
    unfold f_X9_ofWard_4 at hf
    rcases ite_or hf with hf | hf
    · obtain rfl := Option.some.inj hf
      exact hF
    · obtain ⟨q1, e9, hf⟩ := Option.bind_eq_some_iff.mp hf
      have e9 := mf_X9_votesOf e9
      have hF := hF.eqr e9
      clear e9
      obtain ⟨v2, -, hf⟩ := lt_e hf
      obtain ⟨v3, -, hf⟩ := lt_e hf
      exact hk4 hF hf
set_option maxRecDepth 100000 in
theorem mf_X9_ofWard {x1 : Int32} {h : Hp} {o : Int32 × Hp} (hf : f_X9_ofWard 108 x1 h = some o) : h = o.2 := by
  refine Fx_eq ?_
  have hF : Fx [] [] h h := Fx.refl
  unfold f_X9_ofWard at hf
  exact mf_X9_ofWard_4  1000 hF hf
set_option maxRecDepth 100000 in
theorem mf_X9_paper {x1 : Int32} {h : Hp} {o : Int32 × Hp} (hf : f_X9_paper 108 x1 h = some o) : h = o.2 := by
  refine Fx_eq ?_
  have hF : Fx [] [] h h := Fx.refl
  unfold f_X9_paper at hf
  obtain ⟨q1, e9, hf⟩ := Option.bind_eq_some_iff.mp hf
  have e9 := mf_X9_within e9
  have hF := hF.eqr e9
  clear e9
  rcases ite_or hf with hf | hf
  · obtain rfl := Option.some.inj hf
    exact hF
  · obtain ⟨-, hf⟩ := ite_some hf
    obtain rfl := Option.some.inj hf
    exact hF
set_option maxRecDepth 100000 in
theorem mf_X9_product_153 {hs : Hp} {o : Int64 × Hp} {k112 : Nat → Nat → Int32 → Int64 → Int32 → Hp → Option (Int64 × Hp)} (hk112 : ∀ {a1 : Nat} {x2 : Int32} {x3 : Int64} {x5 : Int32} {h : Hp}, Fx [] [38] hs h → k112 108 a1 x2 x3 x5 h = some o → Fx [] [38] hs o.2) {a1 : Nat} {x2 : Int32} {x5 : Int32} {y0 : Int32} {y1 : Int32} {y3 : Int64} {h : Hp} (hF : Fx [] [38] hs h) (hf : f_X9_product_153 k112 108 a1 x2 x5 y0 y1 108 y3 108 h = some o) : Fx [] [38] hs o.2 := by
  unfold f_X9_product_153 at hf
  obtain ⟨q9, e9, hf⟩ := Option.bind_eq_some_iff.mp hf
  have e9 := mf_X9_above e9
  have hF := hF.eqr e9
  clear e9
  obtain ⟨q10, e9, hf⟩ := Option.bind_eq_some_iff.mp hf
  have hF := hF.trans ((mf_X9_times e9).mono (by decide) (by decide))
  clear e9
  obtain ⟨v11, -, hf⟩ := lt_e hf
  exact hk112 hF hf
set_option maxRecDepth 100000 in
theorem mf_X9_product_112 {hs : Hp} {o : Int64 × Hp}  : ∀ (n : Nat) {a1 : Nat} {x2 : Int32} {x3 : Int64} {x5 : Int32} {h : Hp}, Fx [] [38] hs h → lp (F := Nat → Nat → Int32 → Int64 → Int32 → Hp → Option (Int64 × Hp)) (fun _ _ _ _ _ _ => none) (f_X9_product_112) n 108 a1 x2 x3 x5 h = some o → Fx [] [38] hs o.2 := by
  intro n
  induction n with
  | zero =>
    intro a1 x2 x3 x5 h hF hf
    have hf : (none : Option (Int64 × Hp)) = some o := hf
    cases hf
  | succ n hk112 =>
    intro a1 x2 x3 x5 h hF hf
    have hf : f_X9_product_112  (lp (F := Nat → Nat → Int32 → Int64 → Int32 → Hp → Option (Int64 × Hp)) (fun _ _ _ _ _ _ => none) (f_X9_product_112) n) 108 a1 x2 x3 x5 h = some o := hf
    unfold f_X9_product_112 at hf
    rcases ite_or hf with hf | hf
    · obtain rfl := Option.some.inj hf
      exact hF
    · obtain ⟨q6, e9, hf⟩ := Option.bind_eq_some_iff.mp hf
      have e9 := mf_X9_wayNow e9
      have hF := hF.eqr e9
      clear e9
      rcases ite_or hf with hf | hf
      · obtain ⟨q7, e9, hf⟩ := Option.bind_eq_some_iff.mp hf
        have e9 := mf_X9_gains e9
        have hF := hF.eqr e9
        clear e9
        obtain ⟨-, hf⟩ := ite_some hf
        exact mf_X9_product_153 hk112 hF hf
      · obtain ⟨q8, e9, hf⟩ := Option.bind_eq_some_iff.mp hf
        have e9 := mf_X9_givesUp e9
        have hF := hF.eqr e9
        clear e9
        obtain ⟨-, hf⟩ := ite_some hf
        exact mf_X9_product_153 hk112 hF hf
set_option maxRecDepth 100000 in
theorem mf_X9_product_95 {hs : Hp} {o : Int64 × Hp} {k54 : Nat → Nat → Int32 → Int64 → Int32 → Hp → Option (Int64 × Hp)} (hk54 : ∀ {a1 : Nat} {x2 : Int32} {x3 : Int64} {x5 : Int32} {h : Hp}, Fx [] [38] hs h → k54 108 a1 x2 x3 x5 h = some o → Fx [] [38] hs o.2) {a1 : Nat} {x2 : Int32} {x5 : Int32} {y0 : Int32} {y1 : Int32} {y3 : Int64} {h : Hp} (hF : Fx [] [38] hs h) (hf : f_X9_product_95 k54 108 a1 x2 x5 y0 y1 108 y3 108 h = some o) : Fx [] [38] hs o.2 := by
  unfold f_X9_product_95 at hf
  obtain ⟨q12, e9, hf⟩ := Option.bind_eq_some_iff.mp hf
  have e9 := mf_X9_below e9
  have hF := hF.eqr e9
  clear e9
  obtain ⟨q13, e9, hf⟩ := Option.bind_eq_some_iff.mp hf
  have hF := hF.trans ((mf_X9_times e9).mono (by decide) (by decide))
  clear e9
  obtain ⟨v14, -, hf⟩ := lt_e hf
  exact hk54 hF hf
set_option maxRecDepth 100000 in
theorem mf_X9_product_54 {hs : Hp} {o : Int64 × Hp}  : ∀ (n : Nat) {a1 : Nat} {x2 : Int32} {x3 : Int64} {x5 : Int32} {h : Hp}, Fx [] [38] hs h → lp (F := Nat → Nat → Int32 → Int64 → Int32 → Hp → Option (Int64 × Hp)) (fun _ _ _ _ _ _ => none) (f_X9_product_54) n 108 a1 x2 x3 x5 h = some o → Fx [] [38] hs o.2 := by
  intro n
  induction n with
  | zero =>
    intro a1 x2 x3 x5 h hF hf
    have hf : (none : Option (Int64 × Hp)) = some o := hf
    cases hf
  | succ n hk54 =>
    intro a1 x2 x3 x5 h hF hf
    have hf : f_X9_product_54  (lp (F := Nat → Nat → Int32 → Int64 → Int32 → Hp → Option (Int64 × Hp)) (fun _ _ _ _ _ _ => none) (f_X9_product_54) n) 108 a1 x2 x3 x5 h = some o := hf
    unfold f_X9_product_54 at hf
    rcases ite_or hf with hf | hf
    · exact mf_X9_product_112  1000 hF hf
    · obtain ⟨q3, e9, hf⟩ := Option.bind_eq_some_iff.mp hf
      have e9 := mf_X9_wayNow e9
      have hF := hF.eqr e9
      clear e9
      rcases ite_or hf with hf | hf
      · obtain ⟨q4, e9, hf⟩ := Option.bind_eq_some_iff.mp hf
        have e9 := mf_X9_givesUp e9
        have hF := hF.eqr e9
        clear e9
        obtain ⟨-, hf⟩ := ite_some hf
        exact mf_X9_product_95 hk54 hF hf
      · obtain ⟨q5, e9, hf⟩ := Option.bind_eq_some_iff.mp hf
        have e9 := mf_X9_gains e9
        have hF := hF.eqr e9
        clear e9
        obtain ⟨-, hf⟩ := ite_some hf
        exact mf_X9_product_95 hk54 hF hf
set_option maxRecDepth 100000 in
theorem mf_X9_product_39 {hs : Hp} {o : Int64 × Hp} {k5 : Nat → Nat → Int32 → Int64 → Int32 → Hp → Option (Int64 × Hp)} (hk5 : ∀ {a1 : Nat} {x2 : Int32} {x3 : Int64} {x5 : Int32} {h : Hp}, Fx [] [38] hs h → k5 108 a1 x2 x3 x5 h = some o → Fx [] [38] hs o.2) {a1 : Nat} {x2 : Int32} {x5 : Int32} {y0 : Int32} {y2 : Int64} {h : Hp} (hF : Fx [] [38] hs h) (hf : f_X9_product_39 k5 108 a1 x2 x5 y0 (108 + 1) y2 108 h = some o) : Fx [] [38] hs o.2 := by
  unfold f_X9_product_39 at hf
  obtain ⟨-, hf⟩ := ite_some hf
  obtain ⟨q15, e9, hf⟩ := Option.bind_eq_some_iff.mp hf
  have hF := hF.trans ((mf_X9_times e9).mono (by decide) (by decide))
  clear e9
  obtain ⟨v16, -, hf⟩ := lt_e hf
  exact hk5 hF hf
set_option maxRecDepth 100000 in
theorem mf_X9_product_5 {hs : Hp} {o : Int64 × Hp}  : ∀ (n : Nat) {a1 : Nat} {x2 : Int32} {x3 : Int64} {x5 : Int32} {h : Hp}, Fx [] [38] hs h → lp (F := Nat → Nat → Int32 → Int64 → Int32 → Hp → Option (Int64 × Hp)) (fun _ _ _ _ _ _ => none) (f_X9_product_5) n 108 a1 x2 x3 x5 h = some o → Fx [] [38] hs o.2 := by
  intro n
  induction n with
  | zero =>
    intro a1 x2 x3 x5 h hF hf
    have hf : (none : Option (Int64 × Hp)) = some o := hf
    cases hf
  | succ n hk5 =>
    intro a1 x2 x3 x5 h hF hf
    have hf : f_X9_product_5  (lp (F := Nat → Nat → Int32 → Int64 → Int32 → Hp → Option (Int64 × Hp)) (fun _ _ _ _ _ _ => none) (f_X9_product_5) n) 108 a1 x2 x3 x5 h = some o := hf
    unfold f_X9_product_5 at hf
    rcases ite_or hf with hf | hf
    · exact mf_X9_product_54  1000 hF hf
    · rcases ite_or hf with hf | hf
      · obtain ⟨q1, e9, hf⟩ := Option.bind_eq_some_iff.mp hf
        have e9 := mf_X9_givesUp e9
        have hF := hF.eqr e9
        clear e9
        exact mf_X9_product_39 hk5 hF hf
      · obtain ⟨q2, e9, hf⟩ := Option.bind_eq_some_iff.mp hf
        have e9 := mf_X9_gains e9
        have hF := hF.eqr e9
        clear e9
        exact mf_X9_product_39 hk5 hF hf
set_option maxRecDepth 100000 in
theorem mf_X9_product {a1 : Nat} {x2 : Int32} {h : Hp} {o : Int64 × Hp} (hf : f_X9_product 108 a1 x2 h = some o) : Fx [] [38] h o.2 := by
  have hF : Fx [] [38] h h := Fx.refl
  unfold f_X9_product at hf
  exact mf_X9_product_5  1000 hF hf
set_option maxRecDepth 100000 in
theorem mf_X9_tell {x1 : Int32} {x2 : Int32} {h : Hp} {o : Int32 × Hp} (hf : f_X9_tell 108 x1 x2 h = some o) : Fx [109] [3] h o.2 := by
  have hF : Fx [109] [3] h h := Fx.refl
  unfold f_X9_tell at hf
  obtain ⟨q1, e9, hf⟩ := Option.bind_eq_some_iff.mp hf
  have e9 := mf_X9_within e9
  have hF := hF.eqr e9
  clear e9
  rcases ite_or hf with hf | hf
  · obtain rfl := Option.some.inj hf
    exact hF
  · obtain ⟨q2, e9, hf⟩ := Option.bind_eq_some_iff.mp hf
    have e9 := mf_X9_within e9
    have hF := hF.eqr e9
    clear e9
    rcases ite_or hf with hf | hf
    · obtain rfl := Option.some.inj hf
      exact hF
    · rcases ite_or hf with hf | hf
      · obtain ⟨q3, e9, hf⟩ := Option.bind_eq_some_iff.mp hf
        have hF := hF.trans ((mf_X9_tells e9).mono (by decide) (by decide))
        clear e9
        obtain ⟨q4, e9, hf⟩ := Option.bind_eq_some_iff.mp hf
        have hF := hF.trans ((mf_X9_tells e9).mono (by decide) (by decide))
        clear e9
        obtain rfl := Option.some.inj hf
        exact hF
      · obtain rfl := Option.some.inj hf
        exact hF
set_option maxRecDepth 100000 in
theorem mf_X9_top {x1 : Int32} {x2 : Int64} {x4 : Int32} {h : Hp} {o : Int64 × Hp} (hf : f_X9_top 108 x1 x2 x4 h = some o) : h = o.2 := by
  refine Fx_eq ?_
  have hF : Fx [] [] h h := Fx.refl
  unfold f_X9_top at hf
  rcases ite_or hf with hf | hf
  · obtain rfl := Option.some.inj hf
    exact hF
  · obtain ⟨q1, e9, hf⟩ := Option.bind_eq_some_iff.mp hf
    have e9 := mf_X9_below e9
    have hF := hF.eqr e9
    clear e9
    obtain rfl := Option.some.inj hf
    exact hF
set_option maxRecDepth 100000 in
theorem mf_X9_total_4 {hs : Hp} {o : Int32 × Hp}  : ∀ (n : Nat) {x1 : Int32} {x2 : Int32} {x3 : Int32} {h : Hp}, Fx [] [] hs h → lp (F := Nat → Int32 → Int32 → Int32 → Hp → Option (Int32 × Hp)) (fun _ _ _ _ _ => none) (f_X9_total_4) n 108 x1 x2 x3 h = some o → Fx [] [] hs o.2 := by
  intro n
  induction n with
  | zero =>
    intro x1 x2 x3 h hF hf
    have hf : (none : Option (Int32 × Hp)) = some o := hf
    cases hf
  | succ n hk4 =>
    intro x1 x2 x3 h hF hf
    have hf : f_X9_total_4  (lp (F := Nat → Int32 → Int32 → Int32 → Hp → Option (Int32 × Hp)) (fun _ _ _ _ _ => none) (f_X9_total_4) n) 108 x1 x2 x3 h = some o := hf
    unfold f_X9_total_4 at hf
    rcases ite_or hf with hf | hf
    · obtain rfl := Option.some.inj hf
      exact hF
    · obtain ⟨q1, e9, hf⟩ := Option.bind_eq_some_iff.mp hf
      have e9 := mf_X9_votesOf e9
      have hF := hF.eqr e9
      clear e9
      obtain ⟨v2, -, hf⟩ := lt_e hf
      obtain ⟨v3, -, hf⟩ := lt_e hf
      exact hk4 hF hf
set_option maxRecDepth 100000 in
theorem mf_X9_total {x1 : Int32} {h : Hp} {o : Int32 × Hp} (hf : f_X9_total 108 x1 h = some o) : h = o.2 := by
  refine Fx_eq ?_
  have hF : Fx [] [] h h := Fx.refl
  unfold f_X9_total at hf
  exact mf_X9_total_4  1000 hF hf
set_option maxRecDepth 100000 in
theorem mf_X9_wardsWithSeats_25 {hs : Hp} {o : Int32 × Hp} {k4 : Nat → Int32 → Int32 → Hp → Option (Int32 × Hp)} (hk4 : ∀ {x1 : Int32} {x2 : Int32} {h : Hp}, Fx [] [] hs h → k4 108 x1 x2 h = some o → Fx [] [] hs o.2) {x2 : Int32} {y0 : Int32} {y1 : Int32} {h : Hp} (hF : Fx [] [] hs h) (hf : f_X9_wardsWithSeats_25 k4 108 x2 y0 y1 h = some o) : Fx [] [] hs o.2 := by
  unfold f_X9_wardsWithSeats_25 at hf
  obtain ⟨v2, -, hf⟩ := lt_e hf
  obtain ⟨v3, -, hf⟩ := lt_e hf
  exact hk4 hF hf
set_option maxRecDepth 100000 in
theorem mf_X9_wardsWithSeats_4 {hs : Hp} {o : Int32 × Hp}  : ∀ (n : Nat) {x1 : Int32} {x2 : Int32} {h : Hp}, Fx [] [] hs h → lp (F := Nat → Int32 → Int32 → Hp → Option (Int32 × Hp)) (fun _ _ _ _ => none) (f_X9_wardsWithSeats_4) n 108 x1 x2 h = some o → Fx [] [] hs o.2 := by
  intro n
  induction n with
  | zero =>
    intro x1 x2 h hF hf
    have hf : (none : Option (Int32 × Hp)) = some o := hf
    cases hf
  | succ n hk4 =>
    intro x1 x2 h hF hf
    have hf : f_X9_wardsWithSeats_4  (lp (F := Nat → Int32 → Int32 → Hp → Option (Int32 × Hp)) (fun _ _ _ _ => none) (f_X9_wardsWithSeats_4) n) 108 x1 x2 h = some o := hf
    unfold f_X9_wardsWithSeats_4 at hf
    rcases ite_or hf with hf | hf
    · obtain rfl := Option.some.inj hf
      exact hF
    · obtain ⟨q1, e9, hf⟩ := Option.bind_eq_some_iff.mp hf
      have e9 := mf_X9_seatsOf e9
      have hF := hF.eqr e9
      clear e9
      rcases ite_or hf with hf | hf
      · exact mf_X9_wardsWithSeats_25 hk4 hF hf
      · exact mf_X9_wardsWithSeats_25 hk4 hF hf
set_option maxRecDepth 100000 in
theorem mf_X9_wardsWithSeats  {h : Hp} {o : Int32 × Hp} (hf : f_X9_wardsWithSeats 108 h = some o) : h = o.2 := by
  refine Fx_eq ?_
  have hF : Fx [] [] h h := Fx.refl
  unfold f_X9_wardsWithSeats at hf
  exact mf_X9_wardsWithSeats_4  1000 hF hf
set_option maxRecDepth 100000 in
theorem mf_X9_way {x1 : Int32} {h : Hp} {o : Int32 × Hp} (hf : f_X9_way 108 x1 h = some o) : Fx [109] [3] h o.2 := by
  have hF : Fx [109] [3] h h := Fx.refl
  unfold f_X9_way at hf
  obtain ⟨q1, e9, hf⟩ := Option.bind_eq_some_iff.mp hf
  have e9 := mf_X9_within e9
  have hF := hF.eqr e9
  clear e9
  rcases ite_or hf with hf | hf
  · obtain rfl := Option.some.inj hf
    exact hF
  · obtain ⟨q2, e9, hf⟩ := Option.bind_eq_some_iff.mp hf
    have hF := hF.trans ((mf_X9_tells e9).mono (by decide) (by decide))
    clear e9
    obtain rfl := Option.some.inj hf
    exact hF
set_option maxRecDepth 100000 in
theorem mf_X9_writesNumber_17 {hs : Hp} {o : Unit × Hp}  {x1 : Int32} {h : Hp} (hF : Fx [127] [28] hs h) (hf : f_X9_writesNumber_17  108 x1 h = some o) : Fx [127] [28] hs o.2 := by
  unfold f_X9_writesNumber_17 at hf
  obtain ⟨-, hf⟩ := ite_none hf
  obtain ⟨q2, e9, hf⟩ := Option.bind_eq_some_iff.mp hf
  have hF := hF.trans ((mf_X9_writes e9).mono (by decide) (by decide))
  clear e9
  obtain rfl := Option.some.inj hf
  exact hF
set_option maxRecDepth 100000 in
theorem mf_X9_writesNumber {x1 : Int32} {h : Hp} {o : Unit × Hp} (hf : f_X9_writesNumber 108 x1 h = some o) : Fx [127] [28] h o.2 := by
  have hF : Fx [127] [28] h h := Fx.refl
  unfold f_X9_writesNumber at hf
  rcases ite_or hf with hf | hf
  · exact mf_X9_writesNumber_17  hF hf
  · obtain ⟨-, hf⟩ := ite_none hf
    obtain ⟨q1, e9, hf⟩ := Option.bind_eq_some_iff.mp hf
    have hF := hF.trans ((mf_X9_writes e9).mono (by decide) (by decide))
    clear e9
    exact mf_X9_writesNumber_17  hF hf
set_option maxRecDepth 100000 in
theorem mf_X9_all_4 {hs : Hp} {o : Int32 × Hp}  : ∀ (n : Nat) {x1 : Int32} {x2 : Int32} {h : Hp}, Fx [] [] hs h → lp (F := Nat → Int32 → Int32 → Hp → Option (Int32 × Hp)) (fun _ _ _ _ => none) (f_X9_all_4) n 108 x1 x2 h = some o → Fx [] [] hs o.2 := by
  intro n
  induction n with
  | zero =>
    intro x1 x2 h hF hf
    have hf : (none : Option (Int32 × Hp)) = some o := hf
    cases hf
  | succ n hk4 =>
    intro x1 x2 h hF hf
    have hf : f_X9_all_4  (lp (F := Nat → Int32 → Int32 → Hp → Option (Int32 × Hp)) (fun _ _ _ _ => none) (f_X9_all_4) n) 108 x1 x2 h = some o := hf
    unfold f_X9_all_4 at hf
    rcases ite_or hf with hf | hf
    · obtain rfl := Option.some.inj hf
      exact hF
    · obtain ⟨q1, e9, hf⟩ := Option.bind_eq_some_iff.mp hf
      have e9 := mf_X9_ofWard e9
      have hF := hF.eqr e9
      clear e9
      obtain ⟨v2, -, hf⟩ := lt_e hf
      obtain ⟨v3, -, hf⟩ := lt_e hf
      exact hk4 hF hf
set_option maxRecDepth 100000 in
theorem mf_X9_all  {h : Hp} {o : Int32 × Hp} (hf : f_X9_all 108 h = some o) : h = o.2 := by
  refine Fx_eq ?_
  have hF : Fx [] [] h h := Fx.refl
  unfold f_X9_all at hf
  exact mf_X9_all_4  1000 hF hf
set_option maxRecDepth 100000 in
theorem mf_X9_dearer_95 {hs : Hp} {o : Int32 × Hp}  {x10 : Int64} {y0 : Int64} {h : Hp} (hF : Fx [] [] hs h) (hf : f_X9_dearer_95  x10 y0 h = some o) : Fx [] [] hs o.2 := by
  unfold f_X9_dearer_95 at hf
  rcases ite_or hf with hf | hf
  · rcases ite_or hf with hf | hf
    · obtain rfl := Option.some.inj hf
      exact hF
    · obtain rfl := Option.some.inj hf
      exact hF
  · obtain rfl := Option.some.inj hf
    exact hF
set_option maxRecDepth 100000 in
theorem mf_X9_dearer_70 {hs : Hp} {o : Int32 × Hp}  {x1 : Int32} {x5 : Int64} {x7 : Int32} {x8 : Int32} {y0 : Int64} {h : Hp} (hF : Fx [] [] hs h) (hf : f_X9_dearer_70  108 x1 x5 x7 x8 y0 h = some o) : Fx [] [] hs o.2 := by
  unfold f_X9_dearer_70 at hf
  rcases ite_or hf with hf | hf
  · exact mf_X9_dearer_95  hF hf
  · obtain ⟨q4, e9, hf⟩ := Option.bind_eq_some_iff.mp hf
    have e9 := mf_X9_top e9
    have hF := hF.eqr e9
    clear e9
    exact mf_X9_dearer_95  hF hf
set_option maxRecDepth 100000 in
theorem mf_X9_dearer_49 {hs : Hp} {o : Int32 × Hp}  {x1 : Int32} {x2 : Int64} {x4 : Int32} {x5 : Int64} {x7 : Int32} {x8 : Int32} {x9 : Int32} {h : Hp} (hF : Fx [] [] hs h) (hf : f_X9_dearer_49  108 x1 x2 x4 x5 x7 x8 x9 h = some o) : Fx [] [] hs o.2 := by
  unfold f_X9_dearer_49 at hf
  rcases ite_or hf with hf | hf
  · exact mf_X9_dearer_70  hF hf
  · obtain ⟨q3, e9, hf⟩ := Option.bind_eq_some_iff.mp hf
    have e9 := mf_X9_top e9
    have hF := hF.eqr e9
    clear e9
    exact mf_X9_dearer_70  hF hf
set_option maxRecDepth 100000 in
theorem mf_X9_dearer_38 {hs : Hp} {o : Int32 × Hp}  {x8 : Int32} {h : Hp} (hF : Fx [] [] hs h) (hf : f_X9_dearer_38  x8 h = some o) : Fx [] [] hs o.2 := by
  unfold f_X9_dearer_38 at hf
  rcases ite_or hf with hf | hf
  · obtain rfl := Option.some.inj hf
    exact hF
  · obtain rfl := Option.some.inj hf
    exact hF
set_option maxRecDepth 100000 in
theorem mf_X9_dearer_28 {hs : Hp} {o : Int32 × Hp}  {x1 : Int32} {x2 : Int64} {x4 : Int32} {x5 : Int64} {x7 : Int32} {x8 : Int32} {x9 : Int32} {h : Hp} (hF : Fx [] [] hs h) (hf : f_X9_dearer_28  108 x1 x2 x4 x5 x7 x8 x9 h = some o) : Fx [] [] hs o.2 := by
  unfold f_X9_dearer_28 at hf
  rcases ite_or hf with hf | hf
  · exact mf_X9_dearer_49  hF hf
  · rcases ite_or hf with hf | hf
    · exact mf_X9_dearer_38  hF hf
    · exact mf_X9_dearer_49  hF hf
set_option maxRecDepth 100000 in
theorem mf_X9_dearer {x1 : Int32} {x2 : Int64} {x4 : Int32} {x5 : Int64} {x7 : Int32} {h : Hp} {o : Int32 × Hp} (hf : f_X9_dearer 108 x1 x2 x4 x5 x7 h = some o) : h = o.2 := by
  refine Fx_eq ?_
  have hF : Fx [] [] h h := Fx.refl
  unfold f_X9_dearer at hf
  obtain ⟨q1, e9, hf⟩ := Option.bind_eq_some_iff.mp hf
  have e9 := mf_X9_above e9
  have hF := hF.eqr e9
  clear e9
  obtain ⟨q2, e9, hf⟩ := Option.bind_eq_some_iff.mp hf
  have e9 := mf_X9_above e9
  have hF := hF.eqr e9
  clear e9
  rcases ite_or hf with hf | hf
  · rcases ite_or hf with hf | hf
    · exact mf_X9_dearer_28  hF hf
    · exact mf_X9_dearer_38  hF hf
  · exact mf_X9_dearer_28  hF hf
set_option maxRecDepth 100000 in
theorem mf_X9_get {x1 : Int32} {x2 : Int32} {h : Hp} {o : Int64 × Hp} (hf : f_X9_get 108 x1 x2 h = some o) : h = o.2 := by
  refine Fx_eq ?_
  have hF : Fx [] [] h h := Fx.refl
  unfold f_X9_get at hf
  obtain ⟨q1, e9, hf⟩ := Option.bind_eq_some_iff.mp hf
  have e9 := mf_X9_isRow e9
  have hF := hF.eqr e9
  clear e9
  rcases ite_or hf with hf | hf
  · obtain rfl := Option.some.inj hf
    exact hF
  · obtain ⟨-, hf⟩ := ite_some hf
    obtain ⟨q2, e9, hf⟩ := Option.bind_eq_some_iff.mp hf
    have e9 := mf_X9_within e9
    have hF := hF.eqr e9
    clear e9
    rcases ite_or hf with hf | hf
    · obtain rfl := Option.some.inj hf
      exact hF
    · obtain ⟨-, hf⟩ := ite_some hf
      obtain rfl := Option.some.inj hf
      exact hF
set_option maxRecDepth 100000 in
theorem mf_X9_isBetter {a1 : Nat} {h : Hp} {o : Int32 × Hp} (hf : f_X9_isBetter 108 a1 h = some o) : Fx [] [38] h o.2 := by
  have hF : Fx [] [38] h h := Fx.refl
  unfold f_X9_isBetter at hf
  obtain ⟨q1, e9, hf⟩ := Option.bind_eq_some_iff.mp hf
  have hF := hF.trans ((mf_X9_product e9).mono (by decide) (by decide))
  clear e9
  obtain ⟨q2, e9, hf⟩ := Option.bind_eq_some_iff.mp hf
  have hF := hF.trans ((mf_X9_product e9).mono (by decide) (by decide))
  clear e9
  rcases ite_or hf with hf | hf
  · rcases ite_or hf with hf | hf
    · obtain ⟨-, hf⟩ := ite_some hf
      obtain rfl := Option.some.inj hf
      exact hF
    · obtain ⟨-, hf⟩ := ite_some hf
      obtain rfl := Option.some.inj hf
      exact hF
  · obtain ⟨-, hf⟩ := ite_some hf
    obtain rfl := Option.some.inj hf
    exact hF
set_option maxRecDepth 100000 in
theorem mf_X9_join {x1 : Int32} {x2 : Int32} {h : Hp} {o : Int32 × Hp} (hf : f_X9_join 108 x1 x2 h = some o) : Fx [109] [3] h o.2 := by
  have hF : Fx [109] [3] h h := Fx.refl
  unfold f_X9_join at hf
  obtain ⟨q1, e9, hf⟩ := Option.bind_eq_some_iff.mp hf
  have e9 := mf_X9_isParty e9
  have hF := hF.eqr e9
  clear e9
  rcases ite_or hf with hf | hf
  · obtain rfl := Option.some.inj hf
    exact hF
  · obtain ⟨q2, e9, hf⟩ := Option.bind_eq_some_iff.mp hf
    have e9 := mf_X9_isParty e9
    have hF := hF.eqr e9
    clear e9
    rcases ite_or hf with hf | hf
    · obtain rfl := Option.some.inj hf
      exact hF
    · obtain ⟨q3, e9, hf⟩ := Option.bind_eq_some_iff.mp hf
      have hF := hF.trans ((mf_X9_tells e9).mono (by decide) (by decide))
      clear e9
      obtain rfl := Option.some.inj hf
      exact hF
set_option maxRecDepth 100000 in
theorem mf_X9_least {x1 : Int32} {x2 : Int32} {h : Hp} {o : Int32 × Hp} (hf : f_X9_least 108 x1 x2 h = some o) : Fx [109] [3] h o.2 := by
  have hF : Fx [109] [3] h h := Fx.refl
  unfold f_X9_least at hf
  obtain ⟨q1, e9, hf⟩ := Option.bind_eq_some_iff.mp hf
  have e9 := mf_X9_isParty e9
  have hF := hF.eqr e9
  clear e9
  rcases ite_or hf with hf | hf
  · obtain rfl := Option.some.inj hf
    exact hF
  · obtain ⟨q2, e9, hf⟩ := Option.bind_eq_some_iff.mp hf
    have e9 := mf_X9_within e9
    have hF := hF.eqr e9
    clear e9
    rcases ite_or hf with hf | hf
    · obtain rfl := Option.some.inj hf
      exact hF
    · obtain ⟨q3, e9, hf⟩ := Option.bind_eq_some_iff.mp hf
      have hF := hF.trans ((mf_X9_tells e9).mono (by decide) (by decide))
      clear e9
      obtain rfl := Option.some.inj hf
      exact hF
set_option maxRecDepth 100000 in
theorem mf_X9_price {x1 : Int32} {x2 : Int32} {x3 : Int32} {h : Hp} {o : Int64 × Hp} (hf : f_X9_price 108 x1 x2 x3 h = some o) : h = o.2 := by
  refine Fx_eq ?_
  have hF : Fx [] [] h h := Fx.refl
  unfold f_X9_price at hf
  obtain ⟨q1, e9, hf⟩ := Option.bind_eq_some_iff.mp hf
  have e9 := mf_X9_isParty e9
  have hF := hF.eqr e9
  clear e9
  rcases ite_or hf with hf | hf
  · obtain rfl := Option.some.inj hf
    exact hF
  · obtain ⟨q2, e9, hf⟩ := Option.bind_eq_some_iff.mp hf
    have e9 := mf_X9_within e9
    have hF := hF.eqr e9
    clear e9
    rcases ite_or hf with hf | hf
    · obtain rfl := Option.some.inj hf
      exact hF
    · obtain ⟨q3, e9, hf⟩ := Option.bind_eq_some_iff.mp hf
      have e9 := mf_X9_isPart e9
      have hF := hF.eqr e9
      clear e9
      rcases ite_or hf with hf | hf
      · obtain rfl := Option.some.inj hf
        exact hF
      · obtain ⟨q4, e9, hf⟩ := Option.bind_eq_some_iff.mp hf
        have e9 := mf_X9_wayNow e9
        have hF := hF.eqr e9
        clear e9
        rcases ite_or hf with hf | hf
        · obtain rfl := Option.some.inj hf
          exact hF
        · obtain ⟨q5, e9, hf⟩ := Option.bind_eq_some_iff.mp hf
          have e9 := mf_X9_wayNow e9
          have hF := hF.eqr e9
          clear e9
          obtain ⟨q6, e9, hf⟩ := Option.bind_eq_some_iff.mp hf
          have e9 := mf_X9_above e9
          have hF := hF.eqr e9
          clear e9
          rcases ite_or hf with hf | hf
          · obtain rfl := Option.some.inj hf
            exact hF
          · obtain ⟨q7, e9, hf⟩ := Option.bind_eq_some_iff.mp hf
            have e9 := mf_X9_wayNow e9
            have hF := hF.eqr e9
            clear e9
            obtain ⟨q8, e9, hf⟩ := Option.bind_eq_some_iff.mp hf
            have e9 := mf_X9_total e9
            have hF := hF.eqr e9
            clear e9
            obtain ⟨q9, e9, hf⟩ := Option.bind_eq_some_iff.mp hf
            have e9 := mf_X9_top e9
            have hF := hF.eqr e9
            clear e9
            obtain ⟨q10, e9, hf⟩ := Option.bind_eq_some_iff.mp hf
            have e9 := mf_X9_wayNow e9
            have hF := hF.eqr e9
            clear e9
            obtain ⟨q11, e9, hf⟩ := Option.bind_eq_some_iff.mp hf
            have e9 := mf_X9_above e9
            have hF := hF.eqr e9
            clear e9
            obtain ⟨q12, e9, hf⟩ := Option.bind_eq_some_iff.mp hf
            have e9 := mf_X9_lowest e9
            have hF := hF.eqr e9
            clear e9
            obtain rfl := Option.some.inj hf
            exact hF
set_option maxRecDepth 100000 in
theorem mf_X9_readsVotes_56 {hs : Hp} {o : Int32 × Hp}  {x1 : Int32} {x2 : Int32} {h : Hp} (hF : Fx [] [7] hs h) (hf : f_X9_readsVotes_56  108 x1 x2 h = some o) : Fx [] [7] hs o.2 := by
  unfold f_X9_readsVotes_56 at hf
  rcases ite_or hf with hf | hf
  · obtain rfl := Option.some.inj hf
    exact hF
  · rcases ite_or hf with hf | hf
    · obtain rfl := Option.some.inj hf
      exact hF
    · obtain rfl := Option.some.inj hf
      exact hF
set_option maxRecDepth 100000 in
theorem mf_X9_readsVotes_7 {hs : Hp} {o : Int32 × Hp}  : ∀ (n : Nat) {x1 : Int32} {x2 : Int32} {h : Hp}, Fx [] [7] hs h → lp (F := Nat → Int32 → Int32 → Hp → Option (Int32 × Hp)) (fun _ _ _ _ => none) (f_X9_readsVotes_7) n 108 x1 x2 h = some o → Fx [] [7] hs o.2 := by
  intro n
  induction n with
  | zero =>
    intro x1 x2 h hF hf
    have hf : (none : Option (Int32 × Hp)) = some o := hf
    cases hf
  | succ n hk7 =>
    intro x1 x2 h hF hf
    have hf : f_X9_readsVotes_7  (lp (F := Nat → Int32 → Int32 → Hp → Option (Int32 × Hp)) (fun _ _ _ _ => none) (f_X9_readsVotes_7) n) 108 x1 x2 h = some o := hf
    unfold f_X9_readsVotes_7 at hf
    obtain ⟨q2, e9, hf⟩ := Option.bind_eq_some_iff.mp hf
    have e9 := mf_X9_isFigure e9
    have hF := hF.eqr e9
    clear e9
    rcases ite_or hf with hf | hf
    · exact mf_X9_readsVotes_56  hF hf
    · rcases ite_or hf with hf | hf
      · exact mf_X9_readsVotes_56  hF hf
      · obtain ⟨-, hf⟩ := ite_some hf
        obtain ⟨v3, -, hf⟩ := lt_e hf
        obtain ⟨m4, em, hf⟩ := lt_e hf
        have hF := Fx_f hF em (by decide)
        clear em
        exact hk7 hF hf
set_option maxRecDepth 100000 in
theorem mf_X9_readsVotes  {h : Hp} {o : Int32 × Hp} (hf : f_X9_readsVotes 108 h = some o) : Fx [] [7] h o.2 := by
  have hF : Fx [] [7] h h := Fx.refl
  unfold f_X9_readsVotes at hf
  obtain ⟨v1, -, hf⟩ := lt_e hf
  exact mf_X9_readsVotes_7  1000 hF hf
set_option maxRecDepth 100000 in
theorem mf_X9_row_34 {hs : Hp} {o : Int32 × Hp}  : ∀ (n : Nat) {x1 : Int32} {x2 : Int32} {x3 : Int32} {h : Hp}, Fx [134, 135] [] hs h → lp (F := Nat → Int32 → Int32 → Int32 → Hp → Option (Int32 × Hp)) (fun _ _ _ _ _ => none) (f_X9_row_34) n 108 x1 x2 x3 h = some o → Fx [134, 135] [] hs o.2 := by
  intro n
  induction n with
  | zero =>
    intro x1 x2 x3 h hF hf
    have hf : (none : Option (Int32 × Hp)) = some o := hf
    cases hf
  | succ n hk34 =>
    intro x1 x2 x3 h hF hf
    have hf : f_X9_row_34  (lp (F := Nat → Int32 → Int32 → Int32 → Hp → Option (Int32 × Hp)) (fun _ _ _ _ _ => none) (f_X9_row_34) n) 108 x1 x2 x3 h = some o := hf
    unfold f_X9_row_34 at hf
    rcases ite_or hf with hf | hf
    · obtain rfl := Option.some.inj hf
      exact hF
    · obtain ⟨-, hf⟩ := ite_some hf
      obtain ⟨m3, em, hf⟩ := lt_e hf
      have hF := Fx_sI hF em (by decide)
      clear em
      obtain ⟨v4, -, hf⟩ := lt_e hf
      exact hk34 hF hf
set_option maxRecDepth 100000 in
theorem mf_X9_row {x1 : Int32} {x2 : Int32} {h : Hp} {o : Int32 × Hp} (hf : f_X9_row 108 x1 x2 h = some o) : Fx [134, 135] [] h o.2 := by
  have hF : Fx [134, 135] [] h h := Fx.refl
  unfold f_X9_row at hf
  obtain ⟨q1, e9, hf⟩ := Option.bind_eq_some_iff.mp hf
  have e9 := mf_X9_isRow e9
  have hF := hF.eqr e9
  clear e9
  rcases ite_or hf with hf | hf
  · obtain rfl := Option.some.inj hf
    exact hF
  · rcases ite_or hf with hf | hf
    · rcases ite_or hf with hf | hf
      · obtain ⟨-, hf⟩ := ite_some hf
        obtain ⟨m2, em, hf⟩ := lt_e hf
        have hF := Fx_sI hF em (by decide)
        clear em
        exact mf_X9_row_34  1000 hF hf
      · obtain rfl := Option.some.inj hf
        exact hF
    · obtain rfl := Option.some.inj hf
      exact hF
set_option maxRecDepth 100000 in
theorem mf_X9_seats {x1 : Int32} {x2 : Int32} {h : Hp} {o : Int32 × Hp} (hf : f_X9_seats 108 x1 x2 h = some o) : Fx [109] [3] h o.2 := by
  have hF : Fx [109] [3] h h := Fx.refl
  unfold f_X9_seats at hf
  obtain ⟨q1, e9, hf⟩ := Option.bind_eq_some_iff.mp hf
  have e9 := mf_X9_isWard e9
  have hF := hF.eqr e9
  clear e9
  rcases ite_or hf with hf | hf
  · obtain rfl := Option.some.inj hf
    exact hF
  · obtain ⟨q2, e9, hf⟩ := Option.bind_eq_some_iff.mp hf
    have e9 := mf_X9_within e9
    have hF := hF.eqr e9
    clear e9
    rcases ite_or hf with hf | hf
    · obtain rfl := Option.some.inj hf
      exact hF
    · obtain ⟨q3, e9, hf⟩ := Option.bind_eq_some_iff.mp hf
      have hF := hF.trans ((mf_X9_tells e9).mono (by decide) (by decide))
      clear e9
      obtain rfl := Option.some.inj hf
      exact hF
set_option maxRecDepth 100000 in
theorem mf_X9_set {x1 : Int32} {x2 : Int32} {x3 : Int32} {h : Hp} {o : Int32 × Hp} (hf : f_X9_set 108 x1 x2 x3 h = some o) : Fx [134] [] h o.2 := by
  have hF : Fx [134] [] h h := Fx.refl
  unfold f_X9_set at hf
  obtain ⟨q1, e9, hf⟩ := Option.bind_eq_some_iff.mp hf
  have e9 := mf_X9_isRow e9
  have hF := hF.eqr e9
  clear e9
  rcases ite_or hf with hf | hf
  · obtain rfl := Option.some.inj hf
    exact hF
  · obtain ⟨-, hf⟩ := ite_some hf
    rcases ite_or hf with hf | hf
    · obtain rfl := Option.some.inj hf
      exact hF
    · obtain ⟨-, hf⟩ := ite_some hf
      obtain ⟨q2, e9, hf⟩ := Option.bind_eq_some_iff.mp hf
      have e9 := mf_X9_within e9
      have hF := hF.eqr e9
      clear e9
      rcases ite_or hf with hf | hf
      · obtain rfl := Option.some.inj hf
        exact hF
      · obtain ⟨-, hf⟩ := ite_some hf
        obtain ⟨m3, em, hf⟩ := lt_e hf
        have hF := Fx_sI hF em (by decide)
        clear em
        obtain rfl := Option.some.inj hf
        exact hF
set_option maxRecDepth 100000 in
theorem mf_X9_vote {x1 : Int32} {x2 : Int32} {x3 : Int32} {h : Hp} {o : Int32 × Hp} (hf : f_X9_vote 108 x1 x2 x3 h = some o) : Fx [109] [3] h o.2 := by
  have hF : Fx [109] [3] h h := Fx.refl
  unfold f_X9_vote at hf
  obtain ⟨q1, e9, hf⟩ := Option.bind_eq_some_iff.mp hf
  have e9 := mf_X9_isWard e9
  have hF := hF.eqr e9
  clear e9
  rcases ite_or hf with hf | hf
  · obtain rfl := Option.some.inj hf
    exact hF
  · obtain ⟨q2, e9, hf⟩ := Option.bind_eq_some_iff.mp hf
    have e9 := mf_X9_isParty e9
    have hF := hF.eqr e9
    clear e9
    rcases ite_or hf with hf | hf
    · obtain rfl := Option.some.inj hf
      exact hF
    · obtain ⟨q3, e9, hf⟩ := Option.bind_eq_some_iff.mp hf
      have e9 := mf_X9_within e9
      have hF := hF.eqr e9
      clear e9
      rcases ite_or hf with hf | hf
      · obtain rfl := Option.some.inj hf
        exact hF
      · obtain ⟨q4, e9, hf⟩ := Option.bind_eq_some_iff.mp hf
        have hF := hF.trans ((mf_X9_tells e9).mono (by decide) (by decide))
        clear e9
        obtain rfl := Option.some.inj hf
        exact hF
set_option maxRecDepth 100000 in
theorem mf_X9_dearest_64 {hs : Hp} {o : Int32 × Hp} {k4 : Nat → Int32 → Int32 → Int32 → Hp → Option (Int32 × Hp)} (hk4 : ∀ {x1 : Int32} {x2 : Int32} {x3 : Int32} {h : Hp}, Fx [] [] hs h → k4 108 x1 x2 x3 h = some o → Fx [] [] hs o.2) {x1 : Int32} {x2 : Int32} {x3 : Int32} {h : Hp} (hF : Fx [] [] hs h) (hf : f_X9_dearest_64 k4 108 x1 x2 x3 h = some o) : Fx [] [] hs o.2 := by
  unfold f_X9_dearest_64 at hf
  obtain ⟨v2, -, hf⟩ := lt_e hf
  exact hk4 hF hf
set_option maxRecDepth 100000 in
theorem mf_X9_dearest_62 {hs : Hp} {o : Int32 × Hp} {k4 : Nat → Int32 → Int32 → Int32 → Hp → Option (Int32 × Hp)} (hk4 : ∀ {x1 : Int32} {x2 : Int32} {x3 : Int32} {h : Hp}, Fx [] [] hs h → k4 108 x1 x2 x3 h = some o → Fx [] [] hs o.2) {x1 : Int32} {x3 : Int32} {h : Hp} (hF : Fx [] [] hs h) (hf : f_X9_dearest_62 k4 108 x1 x3 h = some o) : Fx [] [] hs o.2 := by
  unfold f_X9_dearest_62 at hf
  exact mf_X9_dearest_64 hk4 hF hf
set_option maxRecDepth 100000 in
theorem mf_X9_dearest_4 {hs : Hp} {o : Int32 × Hp}  : ∀ (n : Nat) {x1 : Int32} {x2 : Int32} {x3 : Int32} {h : Hp}, Fx [] [] hs h → lp (F := Nat → Int32 → Int32 → Int32 → Hp → Option (Int32 × Hp)) (fun _ _ _ _ _ => none) (f_X9_dearest_4) n 108 x1 x2 x3 h = some o → Fx [] [] hs o.2 := by
  intro n
  induction n with
  | zero =>
    intro x1 x2 x3 h hF hf
    have hf : (none : Option (Int32 × Hp)) = some o := hf
    cases hf
  | succ n hk4 =>
    intro x1 x2 x3 h hF hf
    have hf : f_X9_dearest_4  (lp (F := Nat → Int32 → Int32 → Int32 → Hp → Option (Int32 × Hp)) (fun _ _ _ _ _ => none) (f_X9_dearest_4) n) 108 x1 x2 x3 h = some o := hf
    unfold f_X9_dearest_4 at hf
    rcases ite_or hf with hf | hf
    · obtain rfl := Option.some.inj hf
      exact hF
    · obtain ⟨-, hf⟩ := ite_some hf
      rcases ite_or hf with hf | hf
      · exact mf_X9_dearest_64 hk4 hF hf
      · rcases ite_or hf with hf | hf
        · exact mf_X9_dearest_62 hk4 hF hf
        · obtain ⟨-, hf⟩ := ite_some hf
          obtain ⟨-, hf⟩ := ite_some hf
          obtain ⟨-, hf⟩ := ite_some hf
          obtain ⟨-, hf⟩ := ite_some hf
          obtain ⟨q1, e9, hf⟩ := Option.bind_eq_some_iff.mp hf
          have e9 := mf_X9_dearer e9
          have hF := hF.eqr e9
          clear e9
          rcases ite_or hf with hf | hf
          · exact mf_X9_dearest_64 hk4 hF hf
          · exact mf_X9_dearest_62 hk4 hF hf
set_option maxRecDepth 100000 in
theorem mf_X9_dearest {x1 : Int32} {h : Hp} {o : Int32 × Hp} (hf : f_X9_dearest 108 x1 h = some o) : h = o.2 := by
  refine Fx_eq ?_
  have hF : Fx [] [] h h := Fx.refl
  unfold f_X9_dearest at hf
  exact mf_X9_dearest_4  1000 hF hf
set_option maxRecDepth 100000 in
theorem mf_X9_edge_119 {hs : Hp} {o : Int32 × Hp} {k4 : Nat → Int32 → Int32 → Int32 → Hp → Option (Int32 × Hp)} (hk4 : ∀ {x1 : Int32} {x2 : Int32} {x3 : Int32} {h : Hp}, Fx [] [] hs h → k4 108 x1 x2 x3 h = some o → Fx [] [] hs o.2) {x1 : Int32} {x2 : Int32} {x3 : Int32} {h : Hp} (hF : Fx [] [] hs h) (hf : f_X9_edge_119 k4 108 x1 x2 x3 h = some o) : Fx [] [] hs o.2 := by
  unfold f_X9_edge_119 at hf
  obtain ⟨v1, -, hf⟩ := lt_e hf
  exact hk4 hF hf
set_option maxRecDepth 100000 in
theorem mf_X9_edge_117 {hs : Hp} {o : Int32 × Hp} {k4 : Nat → Int32 → Int32 → Int32 → Hp → Option (Int32 × Hp)} (hk4 : ∀ {x1 : Int32} {x2 : Int32} {x3 : Int32} {h : Hp}, Fx [] [] hs h → k4 108 x1 x2 x3 h = some o → Fx [] [] hs o.2) {x1 : Int32} {x3 : Int32} {h : Hp} (hF : Fx [] [] hs h) (hf : f_X9_edge_117 k4 108 x1 x3 h = some o) : Fx [] [] hs o.2 := by
  unfold f_X9_edge_117 at hf
  exact mf_X9_edge_119 hk4 hF hf
set_option maxRecDepth 100000 in
theorem mf_X9_edge_93 {hs : Hp} {o : Int32 × Hp} {k4 : Nat → Int32 → Int32 → Int32 → Hp → Option (Int32 × Hp)} (hk4 : ∀ {x1 : Int32} {x2 : Int32} {x3 : Int32} {h : Hp}, Fx [] [] hs h → k4 108 x1 x2 x3 h = some o → Fx [] [] hs o.2) {x1 : Int32} {x2 : Int32} {x3 : Int32} {y0 : Int32} {h : Hp} (hF : Fx [] [] hs h) (hf : f_X9_edge_93 k4 108 x1 x2 x3 y0 h = some o) : Fx [] [] hs o.2 := by
  unfold f_X9_edge_93 at hf
  rcases ite_or hf with hf | hf
  · exact mf_X9_edge_117 hk4 hF hf
  · rcases ite_or hf with hf | hf
    · rcases ite_or hf with hf | hf
      · exact mf_X9_edge_119 hk4 hF hf
      · exact mf_X9_edge_117 hk4 hF hf
    · rcases ite_or hf with hf | hf
      · exact mf_X9_edge_119 hk4 hF hf
      · exact mf_X9_edge_117 hk4 hF hf
set_option maxRecDepth 100000 in
theorem mf_X9_edge_42 {hs : Hp} {o : Int32 × Hp} {k4 : Nat → Int32 → Int32 → Int32 → Hp → Option (Int32 × Hp)} (hk4 : ∀ {x1 : Int32} {x2 : Int32} {x3 : Int32} {h : Hp}, Fx [] [] hs h → k4 108 x1 x2 x3 h = some o → Fx [] [] hs o.2) {x1 : Int32} {x2 : Int32} {x3 : Int32} {h : Hp} (hF : Fx [] [] hs h) (hf : f_X9_edge_42 k4 108 x1 x2 x3 h = some o) : Fx [] [] hs o.2 := by
  unfold f_X9_edge_42 at hf
  rcases ite_or hf with hf | hf
  · exact mf_X9_edge_93 hk4 hF hf
  · obtain ⟨q2, e9, hf⟩ := Option.bind_eq_some_iff.mp hf
    have e9 := mf_X9_wayNow e9
    have hF := hF.eqr e9
    clear e9
    obtain ⟨-, hf⟩ := ite_some hf
    obtain ⟨-, hf⟩ := ite_some hf
    obtain ⟨-, hf⟩ := ite_some hf
    obtain ⟨-, hf⟩ := ite_some hf
    obtain ⟨q3, e9, hf⟩ := Option.bind_eq_some_iff.mp hf
    have e9 := mf_X9_dearer e9
    have hF := hF.eqr e9
    clear e9
    exact mf_X9_edge_93 hk4 hF hf
set_option maxRecDepth 100000 in
theorem mf_X9_edge_4 {hs : Hp} {o : Int32 × Hp}  : ∀ (n : Nat) {x1 : Int32} {x2 : Int32} {x3 : Int32} {h : Hp}, Fx [] [] hs h → lp (F := Nat → Int32 → Int32 → Int32 → Hp → Option (Int32 × Hp)) (fun _ _ _ _ _ => none) (f_X9_edge_4) n 108 x1 x2 x3 h = some o → Fx [] [] hs o.2 := by
  intro n
  induction n with
  | zero =>
    intro x1 x2 x3 h hF hf
    have hf : (none : Option (Int32 × Hp)) = some o := hf
    cases hf
  | succ n hk4 =>
    intro x1 x2 x3 h hF hf
    have hf : f_X9_edge_4  (lp (F := Nat → Int32 → Int32 → Int32 → Hp → Option (Int32 × Hp)) (fun _ _ _ _ _ => none) (f_X9_edge_4) n) 108 x1 x2 x3 h = some o := hf
    unfold f_X9_edge_4 at hf
    rcases ite_or hf with hf | hf
    · obtain rfl := Option.some.inj hf
      exact hF
    · obtain ⟨-, hf⟩ := ite_some hf
      rcases ite_or hf with hf | hf
      · exact mf_X9_edge_119 hk4 hF hf
      · rcases ite_or hf with hf | hf
        · obtain ⟨-, hf⟩ := ite_some hf
          obtain ⟨-, hf⟩ := ite_some hf
          rcases ite_or hf with hf | hf
          · exact mf_X9_edge_42 hk4 hF hf
          · exact mf_X9_edge_119 hk4 hF hf
        · exact mf_X9_edge_42 hk4 hF hf
set_option maxRecDepth 100000 in
theorem mf_X9_edge {x1 : Int32} {h : Hp} {o : Int32 × Hp} (hf : f_X9_edge 108 x1 h = some o) : h = o.2 := by
  refine Fx_eq ?_
  have hF : Fx [] [] h h := Fx.refl
  unfold f_X9_edge at hf
  exact mf_X9_edge_4  1000 hF hf
set_option maxRecDepth 100000 in
theorem mf_X9_findsParties_91 {hs : Hp} {o : Int32 × Hp} {fr : Nat → Nat → Int32 → Hp → Option (Int32 × Hp)} (hfr : ∀ {a1 : Nat} {x2 : Int32} {h : Hp} {o : Int32 × Hp}, fr 108 a1 x2 h = some o → Fx [133] [38] h o.2) {k31 : Nat → Nat → Int32 → Int32 → Hp → Option (Int32 × Hp)} (hk31 : ∀ {a1 : Nat} {x2 : Int32} {x3 : Int32} {h : Hp}, Fx [133] [38] hs h → k31 108 a1 x2 x3 h = some o → Fx [133] [38] hs o.2) {a1 : Nat} {x2 : Int32} {x3 : Int32} {h : Hp} (hF : Fx [133] [38] hs h) (hf : f_X9_findsParties_91 fr k31 108 a1 x2 x3 h = some o) : Fx [133] [38] hs o.2 := by
  unfold f_X9_findsParties_91 at hf
  obtain ⟨v6, -, hf⟩ := lt_e hf
  exact hk31 hF hf
set_option maxRecDepth 100000 in
theorem mf_X9_findsParties_31 {hs : Hp} {o : Int32 × Hp} {fr : Nat → Nat → Int32 → Hp → Option (Int32 × Hp)} (hfr : ∀ {a1 : Nat} {x2 : Int32} {h : Hp} {o : Int32 × Hp}, fr 108 a1 x2 h = some o → Fx [133] [38] h o.2)  : ∀ (n : Nat) {a1 : Nat} {x2 : Int32} {x3 : Int32} {h : Hp}, Fx [133] [38] hs h → lp (F := Nat → Nat → Int32 → Int32 → Hp → Option (Int32 × Hp)) (fun _ _ _ _ _ => none) (f_X9_findsParties_31 fr) n 108 a1 x2 x3 h = some o → Fx [133] [38] hs o.2 := by
  intro n
  induction n with
  | zero =>
    intro a1 x2 x3 h hF hf
    have hf : (none : Option (Int32 × Hp)) = some o := hf
    cases hf
  | succ n hk31 =>
    intro a1 x2 x3 h hF hf
    have hf : f_X9_findsParties_31 fr  (lp (F := Nat → Nat → Int32 → Int32 → Hp → Option (Int32 × Hp)) (fun _ _ _ _ _ => none) (f_X9_findsParties_31 fr) n) 108 a1 x2 x3 h = some o := hf
    unfold f_X9_findsParties_31 at hf
    rcases ite_or hf with hf | hf
    · obtain ⟨-, hf⟩ := ite_some hf
      obtain rfl := Option.some.inj hf
      exact hF
    · obtain ⟨-, hf⟩ := ite_some hf
      obtain ⟨q2, e9, hf⟩ := Option.bind_eq_some_iff.mp hf
      have e9 := mf_X9_isRingParty e9
      have hF := hF.eqr e9
      clear e9
      rcases ite_or hf with hf | hf
      · obtain ⟨-, hf⟩ := ite_some hf
        obtain ⟨-, hf⟩ := ite_some hf
        obtain ⟨m3, em, hf⟩ := lt_e hf
        have hF := Fx_sI hF em (by decide)
        clear em
        obtain ⟨q4, e9, hf⟩ := Option.bind_eq_some_iff.mp hf
        have e9 := mf_X9_givesUp e9
        have hF := hF.eqr e9
        clear e9
        obtain ⟨-, hf⟩ := ite_some hf
        rcases ite_or hf with hf | hf
        · exact mf_X9_findsParties_91 hfr hk31 hF hf
        · obtain ⟨q5, e9, hf⟩ := Option.bind_eq_some_iff.mp hf
          have hF := hF.trans (hfr e9)
          clear e9
          rcases ite_or hf with hf | hf
          · exact mf_X9_findsParties_91 hfr hk31 hF hf
          · obtain ⟨-, hf⟩ := ite_some hf
            obtain rfl := Option.some.inj hf
            exact hF
      · exact mf_X9_findsParties_91 hfr hk31 hF hf
set_option maxRecDepth 100000 in
theorem mf_X9_findsParties_23 {hs : Hp} {o : Int32 × Hp} {fr : Nat → Nat → Int32 → Hp → Option (Int32 × Hp)} (hfr : ∀ {a1 : Nat} {x2 : Int32} {h : Hp} {o : Int32 × Hp}, fr 108 a1 x2 h = some o → Fx [133] [38] h o.2)   {h : Hp} (hF : Fx [133] [38] hs h) (hf : f_X9_findsParties_23 fr   h = some o) : Fx [133] [38] hs o.2 := by
  unfold f_X9_findsParties_23 at hf
  obtain ⟨-, hf⟩ := ite_some hf
  obtain rfl := Option.some.inj hf
  exact hF
set_option maxRecDepth 100000 in
theorem mf_X9_findsParties : ∀ {n : Nat} {a1 : Nat} {x2 : Int32} {h : Hp} {o : Int32 × Hp}, f_X9_findsParties n 108 a1 x2 h = some o → Fx [133] [38] h o.2 := by
  intro n
  induction n with
  | zero =>
    intro a1 x2 h o hf
    have hf : (none : Option (Int32 × Hp)) = some o := hf
    cases hf
  | succ n hfr =>
    intro a1 x2 h o hf
    have hf : f_X9_findsParties_0 (f_X9_findsParties n) 108 a1 x2 h = some o := hf
    have hF : Fx [133] [38] h h := Fx.refl
    unfold f_X9_findsParties_0 at hf
    rcases ite_or hf with hf | hf
    · obtain ⟨q1, e9, hf⟩ := Option.bind_eq_some_iff.mp hf
      have hF := hF.trans ((mf_X9_isBetter e9).mono (by decide) (by decide))
      clear e9
      rcases ite_or hf with hf | hf
      · rcases ite_or hf with hf | hf
        · obtain ⟨-, hf⟩ := ite_some hf
          obtain rfl := Option.some.inj hf
          exact hF
        · exact mf_X9_findsParties_23 hfr  hF hf
      · exact mf_X9_findsParties_23 hfr  hF hf
    · exact mf_X9_findsParties_31 hfr  1000 hF hf
set_option maxRecDepth 100000 in
theorem mf_X9_image  {h : Hp} {o : Int32 × Hp} (hf : f_X9_image 108 h = some o) : Fx [110] [2] h o.2 := by
  have hF : Fx [110] [2] h h := Fx.refl
  unfold f_X9_image at hf
  obtain ⟨m1, em, hf⟩ := lt_e hf
  have hF := Fx_rI hF em (by decide)
  clear em
  obtain ⟨m2, em, hf⟩ := lt_e hf
  have hF := Fx_f hF em (by decide)
  clear em
  obtain ⟨q3, e9, hf⟩ := Option.bind_eq_some_iff.mp hf
  have e9 := mf_X9_all e9
  have hF := hF.eqr e9
  clear e9
  obtain rfl := Option.some.inj hf
  exact hF
set_option maxRecDepth 100000 in
theorem mf_X9_isIn {x1 : Int32} {h : Hp} {o : Int32 × Hp} (hf : f_X9_isIn 108 x1 h = some o) : h = o.2 := by
  refine Fx_eq ?_
  have hF : Fx [] [] h h := Fx.refl
  unfold f_X9_isIn at hf
  obtain ⟨q1, e9, hf⟩ := Option.bind_eq_some_iff.mp hf
  have e9 := mf_X9_total e9
  have hF := hF.eqr e9
  clear e9
  obtain ⟨v2, -, hf⟩ := lt_e hf
  rcases ite_or hf with hf | hf
  · obtain ⟨-, hf⟩ := ite_some hf
    obtain rfl := Option.some.inj hf
    exact hF
  · obtain ⟨-, hf⟩ := ite_some hf
    obtain ⟨q3, e9, hf⟩ := Option.bind_eq_some_iff.mp hf
    have e9 := mf_X9_all e9
    have hF := hF.eqr e9
    clear e9
    rcases ite_or hf with hf | hf
    · obtain ⟨-, hf⟩ := ite_some hf
      obtain rfl := Option.some.inj hf
      exact hF
    · obtain ⟨-, hf⟩ := ite_some hf
      obtain rfl := Option.some.inj hf
      exact hF
set_option maxRecDepth 100000 in
theorem mf_X9_readsAll_165 {hs : Hp} {o : Int32 × Hp} {k36 : Nat → Int32 → Int32 → Int32 → Hp → Option (Int32 × Hp)} (hk36 : ∀ {x2 : Int32} {x3 : Int32} {x4 : Int32} {h : Hp}, Fx [112] [7] hs h → k36 108 x2 x3 x4 h = some o → Fx [112] [7] hs o.2) {x2 : Int32} {x3 : Int32} {y0 : Int32} {h : Hp} (hF : Fx [112] [7] hs h) (hf : f_X9_readsAll_165 k36 108 x2 x3 y0 h = some o) : Fx [112] [7] hs o.2 := by
  unfold f_X9_readsAll_165 at hf
  obtain ⟨m8, em, hf⟩ := lt_e hf
  have hF := Fx_f hF em (by decide)
  clear em
  exact hk36 hF hf
set_option maxRecDepth 100000 in
theorem mf_X9_readsAll_150 {hs : Hp} {o : Int32 × Hp} {k36 : Nat → Int32 → Int32 → Int32 → Hp → Option (Int32 × Hp)} (hk36 : ∀ {x2 : Int32} {x3 : Int32} {x4 : Int32} {h : Hp}, Fx [112] [7] hs h → k36 108 x2 x3 x4 h = some o → Fx [112] [7] hs o.2) {x2 : Int32} {x4 : Int32} {x6 : Int32} {y0 : Int32} {y1 : Int32} {h : Hp} (hF : Fx [112] [7] hs h) (hf : f_X9_readsAll_150 k36 108 x2 x4 x6 y0 y1 h = some o) : Fx [112] [7] hs o.2 := by
  unfold f_X9_readsAll_150 at hf
  obtain ⟨v7, -, hf⟩ := lt_e hf
  rcases ite_or hf with hf | hf
  · exact mf_X9_readsAll_165 hk36 hF hf
  · exact mf_X9_readsAll_165 hk36 hF hf
set_option maxRecDepth 100000 in
theorem mf_X9_readsAll_139 {hs : Hp} {o : Int32 × Hp} {k36 : Nat → Int32 → Int32 → Int32 → Hp → Option (Int32 × Hp)} (hk36 : ∀ {x2 : Int32} {x3 : Int32} {x4 : Int32} {h : Hp}, Fx [112] [7] hs h → k36 108 x2 x3 x4 h = some o → Fx [112] [7] hs o.2) {x2 : Int32} {x3 : Int32} {x4 : Int32} {x6 : Int32} {h : Hp} (hF : Fx [112] [7] hs h) (hf : f_X9_readsAll_139 k36 108 x2 x3 x4 x6 h = some o) : Fx [112] [7] hs o.2 := by
  unfold f_X9_readsAll_139 at hf
  rcases ite_or hf with hf | hf
  · exact mf_X9_readsAll_150 hk36 hF hf
  · exact mf_X9_readsAll_150 hk36 hF hf
set_option maxRecDepth 100000 in
theorem mf_X9_readsAll_131 {hs : Hp} {o : Int32 × Hp}   {h : Hp} (hF : Fx [112] [7] hs h) (hf : f_X9_readsAll_131  108 h = some o) : Fx [112] [7] hs o.2 := by
  unfold f_X9_readsAll_131 at hf
  obtain rfl := Option.some.inj hf
  exact hF
set_option maxRecDepth 100000 in
theorem mf_X9_readsAll_104 {hs : Hp} {o : Int32 × Hp} {k36 : Nat → Int32 → Int32 → Int32 → Hp → Option (Int32 × Hp)} (hk36 : ∀ {x2 : Int32} {x3 : Int32} {x4 : Int32} {h : Hp}, Fx [112] [7] hs h → k36 108 x2 x3 x4 h = some o → Fx [112] [7] hs o.2) {x2 : Int32} {x3 : Int32} {x4 : Int32} {y0 : Int32} {h : Hp} (hF : Fx [112] [7] hs h) (hf : f_X9_readsAll_104 k36 108 x2 x3 x4 y0 h = some o) : Fx [112] [7] hs o.2 := by
  unfold f_X9_readsAll_104 at hf
  rcases ite_or hf with hf | hf
  · obtain ⟨-, hf⟩ := ite_some hf
    rcases ite_or hf with hf | hf
    · rcases ite_or hf with hf | hf
      · exact mf_X9_readsAll_131  hF hf
      · exact mf_X9_readsAll_139 hk36 hF hf
    · exact mf_X9_readsAll_131  hF hf
  · exact mf_X9_readsAll_139 hk36 hF hf
set_option maxRecDepth 100000 in
theorem mf_X9_readsAll_36 {hs : Hp} {o : Int32 × Hp}  : ∀ (n : Nat) {x2 : Int32} {x3 : Int32} {x4 : Int32} {h : Hp}, Fx [112] [7] hs h → lp (F := Nat → Int32 → Int32 → Int32 → Hp → Option (Int32 × Hp)) (fun _ _ _ _ _ => none) (f_X9_readsAll_36) n 108 x2 x3 x4 h = some o → Fx [112] [7] hs o.2 := by
  intro n
  induction n with
  | zero =>
    intro x2 x3 x4 h hF hf
    have hf : (none : Option (Int32 × Hp)) = some o := hf
    cases hf
  | succ n hk36 =>
    intro x2 x3 x4 h hF hf
    have hf : f_X9_readsAll_36  (lp (F := Nat → Int32 → Int32 → Int32 → Hp → Option (Int32 × Hp)) (fun _ _ _ _ _ => none) (f_X9_readsAll_36) n) 108 x2 x3 x4 h = some o := hf
    unfold f_X9_readsAll_36 at hf
    rcases ite_or hf with hf | hf
    · obtain rfl := Option.some.inj hf
      exact hF
    · obtain ⟨q4, e9, hf⟩ := Option.bind_eq_some_iff.mp hf
      have hF := hF.trans ((mf_X9_readsVotes e9).mono (by decide) (by decide))
      clear e9
      rcases ite_or hf with hf | hf
      · obtain ⟨-, hf⟩ := ite_some hf
        obtain ⟨m5, em, hf⟩ := lt_e hf
        have hF := Fx_sI hF em (by decide)
        clear em
        obtain ⟨v6, -, hf⟩ := lt_e hf
        rcases ite_or hf with hf | hf
        · obtain rfl := Option.some.inj hf
          exact hF
        · obtain ⟨-, hf⟩ := ite_some hf
          rcases ite_or hf with hf | hf
          · exact mf_X9_readsAll_104 hk36 hF hf
          · exact mf_X9_readsAll_104 hk36 hF hf
      · obtain rfl := Option.some.inj hf
        exact hF
set_option maxRecDepth 100000 in
theorem mf_X9_readsAll_15 {hs : Hp} {o : Int32 × Hp}  : ∀ (n : Nat) {x2 : Int32} {x3 : Int32} {x4 : Int32} {x5 : Int32} {h : Hp}, Fx [112] [7] hs h → lp (F := Nat → Int32 → Int32 → Int32 → Int32 → Hp → Option (Int32 × Hp)) (fun _ _ _ _ _ _ => none) (f_X9_readsAll_15) n 108 x2 x3 x4 x5 h = some o → Fx [112] [7] hs o.2 := by
  intro n
  induction n with
  | zero =>
    intro x2 x3 x4 x5 h hF hf
    have hf : (none : Option (Int32 × Hp)) = some o := hf
    cases hf
  | succ n hk15 =>
    intro x2 x3 x4 x5 h hF hf
    have hf : f_X9_readsAll_15  (lp (F := Nat → Int32 → Int32 → Int32 → Int32 → Hp → Option (Int32 × Hp)) (fun _ _ _ _ _ _ => none) (f_X9_readsAll_15) n) 108 x2 x3 x4 x5 h = some o := hf
    unfold f_X9_readsAll_15 at hf
    rcases ite_or hf with hf | hf
    · exact mf_X9_readsAll_36  1000 hF hf
    · obtain ⟨-, hf⟩ := ite_some hf
      obtain ⟨m2, em, hf⟩ := lt_e hf
      have hF := Fx_sI hF em (by decide)
      clear em
      obtain ⟨v3, -, hf⟩ := lt_e hf
      exact hk15 hF hf
set_option maxRecDepth 100000 in
theorem mf_X9_readsAll {x1 : Int32} {h : Hp} {o : Int32 × Hp} (hf : f_X9_readsAll 108 x1 h = some o) : Fx [112] [7] h o.2 := by
  have hF : Fx [112] [7] h h := Fx.refl
  unfold f_X9_readsAll at hf
  obtain ⟨m1, em, hf⟩ := lt_e hf
  have hF := Fx_f hF em (by decide)
  clear em
  exact mf_X9_readsAll_15  1000 hF hf
set_option maxRecDepth 100000 in
theorem mf_X9_undo  {h : Hp} {o : Int32 × Hp} (hf : f_X9_undo 108 h = some o) : Fx [109] [3] h o.2 := by
  have hF : Fx [109] [3] h h := Fx.refl
  unfold f_X9_undo at hf
  rcases ite_or hf with hf | hf
  · obtain rfl := Option.some.inj hf
    exact hF
  · obtain ⟨m1, em, hf⟩ := lt_e hf
    have hF := Fx_rI hF em (by decide)
    clear em
    obtain ⟨m2, em, hf⟩ := lt_e hf
    have hF := Fx_f hF em (by decide)
    clear em
    obtain ⟨q3, e9, hf⟩ := Option.bind_eq_some_iff.mp hf
    have e9 := mf_X9_all e9
    have hF := hF.eqr e9
    clear e9
    obtain rfl := Option.some.inj hf
    exact hF
set_option maxRecDepth 100000 in
theorem mf_X9_votes_26 {hs : Hp} {o : Int32 × Hp}  {x1 : Int32} {x2 : Int32} {h : Hp} (hF : Fx [] [] hs h) (hf : f_X9_votes_26  108 x1 x2 h = some o) : Fx [] [] hs o.2 := by
  unfold f_X9_votes_26 at hf
  rcases ite_or hf with hf | hf
  · rcases ite_or hf with hf | hf
    · obtain ⟨q6, e9, hf⟩ := Option.bind_eq_some_iff.mp hf
      have e9 := mf_X9_all e9
      have hF := hF.eqr e9
      clear e9
      obtain rfl := Option.some.inj hf
      exact hF
    · obtain ⟨q5, e9, hf⟩ := Option.bind_eq_some_iff.mp hf
      have e9 := mf_X9_total e9
      have hF := hF.eqr e9
      clear e9
      obtain rfl := Option.some.inj hf
      exact hF
  · rcases ite_or hf with hf | hf
    · obtain ⟨q4, e9, hf⟩ := Option.bind_eq_some_iff.mp hf
      have e9 := mf_X9_ofWard e9
      have hF := hF.eqr e9
      clear e9
      obtain rfl := Option.some.inj hf
      exact hF
    · obtain ⟨q3, e9, hf⟩ := Option.bind_eq_some_iff.mp hf
      have e9 := mf_X9_votesOf e9
      have hF := hF.eqr e9
      clear e9
      obtain rfl := Option.some.inj hf
      exact hF
set_option maxRecDepth 100000 in
theorem mf_X9_votes_12 {hs : Hp} {o : Int32 × Hp}  {x1 : Int32} {x2 : Int32} {h : Hp} (hF : Fx [] [] hs h) (hf : f_X9_votes_12  108 x1 x2 h = some o) : Fx [] [] hs o.2 := by
  unfold f_X9_votes_12 at hf
  rcases ite_or hf with hf | hf
  · exact mf_X9_votes_26  hF hf
  · obtain ⟨q2, e9, hf⟩ := Option.bind_eq_some_iff.mp hf
    have e9 := mf_X9_isParty e9
    have hF := hF.eqr e9
    clear e9
    rcases ite_or hf with hf | hf
    · obtain rfl := Option.some.inj hf
      exact hF
    · exact mf_X9_votes_26  hF hf
set_option maxRecDepth 100000 in
theorem mf_X9_votes {x1 : Int32} {x2 : Int32} {h : Hp} {o : Int32 × Hp} (hf : f_X9_votes 108 x1 x2 h = some o) : h = o.2 := by
  refine Fx_eq ?_
  have hF : Fx [] [] h h := Fx.refl
  unfold f_X9_votes at hf
  rcases ite_or hf with hf | hf
  · exact mf_X9_votes_12  hF hf
  · obtain ⟨q1, e9, hf⟩ := Option.bind_eq_some_iff.mp hf
    have e9 := mf_X9_isWard e9
    have hF := hF.eqr e9
    clear e9
    rcases ite_or hf with hf | hf
    · obtain rfl := Option.some.inj hf
      exact hF
    · exact mf_X9_votes_12  hF hf
set_option maxRecDepth 100000 in
theorem mf_X9_givesByPrice_152 {hs : Hp} {o : Int32 × Hp} {k45 : Nat → Int32 → Int32 → Int32 → Hp → Option (Int32 × Hp)} (hk45 : ∀ {x1 : Int32} {x3 : Int32} {x4 : Int32} {h : Hp}, Fx [116, 117] [14, 15] hs h → k45 108 x1 x3 x4 h = some o → Fx [116, 117] [14, 15] hs o.2) {k73 : Nat → Int32 → Int32 → Int32 → Int32 → Int32 → Hp → Option (Int32 × Hp)} (hk73 : ∀ {x1 : Int32} {x3 : Int32} {x4 : Int32} {x5 : Int32} {x6 : Int32} {h : Hp}, Fx [116, 117] [14, 15] hs h → k73 108 x1 x3 x4 x5 x6 h = some o → Fx [116, 117] [14, 15] hs o.2) {x1 : Int32} {x3 : Int32} {x4 : Int32} {x5 : Int32} {x6 : Int32} {y0 : Int32} {y1 : Int32} {h : Hp} (hF : Fx [116, 117] [14, 15] hs h) (hf : f_X9_givesByPrice_152 k45 k73 108 x1 x3 x4 x5 x6 y0 y1 108 h = some o) : Fx [116, 117] [14, 15] hs o.2 := by
  unfold f_X9_givesByPrice_152 at hf
  obtain ⟨m11, em, hf⟩ := lt_e hf
  have hF := Fx_f hF em (by decide)
  clear em
  obtain ⟨v12, -, hf⟩ := lt_e hf
  exact hk73 hF hf
set_option maxRecDepth 100000 in
theorem mf_X9_givesByPrice_151 {hs : Hp} {o : Int32 × Hp} {k45 : Nat → Int32 → Int32 → Int32 → Hp → Option (Int32 × Hp)} (hk45 : ∀ {x1 : Int32} {x3 : Int32} {x4 : Int32} {h : Hp}, Fx [116, 117] [14, 15] hs h → k45 108 x1 x3 x4 h = some o → Fx [116, 117] [14, 15] hs o.2) {k73 : Nat → Int32 → Int32 → Int32 → Int32 → Int32 → Hp → Option (Int32 × Hp)} (hk73 : ∀ {x1 : Int32} {x3 : Int32} {x4 : Int32} {x5 : Int32} {x6 : Int32} {h : Hp}, Fx [116, 117] [14, 15] hs h → k73 108 x1 x3 x4 x5 x6 h = some o → Fx [116, 117] [14, 15] hs o.2) {x1 : Int32} {x3 : Int32} {x4 : Int32} {x5 : Int32} {x6 : Int32} {y0 : Int32} {h : Hp} (hF : Fx [116, 117] [14, 15] hs h) (hf : f_X9_givesByPrice_151 k45 k73 108 x1 x3 x4 x5 x6 y0 108 h = some o) : Fx [116, 117] [14, 15] hs o.2 := by
  unfold f_X9_givesByPrice_151 at hf
  exact mf_X9_givesByPrice_152 hk45 hk73 hF hf
set_option maxRecDepth 100000 in
theorem mf_X9_givesByPrice_73 {hs : Hp} {o : Int32 × Hp} {k45 : Nat → Int32 → Int32 → Int32 → Hp → Option (Int32 × Hp)} (hk45 : ∀ {x1 : Int32} {x3 : Int32} {x4 : Int32} {h : Hp}, Fx [116, 117] [14, 15] hs h → k45 108 x1 x3 x4 h = some o → Fx [116, 117] [14, 15] hs o.2) : ∀ (n : Nat) {x1 : Int32} {x3 : Int32} {x4 : Int32} {x5 : Int32} {x6 : Int32} {h : Hp}, Fx [116, 117] [14, 15] hs h → lp (F := Nat → Int32 → Int32 → Int32 → Int32 → Int32 → Hp → Option (Int32 × Hp)) (fun _ _ _ _ _ _ _ => none) (f_X9_givesByPrice_73 k45) n 108 x1 x3 x4 x5 x6 h = some o → Fx [116, 117] [14, 15] hs o.2 := by
  intro n
  induction n with
  | zero =>
    intro x1 x3 x4 x5 x6 h hF hf
    have hf : (none : Option (Int32 × Hp)) = some o := hf
    cases hf
  | succ n hk73 =>
    intro x1 x3 x4 x5 x6 h hF hf
    have hf : f_X9_givesByPrice_73 k45 (lp (F := Nat → Int32 → Int32 → Int32 → Int32 → Int32 → Hp → Option (Int32 × Hp)) (fun _ _ _ _ _ _ _ => none) (f_X9_givesByPrice_73 k45) n) 108 x1 x3 x4 x5 x6 h = some o := hf
    unfold f_X9_givesByPrice_73 at hf
    rcases ite_or hf with hf | hf
    · obtain ⟨-, hf⟩ := ite_some hf
      obtain ⟨m6, em, hf⟩ := lt_e hf
      have hF := Fx_sI hF em (by decide)
      clear em
      obtain ⟨m7, em, hf⟩ := lt_e hf
      have hF := Fx_f hF em (by decide)
      clear em
      obtain ⟨-, hf⟩ := ite_some hf
      obtain ⟨-, hf⟩ := ite_some hf
      obtain ⟨m8, em, hf⟩ := lt_e hf
      have hF := Fx_sI hF em (by decide)
      clear em
      obtain ⟨v9, -, hf⟩ := lt_e hf
      exact hk45 hF hf
    · rcases ite_or hf with hf | hf
      · exact mf_X9_givesByPrice_151 hk45 hk73 hF hf
      · obtain ⟨-, hf⟩ := ite_some hf
        rcases ite_or hf with hf | hf
        · exact mf_X9_givesByPrice_151 hk45 hk73 hF hf
        · obtain ⟨-, hf⟩ := ite_some hf
          obtain ⟨-, hf⟩ := ite_some hf
          obtain ⟨-, hf⟩ := ite_some hf
          obtain ⟨-, hf⟩ := ite_some hf
          obtain ⟨q10, e9, hf⟩ := Option.bind_eq_some_iff.mp hf
          have e9 := mf_X9_dearer e9
          have hF := hF.eqr e9
          clear e9
          rcases ite_or hf with hf | hf
          · exact mf_X9_givesByPrice_152 hk45 hk73 hF hf
          · exact mf_X9_givesByPrice_151 hk45 hk73 hF hf
set_option maxRecDepth 100000 in
theorem mf_X9_givesByPrice_45 {hs : Hp} {o : Int32 × Hp}  : ∀ (n : Nat) {x1 : Int32} {x3 : Int32} {x4 : Int32} {h : Hp}, Fx [116, 117] [14, 15] hs h → lp (F := Nat → Int32 → Int32 → Int32 → Hp → Option (Int32 × Hp)) (fun _ _ _ _ _ => none) (f_X9_givesByPrice_45) n 108 x1 x3 x4 h = some o → Fx [116, 117] [14, 15] hs o.2 := by
  intro n
  induction n with
  | zero =>
    intro x1 x3 x4 h hF hf
    have hf : (none : Option (Int32 × Hp)) = some o := hf
    cases hf
  | succ n hk45 =>
    intro x1 x3 x4 h hF hf
    have hf : f_X9_givesByPrice_45  (lp (F := Nat → Int32 → Int32 → Int32 → Hp → Option (Int32 × Hp)) (fun _ _ _ _ _ => none) (f_X9_givesByPrice_45) n) 108 x1 x3 x4 h = some o := hf
    unfold f_X9_givesByPrice_45 at hf
    rcases ite_or hf with hf | hf
    · rcases ite_or hf with hf | hf
      · obtain ⟨-, hf⟩ := ite_some hf
        obtain rfl := Option.some.inj hf
        exact hF
      · obtain ⟨-, hf⟩ := ite_some hf
        obtain rfl := Option.some.inj hf
        exact hF
    · obtain ⟨q4, e9, hf⟩ := Option.bind_eq_some_iff.mp hf
      have e9 := mf_X9_dearest e9
      have hF := hF.eqr e9
      clear e9
      rcases ite_or hf with hf | hf
      · obtain ⟨-, hf⟩ := ite_some hf
        obtain rfl := Option.some.inj hf
        exact hF
      · obtain ⟨m5, em, hf⟩ := lt_e hf
        have hF := Fx_f hF em (by decide)
        clear em
        exact mf_X9_givesByPrice_73 hk45 1000 hF hf
set_option maxRecDepth 100000 in
theorem mf_X9_givesByPrice_5 {hs : Hp} {o : Int32 × Hp}  : ∀ (n : Nat) {x1 : Int32} {x3 : Int32} {x4 : Int32} {h : Hp}, Fx [116, 117] [14, 15] hs h → lp (F := Nat → Int32 → Int32 → Int32 → Hp → Option (Int32 × Hp)) (fun _ _ _ _ _ => none) (f_X9_givesByPrice_5) n 108 x1 x3 x4 h = some o → Fx [116, 117] [14, 15] hs o.2 := by
  intro n
  induction n with
  | zero =>
    intro x1 x3 x4 h hF hf
    have hf : (none : Option (Int32 × Hp)) = some o := hf
    cases hf
  | succ n hk5 =>
    intro x1 x3 x4 h hF hf
    have hf : f_X9_givesByPrice_5  (lp (F := Nat → Int32 → Int32 → Int32 → Hp → Option (Int32 × Hp)) (fun _ _ _ _ _ => none) (f_X9_givesByPrice_5) n) 108 x1 x3 x4 h = some o := hf
    unfold f_X9_givesByPrice_5 at hf
    rcases ite_or hf with hf | hf
    · exact mf_X9_givesByPrice_45  1000 hF hf
    · obtain ⟨-, hf⟩ := ite_some hf
      obtain ⟨-, hf⟩ := ite_some hf
      obtain ⟨m1, em, hf⟩ := lt_e hf
      have hF := Fx_sI hF em (by decide)
      clear em
      obtain ⟨-, hf⟩ := ite_some hf
      obtain ⟨v2, -, hf⟩ := lt_e hf
      obtain ⟨v3, -, hf⟩ := lt_e hf
      exact hk5 hF hf
set_option maxRecDepth 100000 in
theorem mf_X9_givesByPrice {x1 : Int32} {x2 : Int32} {h : Hp} {o : Int32 × Hp} (hf : f_X9_givesByPrice 108 x1 x2 h = some o) : Fx [116, 117] [14, 15] h o.2 := by
  have hF : Fx [116, 117] [14, 15] h h := Fx.refl
  unfold f_X9_givesByPrice at hf
  exact mf_X9_givesByPrice_5  1000 hF hf
set_option maxRecDepth 100000 in
theorem mf_X9_in_26 {hs : Hp} {o : Int32 × Hp} {k4 : Nat → Int32 → Int32 → Hp → Option (Int32 × Hp)} (hk4 : ∀ {x1 : Int32} {x2 : Int32} {h : Hp}, Fx [] [] hs h → k4 108 x1 x2 h = some o → Fx [] [] hs o.2) {x2 : Int32} {y0 : Int32} {y1 : Int32} {h : Hp} (hF : Fx [] [] hs h) (hf : f_X9_in_26 k4 108 x2 y0 y1 h = some o) : Fx [] [] hs o.2 := by
  unfold f_X9_in_26 at hf
  obtain ⟨v2, -, hf⟩ := lt_e hf
  obtain ⟨v3, -, hf⟩ := lt_e hf
  exact hk4 hF hf
set_option maxRecDepth 100000 in
theorem mf_X9_in_4 {hs : Hp} {o : Int32 × Hp}  : ∀ (n : Nat) {x1 : Int32} {x2 : Int32} {h : Hp}, Fx [] [] hs h → lp (F := Nat → Int32 → Int32 → Hp → Option (Int32 × Hp)) (fun _ _ _ _ => none) (f_X9_in_4) n 108 x1 x2 h = some o → Fx [] [] hs o.2 := by
  intro n
  induction n with
  | zero =>
    intro x1 x2 h hF hf
    have hf : (none : Option (Int32 × Hp)) = some o := hf
    cases hf
  | succ n hk4 =>
    intro x1 x2 h hF hf
    have hf : f_X9_in_4  (lp (F := Nat → Int32 → Int32 → Hp → Option (Int32 × Hp)) (fun _ _ _ _ => none) (f_X9_in_4) n) 108 x1 x2 h = some o := hf
    unfold f_X9_in_4 at hf
    rcases ite_or hf with hf | hf
    · obtain rfl := Option.some.inj hf
      exact hF
    · obtain ⟨q1, e9, hf⟩ := Option.bind_eq_some_iff.mp hf
      have e9 := mf_X9_isIn e9
      have hF := hF.eqr e9
      clear e9
      rcases ite_or hf with hf | hf
      · exact mf_X9_in_26 hk4 hF hf
      · exact mf_X9_in_26 hk4 hF hf
set_option maxRecDepth 100000 in
theorem mf_X9_in  {h : Hp} {o : Int32 × Hp} (hf : f_X9_in 108 h = some o) : h = o.2 := by
  refine Fx_eq ?_
  have hF : Fx [] [] h h := Fx.refl
  unfold f_X9_in at hf
  exact mf_X9_in_4  1000 hF hf
set_option maxRecDepth 100000 in
theorem mf_X9_isPlanned_106 {hs : Hp} {o : Int32 × Hp} {k96 : Nat → Int32 → Hp → Option (Int32 × Hp)} (hk96 : ∀ {x1 : Int32} {h : Hp}, Fx [] [] hs h → k96 108 x1 h = some o → Fx [] [] hs o.2) : ∀ (n : Nat) {x1 : Int32} {x2 : Int64} {x4 : Int32} {h : Hp}, Fx [] [] hs h → lp (F := Nat → Int32 → Int64 → Int32 → Hp → Option (Int32 × Hp)) (fun _ _ _ _ _ => none) (f_X9_isPlanned_106 k96) n 108 x1 x2 x4 h = some o → Fx [] [] hs o.2 := by
  intro n
  induction n with
  | zero =>
    intro x1 x2 x4 h hF hf
    have hf : (none : Option (Int32 × Hp)) = some o := hf
    cases hf
  | succ n hk106 =>
    intro x1 x2 x4 h hF hf
    have hf : f_X9_isPlanned_106 k96 (lp (F := Nat → Int32 → Int64 → Int32 → Hp → Option (Int32 × Hp)) (fun _ _ _ _ _ => none) (f_X9_isPlanned_106 k96) n) 108 x1 x2 x4 h = some o := hf
    unfold f_X9_isPlanned_106 at hf
    rcases ite_or hf with hf | hf
    · obtain ⟨q1, e9, hf⟩ := Option.bind_eq_some_iff.mp hf
      have e9 := mf_X9_seatsOf e9
      have hF := hF.eqr e9
      clear e9
      rcases ite_or hf with hf | hf
      · obtain ⟨v2, -, hf⟩ := lt_e hf
        exact hk96 hF hf
      · obtain ⟨-, hf⟩ := ite_some hf
        obtain rfl := Option.some.inj hf
        exact hF
    · obtain ⟨-, hf⟩ := ite_some hf
      obtain ⟨v3, -, hf⟩ := lt_e hf
      obtain ⟨v4, -, hf⟩ := lt_e hf
      exact hk106 hF hf
set_option maxRecDepth 100000 in
theorem mf_X9_isPlanned_96 {hs : Hp} {o : Int32 × Hp}  : ∀ (n : Nat) {x1 : Int32} {h : Hp}, Fx [] [] hs h → lp (F := Nat → Int32 → Hp → Option (Int32 × Hp)) (fun _ _ _ => none) (f_X9_isPlanned_96) n 108 x1 h = some o → Fx [] [] hs o.2 := by
  intro n
  induction n with
  | zero =>
    intro x1 h hF hf
    have hf : (none : Option (Int32 × Hp)) = some o := hf
    cases hf
  | succ n hk96 =>
    intro x1 h hF hf
    have hf : f_X9_isPlanned_96  (lp (F := Nat → Int32 → Hp → Option (Int32 × Hp)) (fun _ _ _ => none) (f_X9_isPlanned_96) n) 108 x1 h = some o := hf
    unfold f_X9_isPlanned_96 at hf
    rcases ite_or hf with hf | hf
    · obtain ⟨-, hf⟩ := ite_some hf
      obtain rfl := Option.some.inj hf
      exact hF
    · exact mf_X9_isPlanned_106 hk96 1000 hF hf
set_option maxRecDepth 100000 in
theorem mf_X9_isPlanned_62 {hs : Hp} {o : Int32 × Hp} {k2 : Nat → Int32 → Hp → Option (Int32 × Hp)} (hk2 : ∀ {x1 : Int32} {h : Hp}, Fx [] [] hs h → k2 108 x1 h = some o → Fx [] [] hs o.2) {k13 : Nat → Int32 → Int64 → Int32 → Hp → Option (Int32 × Hp)} (hk13 : ∀ {x1 : Int32} {x2 : Int64} {x4 : Int32} {h : Hp}, Fx [] [] hs h → k13 108 x1 x2 x4 h = some o → Fx [] [] hs o.2) {x1 : Int32} {x2 : Int64} {x4 : Int32} {x5 : Int32} {h : Hp} (hF : Fx [] [] hs h) (hf : f_X9_isPlanned_62 k2 k13 108 x1 x2 x4 x5 h = some o) : Fx [] [] hs o.2 := by
  unfold f_X9_isPlanned_62 at hf
  obtain ⟨v9, -, hf⟩ := lt_e hf
  obtain ⟨v10, -, hf⟩ := lt_e hf
  exact hk13 hF hf
set_option maxRecDepth 100000 in
theorem mf_X9_isPlanned_13 {hs : Hp} {o : Int32 × Hp} {k2 : Nat → Int32 → Hp → Option (Int32 × Hp)} (hk2 : ∀ {x1 : Int32} {h : Hp}, Fx [] [] hs h → k2 108 x1 h = some o → Fx [] [] hs o.2) : ∀ (n : Nat) {x1 : Int32} {x2 : Int64} {x4 : Int32} {h : Hp}, Fx [] [] hs h → lp (F := Nat → Int32 → Int64 → Int32 → Hp → Option (Int32 × Hp)) (fun _ _ _ _ _ => none) (f_X9_isPlanned_13 k2) n 108 x1 x2 x4 h = some o → Fx [] [] hs o.2 := by
  intro n
  induction n with
  | zero =>
    intro x1 x2 x4 h hF hf
    have hf : (none : Option (Int32 × Hp)) = some o := hf
    cases hf
  | succ n hk13 =>
    intro x1 x2 x4 h hF hf
    have hf : f_X9_isPlanned_13 k2 (lp (F := Nat → Int32 → Int64 → Int32 → Hp → Option (Int32 × Hp)) (fun _ _ _ _ _ => none) (f_X9_isPlanned_13 k2) n) 108 x1 x2 x4 h = some o := hf
    unfold f_X9_isPlanned_13 at hf
    rcases ite_or hf with hf | hf
    · obtain ⟨-, hf⟩ := ite_some hf
      rcases ite_or hf with hf | hf
      · obtain ⟨v5, -, hf⟩ := lt_e hf
        exact hk2 hF hf
      · obtain ⟨-, hf⟩ := ite_some hf
        obtain rfl := Option.some.inj hf
        exact hF
    · obtain ⟨-, hf⟩ := ite_some hf
      obtain ⟨v6, -, hf⟩ := lt_e hf
      rcases ite_or hf with hf | hf
      · obtain ⟨-, hf⟩ := ite_some hf
        obtain rfl := Option.some.inj hf
        exact hF
      · rcases ite_or hf with hf | hf
        · exact mf_X9_isPlanned_62 hk2 hk13 hF hf
        · obtain ⟨q7, e9, hf⟩ := Option.bind_eq_some_iff.mp hf
          have e9 := mf_X9_seatsOf e9
          have hF := hF.eqr e9
          clear e9
          rcases ite_or hf with hf | hf
          · obtain ⟨-, hf⟩ := ite_some hf
            obtain rfl := Option.some.inj hf
            exact hF
          · obtain ⟨q8, e9, hf⟩ := Option.bind_eq_some_iff.mp hf
            have e9 := mf_X9_isIn e9
            have hF := hF.eqr e9
            clear e9
            rcases ite_or hf with hf | hf
            · obtain ⟨-, hf⟩ := ite_some hf
              obtain rfl := Option.some.inj hf
              exact hF
            · exact mf_X9_isPlanned_62 hk2 hk13 hF hf
set_option maxRecDepth 100000 in
theorem mf_X9_isPlanned_2 {hs : Hp} {o : Int32 × Hp}  : ∀ (n : Nat) {x1 : Int32} {h : Hp}, Fx [] [] hs h → lp (F := Nat → Int32 → Hp → Option (Int32 × Hp)) (fun _ _ _ => none) (f_X9_isPlanned_2) n 108 x1 h = some o → Fx [] [] hs o.2 := by
  intro n
  induction n with
  | zero =>
    intro x1 h hF hf
    have hf : (none : Option (Int32 × Hp)) = some o := hf
    cases hf
  | succ n hk2 =>
    intro x1 h hF hf
    have hf : f_X9_isPlanned_2  (lp (F := Nat → Int32 → Hp → Option (Int32 × Hp)) (fun _ _ _ => none) (f_X9_isPlanned_2) n) 108 x1 h = some o := hf
    unfold f_X9_isPlanned_2 at hf
    rcases ite_or hf with hf | hf
    · exact mf_X9_isPlanned_96  1000 hF hf
    · exact mf_X9_isPlanned_13 hk2 1000 hF hf
set_option maxRecDepth 100000 in
theorem mf_X9_isPlanned  {h : Hp} {o : Int32 × Hp} (hf : f_X9_isPlanned 108 h = some o) : h = o.2 := by
  refine Fx_eq ?_
  have hF : Fx [] [] h h := Fx.refl
  unfold f_X9_isPlanned at hf
  exact mf_X9_isPlanned_2  1000 hF hf
set_option maxRecDepth 100000 in
theorem mf_X9_listsIn_30 {hs : Hp} {o : Int32 × Hp} {k4 : Nat → Int32 → Int32 → Hp → Option (Int32 × Hp)} (hk4 : ∀ {x1 : Int32} {x2 : Int32} {h : Hp}, Fx [] [] hs h → k4 108 x1 x2 h = some o → Fx [] [] hs o.2) {x2 : Int32} {y0 : Int32} {y1 : Int32} {h : Hp} (hF : Fx [] [] hs h) (hf : f_X9_listsIn_30 k4 108 x2 y0 y1 h = some o) : Fx [] [] hs o.2 := by
  unfold f_X9_listsIn_30 at hf
  obtain ⟨v3, -, hf⟩ := lt_e hf
  obtain ⟨v4, -, hf⟩ := lt_e hf
  exact hk4 hF hf
set_option maxRecDepth 100000 in
theorem mf_X9_listsIn_4 {hs : Hp} {o : Int32 × Hp}  : ∀ (n : Nat) {x1 : Int32} {x2 : Int32} {h : Hp}, Fx [] [] hs h → lp (F := Nat → Int32 → Int32 → Hp → Option (Int32 × Hp)) (fun _ _ _ _ => none) (f_X9_listsIn_4) n 108 x1 x2 h = some o → Fx [] [] hs o.2 := by
  intro n
  induction n with
  | zero =>
    intro x1 x2 h hF hf
    have hf : (none : Option (Int32 × Hp)) = some o := hf
    cases hf
  | succ n hk4 =>
    intro x1 x2 h hF hf
    have hf : f_X9_listsIn_4  (lp (F := Nat → Int32 → Int32 → Hp → Option (Int32 × Hp)) (fun _ _ _ _ => none) (f_X9_listsIn_4) n) 108 x1 x2 h = some o := hf
    unfold f_X9_listsIn_4 at hf
    rcases ite_or hf with hf | hf
    · obtain rfl := Option.some.inj hf
      exact hF
    · obtain ⟨q1, e9, hf⟩ := Option.bind_eq_some_iff.mp hf
      have e9 := mf_X9_isIn e9
      have hF := hF.eqr e9
      clear e9
      rcases ite_or hf with hf | hf
      · exact mf_X9_listsIn_30 hk4 hF hf
      · obtain ⟨q2, e9, hf⟩ := Option.bind_eq_some_iff.mp hf
        have e9 := mf_X9_listOf e9
        have hF := hF.eqr e9
        clear e9
        exact mf_X9_listsIn_30 hk4 hF hf
set_option maxRecDepth 100000 in
theorem mf_X9_listsIn  {h : Hp} {o : Int32 × Hp} (hf : f_X9_listsIn 108 h = some o) : h = o.2 := by
  refine Fx_eq ?_
  have hF : Fx [] [] h h := Fx.refl
  unfold f_X9_listsIn at hf
  exact mf_X9_listsIn_4  1000 hF hf
set_option maxRecDepth 100000 in
theorem mf_X9_read_54 {hs : Hp} {o : Int32 × Hp} {k22 : Nat → Int32 → Int32 → Hp → Option (Int32 × Hp)} (hk22 : ∀ {x2 : Int32} {x3 : Int32} {h : Hp}, Fx [109, 112] [3, 6, 7] hs h → k22 108 x2 x3 h = some o → Fx [109, 112] [3, 6, 7] hs o.2) {x2 : Int32} {x3 : Int32} {h : Hp} (hF : Fx [109, 112] [3, 6, 7] hs h) (hf : f_X9_read_54 k22 108 x2 x3 h = some o) : Fx [109, 112] [3, 6, 7] hs o.2 := by
  unfold f_X9_read_54 at hf
  obtain ⟨v5, -, hf⟩ := lt_e hf
  exact hk22 hF hf
set_option maxRecDepth 100000 in
theorem mf_X9_read_22 {hs : Hp} {o : Int32 × Hp}  : ∀ (n : Nat) {x2 : Int32} {x3 : Int32} {h : Hp}, Fx [109, 112] [3, 6, 7] hs h → lp (F := Nat → Int32 → Int32 → Hp → Option (Int32 × Hp)) (fun _ _ _ _ => none) (f_X9_read_22) n 108 x2 x3 h = some o → Fx [109, 112] [3, 6, 7] hs o.2 := by
  intro n
  induction n with
  | zero =>
    intro x2 x3 h hF hf
    have hf : (none : Option (Int32 × Hp)) = some o := hf
    cases hf
  | succ n hk22 =>
    intro x2 x3 h hF hf
    have hf : f_X9_read_22  (lp (F := Nat → Int32 → Int32 → Hp → Option (Int32 × Hp)) (fun _ _ _ _ => none) (f_X9_read_22) n) 108 x2 x3 h = some o := hf
    unfold f_X9_read_22 at hf
    rcases ite_or hf with hf | hf
    · obtain rfl := Option.some.inj hf
      exact hF
    · rcases ite_or hf with hf | hf
      · obtain rfl := Option.some.inj hf
        exact hF
      · obtain ⟨-, hf⟩ := ite_some hf
        rcases ite_or hf with hf | hf
        · exact mf_X9_read_54 hk22 hF hf
        · obtain ⟨-, hf⟩ := ite_some hf
          obtain ⟨q4, e9, hf⟩ := Option.bind_eq_some_iff.mp hf
          have hF := hF.trans ((mf_X9_tells e9).mono (by decide) (by decide))
          clear e9
          exact mf_X9_read_54 hk22 hF hf
set_option maxRecDepth 100000 in
theorem mf_X9_read {x1 : Int32} {h : Hp} {o : Int32 × Hp} (hf : f_X9_read 108 x1 h = some o) : Fx [109, 112] [3, 6, 7] h o.2 := by
  have hF : Fx [109, 112] [3, 6, 7] h h := Fx.refl
  unfold f_X9_read at hf
  obtain ⟨q1, e9, hf⟩ := Option.bind_eq_some_iff.mp hf
  have e9 := mf_X9_isWard e9
  have hF := hF.eqr e9
  clear e9
  rcases ite_or hf with hf | hf
  · obtain rfl := Option.some.inj hf
    exact hF
  · obtain ⟨q2, e9, hf⟩ := Option.bind_eq_some_iff.mp hf
    have hF := hF.trans ((mf_X9_readsAll e9).mono (by decide) (by decide))
    clear e9
    obtain ⟨m3, em, hf⟩ := lt_e hf
    have hF := Fx_f hF em (by decide)
    clear em
    exact mf_X9_read_22  1000 hF hf
set_option maxRecDepth 100000 in
theorem mf_X9_gives {x1 : Int32} {x2 : Int32} {h : Hp} {o : Int32 × Hp} (hf : f_X9_gives 108 x1 x2 h = some o) : Fx [116, 117, 118, 119] [14, 15] h o.2 := by
  have hF : Fx [116, 117, 118, 119] [14, 15] h h := Fx.refl
  unfold f_X9_gives at hf
  obtain ⟨m1, em, hf⟩ := lt_e hf
  have hF := Fx_f hF em (by decide)
  clear em
  obtain ⟨m2, em, hf⟩ := lt_e hf
  have hF := Fx_f hF em (by decide)
  clear em
  rcases ite_or hf with hf | hf
  · obtain ⟨q4, e9, hf⟩ := Option.bind_eq_some_iff.mp hf
    have hF := hF.trans ((mf_X9_givesByRests e9).mono (by decide) (by decide))
    clear e9
    obtain ⟨-, hf⟩ := ite_some hf
    obtain rfl := Option.some.inj hf
    exact hF
  · obtain ⟨q3, e9, hf⟩ := Option.bind_eq_some_iff.mp hf
    have hF := hF.trans ((mf_X9_givesByPrice e9).mono (by decide) (by decide))
    clear e9
    obtain ⟨-, hf⟩ := ite_some hf
    obtain rfl := Option.some.inj hf
    exact hF
set_option maxRecDepth 100000 in
theorem mf_X9_told {x1 : Int32} {h : Hp} {o : Int32 × Hp} (hf : f_X9_told 108 x1 h = some o) : h = o.2 := by
  refine Fx_eq ?_
  have hF : Fx [] [] h h := Fx.refl
  unfold f_X9_told at hf
  obtain ⟨q1, e9, hf⟩ := Option.bind_eq_some_iff.mp hf
  have e9 := mf_X9_within e9
  have hF := hF.eqr e9
  clear e9
  rcases ite_or hf with hf | hf
  · obtain ⟨q2, e9, hf⟩ := Option.bind_eq_some_iff.mp hf
    have e9 := mf_X9_within e9
    have hF := hF.eqr e9
    clear e9
    rcases ite_or hf with hf | hf
    · obtain ⟨q3, e9, hf⟩ := Option.bind_eq_some_iff.mp hf
      have e9 := mf_X9_within e9
      have hF := hF.eqr e9
      clear e9
      rcases ite_or hf with hf | hf
      · rcases ite_or hf with hf | hf
        · obtain ⟨q4, e9, hf⟩ := Option.bind_eq_some_iff.mp hf
          have e9 := mf_X9_all e9
          have hF := hF.eqr e9
          clear e9
          obtain rfl := Option.some.inj hf
          exact hF
        · rcases ite_or hf with hf | hf
          · obtain ⟨q6, e9, hf⟩ := Option.bind_eq_some_iff.mp hf
            have e9 := mf_X9_allSeats e9
            have hF := hF.eqr e9
            clear e9
            obtain rfl := Option.some.inj hf
            exact hF
          · rcases ite_or hf with hf | hf
            · obtain ⟨q8, e9, hf⟩ := Option.bind_eq_some_iff.mp hf
              have e9 := mf_X9_wayNow e9
              have hF := hF.eqr e9
              clear e9
              obtain rfl := Option.some.inj hf
              exact hF
            · rcases ite_or hf with hf | hf
              · obtain ⟨-, hf⟩ := ite_some hf
                obtain rfl := Option.some.inj hf
                exact hF
              · rcases ite_or hf with hf | hf
                · obtain ⟨-, hf⟩ := ite_some hf
                  obtain rfl := Option.some.inj hf
                  exact hF
                · rcases ite_or hf with hf | hf
                  · obtain ⟨-, hf⟩ := ite_some hf
                    obtain rfl := Option.some.inj hf
                    exact hF
                  · rcases ite_or hf with hf | hf
                    · obtain rfl := Option.some.inj hf
                      exact hF
                    · rcases ite_or hf with hf | hf
                      · obtain rfl := Option.some.inj hf
                        exact hF
                      · rcases ite_or hf with hf | hf
                        · obtain ⟨q15, e9, hf⟩ := Option.bind_eq_some_iff.mp hf
                          have e9 := mf_X9_listsIn e9
                          have hF := hF.eqr e9
                          clear e9
                          obtain rfl := Option.some.inj hf
                          exact hF
                        · rcases ite_or hf with hf | hf
                          · obtain ⟨q17, e9, hf⟩ := Option.bind_eq_some_iff.mp hf
                            have e9 := mf_X9_wardsWithSeats e9
                            have hF := hF.eqr e9
                            clear e9
                            obtain rfl := Option.some.inj hf
                            exact hF
                          · obtain rfl := Option.some.inj hf
                            exact hF
      · obtain ⟨q19, e9, hf⟩ := Option.bind_eq_some_iff.mp hf
        have e9 := mf_X9_listOf e9
        have hF := hF.eqr e9
        clear e9
        obtain rfl := Option.some.inj hf
        exact hF
    · obtain ⟨q20, e9, hf⟩ := Option.bind_eq_some_iff.mp hf
      have e9 := mf_X9_leastOf e9
      have hF := hF.eqr e9
      clear e9
      obtain rfl := Option.some.inj hf
      exact hF
  · obtain ⟨q21, e9, hf⟩ := Option.bind_eq_some_iff.mp hf
    have e9 := mf_X9_seatsOf e9
    have hF := hF.eqr e9
    clear e9
    obtain rfl := Option.some.inj hf
    exact hF
set_option maxRecDepth 100000 in
theorem mf_X9_sharesOut_103 {hs : Hp} {o : Int32 × Hp} {k68 : Nat → Int32 → Hp → Option (Int32 × Hp)} (hk68 : ∀ {x3 : Int32} {h : Hp}, Fx [113, 114, 115, 116, 117, 118, 119, 124] [14, 15] hs h → k68 108 x3 h = some o → Fx [113, 114, 115, 116, 117, 118, 119, 124] [14, 15] hs o.2) {x3 : Int32} {y0 : Int32} {y1 : Int32} {h : Hp} (hF : Fx [113, 114, 115, 116, 117, 118, 119, 124] [14, 15] hs h) (hf : f_X9_sharesOut_103 k68 108 x3 y0 y1 (108 + 16) h = some o) : Fx [113, 114, 115, 116, 117, 118, 119, 124] [14, 15] hs o.2 := by
  unfold f_X9_sharesOut_103 at hf
  obtain ⟨-, hf⟩ := ite_some hf
  obtain ⟨m8, em, hf⟩ := lt_e hf
  have hF := Fx_sI hF em (by decide)
  clear em
  obtain ⟨v9, -, hf⟩ := lt_e hf
  exact hk68 hF hf
set_option maxRecDepth 100000 in
theorem mf_X9_sharesOut_68 {hs : Hp} {o : Int32 × Hp}  : ∀ (n : Nat) {x3 : Int32} {h : Hp}, Fx [113, 114, 115, 116, 117, 118, 119, 124] [14, 15] hs h → lp (F := Nat → Int32 → Hp → Option (Int32 × Hp)) (fun _ _ _ => none) (f_X9_sharesOut_68) n 108 x3 h = some o → Fx [113, 114, 115, 116, 117, 118, 119, 124] [14, 15] hs o.2 := by
  intro n
  induction n with
  | zero =>
    intro x3 h hF hf
    have hf : (none : Option (Int32 × Hp)) = some o := hf
    cases hf
  | succ n hk68 =>
    intro x3 h hF hf
    have hf : f_X9_sharesOut_68  (lp (F := Nat → Int32 → Hp → Option (Int32 × Hp)) (fun _ _ _ => none) (f_X9_sharesOut_68) n) 108 x3 h = some o := hf
    unfold f_X9_sharesOut_68 at hf
    rcases ite_or hf with hf | hf
    · obtain ⟨-, hf⟩ := ite_some hf
      obtain rfl := Option.some.inj hf
      exact hF
    · obtain ⟨-, hf⟩ := ite_some hf
      rcases ite_or hf with hf | hf
      · obtain ⟨-, hf⟩ := ite_some hf
        exact mf_X9_sharesOut_103 hk68 hF hf
      · obtain ⟨-, hf⟩ := ite_some hf
        exact mf_X9_sharesOut_103 hk68 hF hf
set_option maxRecDepth 100000 in
theorem mf_X9_sharesOut_44 {hs : Hp} {o : Int32 × Hp} {k6 : Nat → Int32 → Int32 → Int32 → Hp → Option (Int32 × Hp)} (hk6 : ∀ {x1 : Int32} {x2 : Int32} {x3 : Int32} {h : Hp}, Fx [113, 114, 115, 116, 117, 118, 119, 124] [14, 15] hs h → k6 108 x1 x2 x3 h = some o → Fx [113, 114, 115, 116, 117, 118, 119, 124] [14, 15] hs o.2) {x1 : Int32} {x2 : Int32} {x3 : Int32} {h : Hp} (hF : Fx [113, 114, 115, 116, 117, 118, 119, 124] [14, 15] hs h) (hf : f_X9_sharesOut_44 k6 108 x1 x2 x3 h = some o) : Fx [113, 114, 115, 116, 117, 118, 119, 124] [14, 15] hs o.2 := by
  unfold f_X9_sharesOut_44 at hf
  obtain ⟨v10, -, hf⟩ := lt_e hf
  exact hk6 hF hf
set_option maxRecDepth 100000 in
theorem mf_X9_sharesOut_6 {hs : Hp} {o : Int32 × Hp}  : ∀ (n : Nat) {x1 : Int32} {x2 : Int32} {x3 : Int32} {h : Hp}, Fx [113, 114, 115, 116, 117, 118, 119, 124] [14, 15] hs h → lp (F := Nat → Int32 → Int32 → Int32 → Hp → Option (Int32 × Hp)) (fun _ _ _ _ _ => none) (f_X9_sharesOut_6) n 108 x1 x2 x3 h = some o → Fx [113, 114, 115, 116, 117, 118, 119, 124] [14, 15] hs o.2 := by
  intro n
  induction n with
  | zero =>
    intro x1 x2 x3 h hF hf
    have hf : (none : Option (Int32 × Hp)) = some o := hf
    cases hf
  | succ n hk6 =>
    intro x1 x2 x3 h hF hf
    have hf : f_X9_sharesOut_6  (lp (F := Nat → Int32 → Int32 → Int32 → Hp → Option (Int32 × Hp)) (fun _ _ _ _ _ => none) (f_X9_sharesOut_6) n) 108 x1 x2 x3 h = some o := hf
    unfold f_X9_sharesOut_6 at hf
    rcases ite_or hf with hf | hf
    · obtain ⟨-, hf⟩ := ite_some hf
      obtain ⟨q2, e9, hf⟩ := Option.bind_eq_some_iff.mp hf
      have hF := hF.trans ((mf_X9_gives e9).mono (by decide) (by decide))
      clear e9
      rcases ite_or hf with hf | hf
      · obtain ⟨-, hf⟩ := ite_some hf
        obtain rfl := Option.some.inj hf
        exact hF
      · exact mf_X9_sharesOut_68  1000 hF hf
    · obtain ⟨q3, e9, hf⟩ := Option.bind_eq_some_iff.mp hf
      have e9 := mf_X9_listOf e9
      have hF := hF.eqr e9
      clear e9
      rcases ite_or hf with hf | hf
      · obtain ⟨q4, e9, hf⟩ := Option.bind_eq_some_iff.mp hf
        have e9 := mf_X9_isIn e9
        have hF := hF.eqr e9
        clear e9
        rcases ite_or hf with hf | hf
        · exact mf_X9_sharesOut_44 hk6 hF hf
        · obtain ⟨q5, e9, hf⟩ := Option.bind_eq_some_iff.mp hf
          have e9 := mf_X9_total e9
          have hF := hF.eqr e9
          clear e9
          obtain ⟨q6, e9, hf⟩ := Option.bind_eq_some_iff.mp hf
          have e9 := mf_X9_leastOf e9
          have hF := hF.eqr e9
          clear e9
          obtain ⟨q7, e9, hf⟩ := Option.bind_eq_some_iff.mp hf
          have hF := hF.trans ((mf_X9_claims e9).mono (by decide) (by decide))
          clear e9
          exact mf_X9_sharesOut_44 hk6 hF hf
      · exact mf_X9_sharesOut_44 hk6 hF hf
set_option maxRecDepth 100000 in
theorem mf_X9_sharesOut {x1 : Int32} {x2 : Int32} {h : Hp} {o : Int32 × Hp} (hf : f_X9_sharesOut 108 x1 x2 h = some o) : Fx [113, 114, 115, 116, 117, 118, 119, 124] [14, 15] h o.2 := by
  have hF : Fx [113, 114, 115, 116, 117, 118, 119, 124] [14, 15] h h := Fx.refl
  unfold f_X9_sharesOut at hf
  obtain ⟨q1, e9, hf⟩ := Option.bind_eq_some_iff.mp hf
  have hF := hF.trans ((mf_X9_nobodyClaims e9).mono (by decide) (by decide))
  clear e9
  exact mf_X9_sharesOut_6  1000 hF hf
set_option maxRecDepth 100000 in
theorem mf_X9_houses_218 {hs : Hp} {o : Int32 × Hp} {k182 : Nat → Int32 → Int32 → Int32 → Hp → Option (Int32 × Hp)} (hk182 : ∀ {x1 : Int32} {x3 : Int32} {x4 : Int32} {h : Hp}, Fx [113, 114, 115, 116, 117, 118, 119, 120, 121, 122, 123, 124, 125] [14, 15, 24, 25] hs h → k182 108 x1 x3 x4 h = some o → Fx [113, 114, 115, 116, 117, 118, 119, 120, 121, 122, 123, 124, 125] [14, 15, 24, 25] hs o.2) {x1 : Int32} {x4 : Int32} {y0 : Int32} {h : Hp} (hF : Fx [113, 114, 115, 116, 117, 118, 119, 120, 121, 122, 123, 124, 125] [14, 15, 24, 25] hs h) (hf : f_X9_houses_218 k182 108 x1 x4 y0 h = some o) : Fx [113, 114, 115, 116, 117, 118, 119, 120, 121, 122, 123, 124, 125] [14, 15, 24, 25] hs o.2 := by
  unfold f_X9_houses_218 at hf
  obtain ⟨v19, -, hf⟩ := lt_e hf
  exact hk182 hF hf
set_option maxRecDepth 100000 in
theorem mf_X9_houses_213 {hs : Hp} {o : Int32 × Hp} {k182 : Nat → Int32 → Int32 → Int32 → Hp → Option (Int32 × Hp)} (hk182 : ∀ {x1 : Int32} {x3 : Int32} {x4 : Int32} {h : Hp}, Fx [113, 114, 115, 116, 117, 118, 119, 120, 121, 122, 123, 124, 125] [14, 15, 24, 25] hs h → k182 108 x1 x3 x4 h = some o → Fx [113, 114, 115, 116, 117, 118, 119, 120, 121, 122, 123, 124, 125] [14, 15, 24, 25] hs o.2) {x1 : Int32} {x4 : Int32} {h : Hp} (hF : Fx [113, 114, 115, 116, 117, 118, 119, 120, 121, 122, 123, 124, 125] [14, 15, 24, 25] hs h) (hf : f_X9_houses_213 k182 108 x1 x4 h = some o) : Fx [113, 114, 115, 116, 117, 118, 119, 120, 121, 122, 123, 124, 125] [14, 15, 24, 25] hs o.2 := by
  unfold f_X9_houses_213 at hf
  exact mf_X9_houses_218 hk182 hF hf
set_option maxRecDepth 100000 in
theorem mf_X9_houses_182 {hs : Hp} {o : Int32 × Hp}  : ∀ (n : Nat) {x1 : Int32} {x3 : Int32} {x4 : Int32} {h : Hp}, Fx [113, 114, 115, 116, 117, 118, 119, 120, 121, 122, 123, 124, 125] [14, 15, 24, 25] hs h → lp (F := Nat → Int32 → Int32 → Int32 → Hp → Option (Int32 × Hp)) (fun _ _ _ _ _ => none) (f_X9_houses_182) n 108 x1 x3 x4 h = some o → Fx [113, 114, 115, 116, 117, 118, 119, 120, 121, 122, 123, 124, 125] [14, 15, 24, 25] hs o.2 := by
  intro n
  induction n with
  | zero =>
    intro x1 x3 x4 h hF hf
    have hf : (none : Option (Int32 × Hp)) = some o := hf
    cases hf
  | succ n hk182 =>
    intro x1 x3 x4 h hF hf
    have hf : f_X9_houses_182  (lp (F := Nat → Int32 → Int32 → Int32 → Hp → Option (Int32 × Hp)) (fun _ _ _ _ _ => none) (f_X9_houses_182) n) 108 x1 x3 x4 h = some o := hf
    unfold f_X9_houses_182 at hf
    rcases ite_or hf with hf | hf
    · obtain ⟨-, hf⟩ := ite_some hf
      obtain rfl := Option.some.inj hf
      exact hF
    · rcases ite_or hf with hf | hf
      · obtain ⟨-, hf⟩ := ite_some hf
        obtain rfl := Option.some.inj hf
        exact hF
      · obtain ⟨-, hf⟩ := ite_some hf
        rcases ite_or hf with hf | hf
        · exact mf_X9_houses_213 hk182 hF hf
        · obtain ⟨q18, e9, hf⟩ := Option.bind_eq_some_iff.mp hf
          have hF := hF.trans ((mf_X9_sharesOut e9).mono (by decide) (by decide))
          clear e9
          rcases ite_or hf with hf | hf
          · exact mf_X9_houses_218 hk182 hF hf
          · exact mf_X9_houses_213 hk182 hF hf
set_option maxRecDepth 100000 in
theorem mf_X9_houses_150 {hs : Hp} {o : Int32 × Hp}  : ∀ (n : Nat) {x1 : Int32} {x3 : Int32} {x4 : Int32} {h : Hp}, Fx [113, 114, 115, 116, 117, 118, 119, 120, 121, 122, 123, 124, 125] [14, 15, 24, 25] hs h → lp (F := Nat → Int32 → Int32 → Int32 → Hp → Option (Int32 × Hp)) (fun _ _ _ _ _ => none) (f_X9_houses_150) n 108 x1 x3 x4 h = some o → Fx [113, 114, 115, 116, 117, 118, 119, 120, 121, 122, 123, 124, 125] [14, 15, 24, 25] hs o.2 := by
  intro n
  induction n with
  | zero =>
    intro x1 x3 x4 h hF hf
    have hf : (none : Option (Int32 × Hp)) = some o := hf
    cases hf
  | succ n hk150 =>
    intro x1 x3 x4 h hF hf
    have hf : f_X9_houses_150  (lp (F := Nat → Int32 → Int32 → Int32 → Hp → Option (Int32 × Hp)) (fun _ _ _ _ _ => none) (f_X9_houses_150) n) 108 x1 x3 x4 h = some o := hf
    unfold f_X9_houses_150 at hf
    rcases ite_or hf with hf | hf
    · exact mf_X9_houses_182  1000 hF hf
    · obtain ⟨-, hf⟩ := ite_some hf
      obtain ⟨-, hf⟩ := ite_some hf
      obtain ⟨m16, em, hf⟩ := lt_e hf
      have hF := Fx_sI hF em (by decide)
      clear em
      obtain ⟨v17, -, hf⟩ := lt_e hf
      exact hk150 hF hf
set_option maxRecDepth 100000 in
theorem mf_X9_houses_62 {hs : Hp} {o : Int32 × Hp}  : ∀ (n : Nat) {x1 : Int32} {x3 : Int32} {x4 : Int32} {h : Hp}, Fx [113, 114, 115, 116, 117, 118, 119, 120, 121, 122, 123, 124, 125] [14, 15, 24, 25] hs h → lp (F := Nat → Int32 → Int32 → Int32 → Hp → Option (Int32 × Hp)) (fun _ _ _ _ _ => none) (f_X9_houses_62) n 108 x1 x3 x4 h = some o → Fx [113, 114, 115, 116, 117, 118, 119, 120, 121, 122, 123, 124, 125] [14, 15, 24, 25] hs o.2 := by
  intro n
  induction n with
  | zero =>
    intro x1 x3 x4 h hF hf
    have hf : (none : Option (Int32 × Hp)) = some o := hf
    cases hf
  | succ n hk62 =>
    intro x1 x3 x4 h hF hf
    have hf : f_X9_houses_62  (lp (F := Nat → Int32 → Int32 → Int32 → Hp → Option (Int32 × Hp)) (fun _ _ _ _ _ => none) (f_X9_houses_62) n) 108 x1 x3 x4 h = some o := hf
    unfold f_X9_houses_62 at hf
    rcases ite_or hf with hf | hf
    · obtain ⟨m9, em, hf⟩ := lt_e hf
      have hF := Fx_f hF em (by decide)
      clear em
      obtain ⟨m10, em, hf⟩ := lt_e hf
      have hF := Fx_f hF em (by decide)
      clear em
      exact mf_X9_houses_150  1000 hF hf
    · obtain ⟨-, hf⟩ := ite_some hf
      obtain ⟨-, hf⟩ := ite_some hf
      obtain ⟨m11, em, hf⟩ := lt_e hf
      have hF := Fx_sI hF em (by decide)
      clear em
      obtain ⟨-, hf⟩ := ite_some hf
      obtain ⟨-, hf⟩ := ite_some hf
      obtain ⟨m12, em, hf⟩ := lt_e hf
      have hF := Fx_sI hF em (by decide)
      clear em
      obtain ⟨-, hf⟩ := ite_some hf
      obtain ⟨-, hf⟩ := ite_some hf
      obtain ⟨m13, em, hf⟩ := lt_e hf
      have hF := Fx_sI hF em (by decide)
      clear em
      obtain ⟨-, hf⟩ := ite_some hf
      obtain ⟨-, hf⟩ := ite_some hf
      obtain ⟨m14, em, hf⟩ := lt_e hf
      have hF := Fx_sI hF em (by decide)
      clear em
      obtain ⟨v15, -, hf⟩ := lt_e hf
      exact hk62 hF hf
set_option maxRecDepth 100000 in
theorem mf_X9_houses_46 {hs : Hp} {o : Int32 × Hp} {k6 : Nat → Int32 → Int32 → Int32 → Hp → Option (Int32 × Hp)} (hk6 : ∀ {x1 : Int32} {x2 : Int32} {x3 : Int32} {h : Hp}, Fx [113, 114, 115, 116, 117, 118, 119, 120, 121, 122, 123, 124, 125] [14, 15, 24, 25] hs h → k6 108 x1 x2 x3 h = some o → Fx [113, 114, 115, 116, 117, 118, 119, 120, 121, 122, 123, 124, 125] [14, 15, 24, 25] hs o.2) {x1 : Int32} {x2 : Int32} {x3 : Int32} {h : Hp} (hF : Fx [113, 114, 115, 116, 117, 118, 119, 120, 121, 122, 123, 124, 125] [14, 15, 24, 25] hs h) (hf : f_X9_houses_46 k6 108 x1 x2 x3 h = some o) : Fx [113, 114, 115, 116, 117, 118, 119, 120, 121, 122, 123, 124, 125] [14, 15, 24, 25] hs o.2 := by
  unfold f_X9_houses_46 at hf
  obtain ⟨v20, -, hf⟩ := lt_e hf
  exact hk6 hF hf
set_option maxRecDepth 100000 in
theorem mf_X9_houses_6 {hs : Hp} {o : Int32 × Hp}  : ∀ (n : Nat) {x1 : Int32} {x2 : Int32} {x3 : Int32} {h : Hp}, Fx [113, 114, 115, 116, 117, 118, 119, 120, 121, 122, 123, 124, 125] [14, 15, 24, 25] hs h → lp (F := Nat → Int32 → Int32 → Int32 → Hp → Option (Int32 × Hp)) (fun _ _ _ _ _ => none) (f_X9_houses_6) n 108 x1 x2 x3 h = some o → Fx [113, 114, 115, 116, 117, 118, 119, 120, 121, 122, 123, 124, 125] [14, 15, 24, 25] hs o.2 := by
  intro n
  induction n with
  | zero =>
    intro x1 x2 x3 h hF hf
    have hf : (none : Option (Int32 × Hp)) = some o := hf
    cases hf
  | succ n hk6 =>
    intro x1 x2 x3 h hF hf
    have hf : f_X9_houses_6  (lp (F := Nat → Int32 → Int32 → Int32 → Hp → Option (Int32 × Hp)) (fun _ _ _ _ _ => none) (f_X9_houses_6) n) 108 x1 x2 x3 h = some o := hf
    unfold f_X9_houses_6 at hf
    rcases ite_or hf with hf | hf
    · obtain ⟨q2, e9, hf⟩ := Option.bind_eq_some_iff.mp hf
      have hF := hF.trans ((mf_X9_gives e9).mono (by decide) (by decide))
      clear e9
      exact mf_X9_houses_62  1000 hF hf
    · obtain ⟨-, hf⟩ := ite_some hf
      obtain ⟨m3, em, hf⟩ := lt_e hf
      have hF := Fx_sI hF em (by decide)
      clear em
      obtain ⟨q4, e9, hf⟩ := Option.bind_eq_some_iff.mp hf
      have e9 := mf_X9_isIn e9
      have hF := hF.eqr e9
      clear e9
      rcases ite_or hf with hf | hf
      · exact mf_X9_houses_46 hk6 hF hf
      · obtain ⟨q5, e9, hf⟩ := Option.bind_eq_some_iff.mp hf
        have e9 := mf_X9_listOf e9
        have hF := hF.eqr e9
        clear e9
        obtain ⟨q6, e9, hf⟩ := Option.bind_eq_some_iff.mp hf
        have e9 := mf_X9_total e9
        have hF := hF.eqr e9
        clear e9
        obtain ⟨q7, e9, hf⟩ := Option.bind_eq_some_iff.mp hf
        have e9 := mf_X9_leastOf e9
        have hF := hF.eqr e9
        clear e9
        obtain ⟨q8, e9, hf⟩ := Option.bind_eq_some_iff.mp hf
        have hF := hF.trans ((mf_X9_claims e9).mono (by decide) (by decide))
        clear e9
        exact mf_X9_houses_46 hk6 hF hf
set_option maxRecDepth 100000 in
theorem mf_X9_houses {x1 : Int32} {x2 : Int32} {h : Hp} {o : Int32 × Hp} (hf : f_X9_houses 108 x1 x2 h = some o) : Fx [113, 114, 115, 116, 117, 118, 119, 120, 121, 122, 123, 124, 125] [14, 15, 24, 25] h o.2 := by
  have hF : Fx [113, 114, 115, 116, 117, 118, 119, 120, 121, 122, 123, 124, 125] [14, 15, 24, 25] h h := Fx.refl
  unfold f_X9_houses at hf
  obtain ⟨q1, e9, hf⟩ := Option.bind_eq_some_iff.mp hf
  have hF := hF.trans ((mf_X9_nobodyClaims e9).mono (by decide) (by decide))
  clear e9
  exact mf_X9_houses_6  1000 hF hf
set_option maxRecDepth 100000 in
theorem mf_X9_alike_63 {hs : Hp} {o : Int32 × Hp} {k33 : Nat → Int32 → Int32 → Int32 → Hp → Option (Int32 × Hp)} (hk33 : ∀ {x1 : Int32} {x2 : Int32} {x3 : Int32} {h : Hp}, Fx [113, 114, 115, 116, 117, 118, 119, 120, 121, 122, 123, 124, 125, 126] [14, 15, 24, 25] hs h → k33 108 x1 x2 x3 h = some o → Fx [113, 114, 115, 116, 117, 118, 119, 120, 121, 122, 123, 124, 125, 126] [14, 15, 24, 25] hs o.2) {x1 : Int32} {x3 : Int32} {y0 : Int32} {y1 : Int32} {h : Hp} (hF : Fx [113, 114, 115, 116, 117, 118, 119, 120, 121, 122, 123, 124, 125, 126] [14, 15, 24, 25] hs h) (hf : f_X9_alike_63 k33 108 x1 x3 y0 y1 h = some o) : Fx [113, 114, 115, 116, 117, 118, 119, 120, 121, 122, 123, 124, 125, 126] [14, 15, 24, 25] hs o.2 := by
  unfold f_X9_alike_63 at hf
  obtain ⟨v7, -, hf⟩ := lt_e hf
  obtain ⟨v8, -, hf⟩ := lt_e hf
  exact hk33 hF hf
set_option maxRecDepth 100000 in
theorem mf_X9_alike_62 {hs : Hp} {o : Int32 × Hp} {k33 : Nat → Int32 → Int32 → Int32 → Hp → Option (Int32 × Hp)} (hk33 : ∀ {x1 : Int32} {x2 : Int32} {x3 : Int32} {h : Hp}, Fx [113, 114, 115, 116, 117, 118, 119, 120, 121, 122, 123, 124, 125, 126] [14, 15, 24, 25] hs h → k33 108 x1 x2 x3 h = some o → Fx [113, 114, 115, 116, 117, 118, 119, 120, 121, 122, 123, 124, 125, 126] [14, 15, 24, 25] hs o.2) {x1 : Int32} {x3 : Int32} {y0 : Int32} {h : Hp} (hF : Fx [113, 114, 115, 116, 117, 118, 119, 120, 121, 122, 123, 124, 125, 126] [14, 15, 24, 25] hs h) (hf : f_X9_alike_62 k33 108 x1 x3 y0 h = some o) : Fx [113, 114, 115, 116, 117, 118, 119, 120, 121, 122, 123, 124, 125, 126] [14, 15, 24, 25] hs o.2 := by
  unfold f_X9_alike_62 at hf
  exact mf_X9_alike_63 hk33 hF hf
set_option maxRecDepth 100000 in
theorem mf_X9_alike_33 {hs : Hp} {o : Int32 × Hp}  : ∀ (n : Nat) {x1 : Int32} {x2 : Int32} {x3 : Int32} {h : Hp}, Fx [113, 114, 115, 116, 117, 118, 119, 120, 121, 122, 123, 124, 125, 126] [14, 15, 24, 25] hs h → lp (F := Nat → Int32 → Int32 → Int32 → Hp → Option (Int32 × Hp)) (fun _ _ _ _ _ => none) (f_X9_alike_33) n 108 x1 x2 x3 h = some o → Fx [113, 114, 115, 116, 117, 118, 119, 120, 121, 122, 123, 124, 125, 126] [14, 15, 24, 25] hs o.2 := by
  intro n
  induction n with
  | zero =>
    intro x1 x2 x3 h hF hf
    have hf : (none : Option (Int32 × Hp)) = some o := hf
    cases hf
  | succ n hk33 =>
    intro x1 x2 x3 h hF hf
    have hf : f_X9_alike_33  (lp (F := Nat → Int32 → Int32 → Int32 → Hp → Option (Int32 × Hp)) (fun _ _ _ _ _ => none) (f_X9_alike_33) n) 108 x1 x2 x3 h = some o := hf
    unfold f_X9_alike_33 at hf
    rcases ite_or hf with hf | hf
    · obtain rfl := Option.some.inj hf
      exact hF
    · obtain ⟨q5, e9, hf⟩ := Option.bind_eq_some_iff.mp hf
      have hF := hF.trans ((mf_X9_houses e9).mono (by decide) (by decide))
      clear e9
      rcases ite_or hf with hf | hf
      · exact mf_X9_alike_62 hk33 hF hf
      · obtain ⟨q6, e9, hf⟩ := Option.bind_eq_some_iff.mp hf
        have e9 := mf_X9_differs e9
        have hF := hF.eqr e9
        clear e9
        rcases ite_or hf with hf | hf
        · exact mf_X9_alike_63 hk33 hF hf
        · exact mf_X9_alike_62 hk33 hF hf
set_option maxRecDepth 100000 in
theorem mf_X9_alike {x1 : Int32} {h : Hp} {o : Int32 × Hp} (hf : f_X9_alike 108 x1 h = some o) : Fx [113, 114, 115, 116, 117, 118, 119, 120, 121, 122, 123, 124, 125, 126] [14, 15, 24, 25] h o.2 := by
  have hF : Fx [113, 114, 115, 116, 117, 118, 119, 120, 121, 122, 123, 124, 125, 126] [14, 15, 24, 25] h h := Fx.refl
  unfold f_X9_alike at hf
  obtain ⟨q1, e9, hf⟩ := Option.bind_eq_some_iff.mp hf
  have e9 := mf_X9_isHouse e9
  have hF := hF.eqr e9
  clear e9
  rcases ite_or hf with hf | hf
  · obtain rfl := Option.some.inj hf
    exact hF
  · obtain ⟨q2, e9, hf⟩ := Option.bind_eq_some_iff.mp hf
    have e9 := mf_X9_wayNow e9
    have hF := hF.eqr e9
    clear e9
    obtain ⟨q3, e9, hf⟩ := Option.bind_eq_some_iff.mp hf
    have hF := hF.trans ((mf_X9_houses e9).mono (by decide) (by decide))
    clear e9
    rcases ite_or hf with hf | hf
    · obtain rfl := Option.some.inj hf
      exact hF
    · obtain ⟨q4, e9, hf⟩ := Option.bind_eq_some_iff.mp hf
      have hF := hF.trans ((mf_X9_holdsHouse e9).mono (by decide) (by decide))
      clear e9
      exact mf_X9_alike_33  1000 hF hf
set_option maxRecDepth 100000 in
theorem mf_X9_differ {x1 : Int32} {x2 : Int32} {x3 : Int32} {h : Hp} {o : Int32 × Hp} (hf : f_X9_differ 108 x1 x2 x3 h = some o) : Fx [113, 114, 115, 116, 117, 118, 119, 120, 121, 122, 123, 124, 125, 126] [14, 15, 24, 25] h o.2 := by
  have hF : Fx [113, 114, 115, 116, 117, 118, 119, 120, 121, 122, 123, 124, 125, 126] [14, 15, 24, 25] h h := Fx.refl
  unfold f_X9_differ at hf
  obtain ⟨q1, e9, hf⟩ := Option.bind_eq_some_iff.mp hf
  have e9 := mf_X9_within e9
  have hF := hF.eqr e9
  clear e9
  rcases ite_or hf with hf | hf
  · obtain rfl := Option.some.inj hf
    exact hF
  · obtain ⟨q2, e9, hf⟩ := Option.bind_eq_some_iff.mp hf
    have e9 := mf_X9_within e9
    have hF := hF.eqr e9
    clear e9
    rcases ite_or hf with hf | hf
    · obtain rfl := Option.some.inj hf
      exact hF
    · obtain ⟨q3, e9, hf⟩ := Option.bind_eq_some_iff.mp hf
      have e9 := mf_X9_isHouse e9
      have hF := hF.eqr e9
      clear e9
      rcases ite_or hf with hf | hf
      · obtain rfl := Option.some.inj hf
        exact hF
      · obtain ⟨q4, e9, hf⟩ := Option.bind_eq_some_iff.mp hf
        have hF := hF.trans ((mf_X9_houses e9).mono (by decide) (by decide))
        clear e9
        rcases ite_or hf with hf | hf
        · obtain rfl := Option.some.inj hf
          exact hF
        · obtain ⟨q5, e9, hf⟩ := Option.bind_eq_some_iff.mp hf
          have hF := hF.trans ((mf_X9_holdsHouse e9).mono (by decide) (by decide))
          clear e9
          obtain ⟨q6, e9, hf⟩ := Option.bind_eq_some_iff.mp hf
          have hF := hF.trans ((mf_X9_houses e9).mono (by decide) (by decide))
          clear e9
          rcases ite_or hf with hf | hf
          · obtain rfl := Option.some.inj hf
            exact hF
          · obtain ⟨q7, e9, hf⟩ := Option.bind_eq_some_iff.mp hf
            have e9 := mf_X9_differs e9
            have hF := hF.eqr e9
            clear e9
            obtain rfl := Option.some.inj hf
            exact hF
set_option maxRecDepth 100000 in
theorem mf_X9_house {x1 : Int32} {x2 : Int32} {h : Hp} {o : Int32 × Hp} (hf : f_X9_house 108 x1 x2 h = some o) : Fx [113, 114, 115, 116, 117, 118, 119, 120, 121, 122, 123, 124, 125] [14, 15, 24, 25] h o.2 := by
  have hF : Fx [113, 114, 115, 116, 117, 118, 119, 120, 121, 122, 123, 124, 125] [14, 15, 24, 25] h h := Fx.refl
  unfold f_X9_house at hf
  obtain ⟨q1, e9, hf⟩ := Option.bind_eq_some_iff.mp hf
  have e9 := mf_X9_isParty e9
  have hF := hF.eqr e9
  clear e9
  rcases ite_or hf with hf | hf
  · obtain rfl := Option.some.inj hf
    exact hF
  · obtain ⟨q2, e9, hf⟩ := Option.bind_eq_some_iff.mp hf
    have e9 := mf_X9_isHouse e9
    have hF := hF.eqr e9
    clear e9
    rcases ite_or hf with hf | hf
    · obtain rfl := Option.some.inj hf
      exact hF
    · obtain ⟨q3, e9, hf⟩ := Option.bind_eq_some_iff.mp hf
      have e9 := mf_X9_wayNow e9
      have hF := hF.eqr e9
      clear e9
      obtain ⟨q4, e9, hf⟩ := Option.bind_eq_some_iff.mp hf
      have hF := hF.trans ((mf_X9_houses e9).mono (by decide) (by decide))
      clear e9
      rcases ite_or hf with hf | hf
      · obtain rfl := Option.some.inj hf
        exact hF
      · obtain ⟨-, hf⟩ := ite_some hf
        obtain rfl := Option.some.inj hf
        exact hF
set_option maxRecDepth 100000 in
theorem mf_X9_list {x1 : Int32} {x2 : Int32} {h : Hp} {o : Int32 × Hp} (hf : f_X9_list 108 x1 x2 h = some o) : Fx [113, 114, 115, 116, 117, 118, 119, 120, 121, 122, 123, 124, 125] [14, 15, 24, 25] h o.2 := by
  have hF : Fx [113, 114, 115, 116, 117, 118, 119, 120, 121, 122, 123, 124, 125] [14, 15, 24, 25] h h := Fx.refl
  unfold f_X9_list at hf
  obtain ⟨q1, e9, hf⟩ := Option.bind_eq_some_iff.mp hf
  have e9 := mf_X9_isParty e9
  have hF := hF.eqr e9
  clear e9
  rcases ite_or hf with hf | hf
  · obtain rfl := Option.some.inj hf
    exact hF
  · obtain ⟨q2, e9, hf⟩ := Option.bind_eq_some_iff.mp hf
    have e9 := mf_X9_isHouse e9
    have hF := hF.eqr e9
    clear e9
    rcases ite_or hf with hf | hf
    · obtain rfl := Option.some.inj hf
      exact hF
    · obtain ⟨q3, e9, hf⟩ := Option.bind_eq_some_iff.mp hf
      have e9 := mf_X9_wayNow e9
      have hF := hF.eqr e9
      clear e9
      obtain ⟨q4, e9, hf⟩ := Option.bind_eq_some_iff.mp hf
      have hF := hF.trans ((mf_X9_houses e9).mono (by decide) (by decide))
      clear e9
      rcases ite_or hf with hf | hf
      · obtain rfl := Option.some.inj hf
        exact hF
      · obtain ⟨-, hf⟩ := ite_some hf
        obtain rfl := Option.some.inj hf
        exact hF
set_option maxRecDepth 100000 in
theorem mf_X9_losesAt_38 {hs : Hp} {o : Int32 × Hp}  : ∀ (n : Nat) {x2 : Int32} {h : Hp}, Fx [113, 114, 115, 116, 117, 118, 119, 120, 121, 122, 123, 124, 125, 126] [14, 15, 24, 25] hs h → lp (F := Nat → Int32 → Hp → Option (Int32 × Hp)) (fun _ _ _ => none) (f_X9_losesAt_38) n 108 x2 h = some o → Fx [113, 114, 115, 116, 117, 118, 119, 120, 121, 122, 123, 124, 125, 126] [14, 15, 24, 25] hs o.2 := by
  intro n
  induction n with
  | zero =>
    intro x2 h hF hf
    have hf : (none : Option (Int32 × Hp)) = some o := hf
    cases hf
  | succ n hk38 =>
    intro x2 h hF hf
    have hf : f_X9_losesAt_38  (lp (F := Nat → Int32 → Hp → Option (Int32 × Hp)) (fun _ _ _ => none) (f_X9_losesAt_38) n) 108 x2 h = some o := hf
    unfold f_X9_losesAt_38 at hf
    rcases ite_or hf with hf | hf
    · obtain rfl := Option.some.inj hf
      exact hF
    · obtain ⟨-, hf⟩ := ite_some hf
      obtain ⟨-, hf⟩ := ite_some hf
      rcases ite_or hf with hf | hf
      · obtain ⟨v6, -, hf⟩ := lt_e hf
        exact hk38 hF hf
      · obtain rfl := Option.some.inj hf
        exact hF
set_option maxRecDepth 100000 in
theorem mf_X9_losesAt {x1 : Int32} {h : Hp} {o : Int32 × Hp} (hf : f_X9_losesAt 108 x1 h = some o) : Fx [113, 114, 115, 116, 117, 118, 119, 120, 121, 122, 123, 124, 125, 126] [14, 15, 24, 25] h o.2 := by
  have hF : Fx [113, 114, 115, 116, 117, 118, 119, 120, 121, 122, 123, 124, 125, 126] [14, 15, 24, 25] h h := Fx.refl
  unfold f_X9_losesAt at hf
  obtain ⟨q1, e9, hf⟩ := Option.bind_eq_some_iff.mp hf
  have e9 := mf_X9_wayNow e9
  have hF := hF.eqr e9
  clear e9
  obtain ⟨q2, e9, hf⟩ := Option.bind_eq_some_iff.mp hf
  have hF := hF.trans ((mf_X9_houses e9).mono (by decide) (by decide))
  clear e9
  rcases ite_or hf with hf | hf
  · obtain rfl := Option.some.inj hf
    exact hF
  · obtain ⟨q3, e9, hf⟩ := Option.bind_eq_some_iff.mp hf
    have hF := hF.trans ((mf_X9_holdsHouse e9).mono (by decide) (by decide))
    clear e9
    obtain ⟨q4, e9, hf⟩ := Option.bind_eq_some_iff.mp hf
    have e9 := mf_X9_wayNow e9
    have hF := hF.eqr e9
    clear e9
    obtain ⟨q5, e9, hf⟩ := Option.bind_eq_some_iff.mp hf
    have hF := hF.trans ((mf_X9_houses e9).mono (by decide) (by decide))
    clear e9
    rcases ite_or hf with hf | hf
    · obtain rfl := Option.some.inj hf
      exact hF
    · exact mf_X9_losesAt_38  1000 hF hf
set_option maxRecDepth 100000 in
theorem mf_X9_orderRefusal_31 {hs : Hp} {o : Int32 × Hp}   {h : Hp} (hF : Fx [113, 114, 115, 116, 117, 118, 119, 120, 121, 122, 123, 124, 125] [14, 15, 24, 25] hs h) (hf : f_X9_orderRefusal_31   h = some o) : Fx [113, 114, 115, 116, 117, 118, 119, 120, 121, 122, 123, 124, 125] [14, 15, 24, 25] hs o.2 := by
  unfold f_X9_orderRefusal_31 at hf
  obtain rfl := Option.some.inj hf
  exact hF
set_option maxRecDepth 100000 in
theorem mf_X9_orderRefusal {x1 : Int32} {h : Hp} {o : Int32 × Hp} (hf : f_X9_orderRefusal 108 x1 h = some o) : Fx [113, 114, 115, 116, 117, 118, 119, 120, 121, 122, 123, 124, 125] [14, 15, 24, 25] h o.2 := by
  have hF : Fx [113, 114, 115, 116, 117, 118, 119, 120, 121, 122, 123, 124, 125] [14, 15, 24, 25] h h := Fx.refl
  unfold f_X9_orderRefusal at hf
  obtain ⟨q1, e9, hf⟩ := Option.bind_eq_some_iff.mp hf
  have e9 := mf_X9_isHouse e9
  have hF := hF.eqr e9
  clear e9
  rcases ite_or hf with hf | hf
  · obtain rfl := Option.some.inj hf
    exact hF
  · obtain ⟨q2, e9, hf⟩ := Option.bind_eq_some_iff.mp hf
    have e9 := mf_X9_wayNow e9
    have hF := hF.eqr e9
    clear e9
    rcases ite_or hf with hf | hf
    · exact mf_X9_orderRefusal_31  hF hf
    · obtain ⟨q3, e9, hf⟩ := Option.bind_eq_some_iff.mp hf
      have e9 := mf_X9_wayNow e9
      have hF := hF.eqr e9
      clear e9
      obtain ⟨q4, e9, hf⟩ := Option.bind_eq_some_iff.mp hf
      have hF := hF.trans ((mf_X9_houses e9).mono (by decide) (by decide))
      clear e9
      rcases ite_or hf with hf | hf
      · exact mf_X9_orderRefusal_31  hF hf
      · obtain rfl := Option.some.inj hf
        exact hF
set_option maxRecDepth 100000 in
theorem mf_X9_plans_161 {hs : Hp} {o : Int32 × Hp} {k115 : Nat → Int32 → Hp → Option (Int32 × Hp)} (hk115 : ∀ {x2 : Int32} {h : Hp}, Fx [113, 114, 115, 116, 117, 118, 119, 120, 121, 122, 123, 124, 125, 128, 129, 130] [14, 15, 24, 25, 31, 32] hs h → k115 108 x2 h = some o → Fx [113, 114, 115, 116, 117, 118, 119, 120, 121, 122, 123, 124, 125, 128, 129, 130] [14, 15, 24, 25, 31, 32] hs o.2) {x2 : Int32} {h : Hp} (hF : Fx [113, 114, 115, 116, 117, 118, 119, 120, 121, 122, 123, 124, 125, 128, 129, 130] [14, 15, 24, 25, 31, 32] hs h) (hf : f_X9_plans_161 k115 108 x2 h = some o) : Fx [113, 114, 115, 116, 117, 118, 119, 120, 121, 122, 123, 124, 125, 128, 129, 130] [14, 15, 24, 25, 31, 32] hs o.2 := by
  unfold f_X9_plans_161 at hf
  obtain ⟨v18, -, hf⟩ := lt_e hf
  exact hk115 hF hf
set_option maxRecDepth 100000 in
theorem mf_X9_plans_115 {hs : Hp} {o : Int32 × Hp}  : ∀ (n : Nat) {x2 : Int32} {h : Hp}, Fx [113, 114, 115, 116, 117, 118, 119, 120, 121, 122, 123, 124, 125, 128, 129, 130] [14, 15, 24, 25, 31, 32] hs h → lp (F := Nat → Int32 → Hp → Option (Int32 × Hp)) (fun _ _ _ => none) (f_X9_plans_115) n 108 x2 h = some o → Fx [113, 114, 115, 116, 117, 118, 119, 120, 121, 122, 123, 124, 125, 128, 129, 130] [14, 15, 24, 25, 31, 32] hs o.2 := by
  intro n
  induction n with
  | zero =>
    intro x2 h hF hf
    have hf : (none : Option (Int32 × Hp)) = some o := hf
    cases hf
  | succ n hk115 =>
    intro x2 h hF hf
    have hf : f_X9_plans_115  (lp (F := Nat → Int32 → Hp → Option (Int32 × Hp)) (fun _ _ _ => none) (f_X9_plans_115) n) 108 x2 h = some o := hf
    unfold f_X9_plans_115 at hf
    rcases ite_or hf with hf | hf
    · obtain ⟨-, hf⟩ := ite_some hf
      obtain rfl := Option.some.inj hf
      exact hF
    · obtain ⟨-, hf⟩ := ite_some hf
      obtain ⟨-, hf⟩ := ite_some hf
      obtain ⟨m14, em, hf⟩ := lt_e hf
      have hF := Fx_sI hF em (by decide)
      clear em
      obtain ⟨q15, e9, hf⟩ := Option.bind_eq_some_iff.mp hf
      have e9 := mf_X9_isIn e9
      have hF := hF.eqr e9
      clear e9
      rcases ite_or hf with hf | hf
      · exact mf_X9_plans_161 hk115 hF hf
      · obtain ⟨-, hf⟩ := ite_some hf
        obtain ⟨m16, em, hf⟩ := lt_e hf
        have hF := Fx_sI hF em (by decide)
        clear em
        obtain ⟨m17, em, hf⟩ := lt_e hf
        have hF := Fx_f hF em (by decide)
        clear em
        exact mf_X9_plans_161 hk115 hF hf
set_option maxRecDepth 100000 in
theorem mf_X9_plans_107 {hs : Hp} {o : Int32 × Hp} {k74 : Nat → Int32 → Hp → Option (Int32 × Hp)} (hk74 : ∀ {x2 : Int32} {h : Hp}, Fx [113, 114, 115, 116, 117, 118, 119, 120, 121, 122, 123, 124, 125, 128, 129, 130] [14, 15, 24, 25, 31, 32] hs h → k74 108 x2 h = some o → Fx [113, 114, 115, 116, 117, 118, 119, 120, 121, 122, 123, 124, 125, 128, 129, 130] [14, 15, 24, 25, 31, 32] hs o.2) {x2 : Int32} {h : Hp} (hF : Fx [113, 114, 115, 116, 117, 118, 119, 120, 121, 122, 123, 124, 125, 128, 129, 130] [14, 15, 24, 25, 31, 32] hs h) (hf : f_X9_plans_107 k74 108 x2 h = some o) : Fx [113, 114, 115, 116, 117, 118, 119, 120, 121, 122, 123, 124, 125, 128, 129, 130] [14, 15, 24, 25, 31, 32] hs o.2 := by
  unfold f_X9_plans_107 at hf
  obtain ⟨v19, -, hf⟩ := lt_e hf
  exact hk74 hF hf
set_option maxRecDepth 100000 in
theorem mf_X9_plans_74 {hs : Hp} {o : Int32 × Hp}  : ∀ (n : Nat) {x2 : Int32} {h : Hp}, Fx [113, 114, 115, 116, 117, 118, 119, 120, 121, 122, 123, 124, 125, 128, 129, 130] [14, 15, 24, 25, 31, 32] hs h → lp (F := Nat → Int32 → Hp → Option (Int32 × Hp)) (fun _ _ _ => none) (f_X9_plans_74) n 108 x2 h = some o → Fx [113, 114, 115, 116, 117, 118, 119, 120, 121, 122, 123, 124, 125, 128, 129, 130] [14, 15, 24, 25, 31, 32] hs o.2 := by
  intro n
  induction n with
  | zero =>
    intro x2 h hF hf
    have hf : (none : Option (Int32 × Hp)) = some o := hf
    cases hf
  | succ n hk74 =>
    intro x2 h hF hf
    have hf : f_X9_plans_74  (lp (F := Nat → Int32 → Hp → Option (Int32 × Hp)) (fun _ _ _ => none) (f_X9_plans_74) n) 108 x2 h = some o := hf
    unfold f_X9_plans_74 at hf
    rcases ite_or hf with hf | hf
    · exact mf_X9_plans_115  1000 hF hf
    · obtain ⟨q11, e9, hf⟩ := Option.bind_eq_some_iff.mp hf
      have e9 := mf_X9_seatsOf e9
      have hF := hF.eqr e9
      clear e9
      rcases ite_or hf with hf | hf
      · exact mf_X9_plans_107 hk74 hF hf
      · obtain ⟨-, hf⟩ := ite_some hf
        obtain ⟨m12, em, hf⟩ := lt_e hf
        have hF := Fx_sI hF em (by decide)
        clear em
        obtain ⟨m13, em, hf⟩ := lt_e hf
        have hF := Fx_f hF em (by decide)
        clear em
        exact mf_X9_plans_107 hk74 hF hf
set_option maxRecDepth 100000 in
theorem mf_X9_plans_48 {hs : Hp} {o : Int32 × Hp}  {x1 : Int32} {h : Hp} (hF : Fx [113, 114, 115, 116, 117, 118, 119, 120, 121, 122, 123, 124, 125, 128, 129, 130] [14, 15, 24, 25, 31, 32] hs h) (hf : f_X9_plans_48  108 x1 h = some o) : Fx [113, 114, 115, 116, 117, 118, 119, 120, 121, 122, 123, 124, 125, 128, 129, 130] [14, 15, 24, 25, 31, 32] hs o.2 := by
  unfold f_X9_plans_48 at hf
  obtain ⟨q7, e9, hf⟩ := Option.bind_eq_some_iff.mp hf
  have e9 := mf_X9_wayNow e9
  have hF := hF.eqr e9
  clear e9
  obtain ⟨q8, e9, hf⟩ := Option.bind_eq_some_iff.mp hf
  have hF := hF.trans ((mf_X9_houses e9).mono (by decide) (by decide))
  clear e9
  rcases ite_or hf with hf | hf
  · obtain ⟨-, hf⟩ := ite_some hf
    obtain rfl := Option.some.inj hf
    exact hF
  · obtain ⟨m9, em, hf⟩ := lt_e hf
    have hF := Fx_f hF em (by decide)
    clear em
    obtain ⟨m10, em, hf⟩ := lt_e hf
    have hF := Fx_f hF em (by decide)
    clear em
    exact mf_X9_plans_74  1000 hF hf
set_option maxRecDepth 100000 in
theorem mf_X9_plans  {h : Hp} {o : Int32 × Hp} (hf : f_X9_plans 108 h = some o) : Fx [113, 114, 115, 116, 117, 118, 119, 120, 121, 122, 123, 124, 125, 128, 129, 130] [14, 15, 24, 25, 31, 32] h o.2 := by
  have hF : Fx [113, 114, 115, 116, 117, 118, 119, 120, 121, 122, 123, 124, 125, 128, 129, 130] [14, 15, 24, 25, 31, 32] h h := Fx.refl
  unfold f_X9_plans at hf
  obtain ⟨q1, e9, hf⟩ := Option.bind_eq_some_iff.mp hf
  have e9 := mf_X9_allSeats e9
  have hF := hF.eqr e9
  clear e9
  obtain ⟨q2, e9, hf⟩ := Option.bind_eq_some_iff.mp hf
  have e9 := mf_X9_within e9
  have hF := hF.eqr e9
  clear e9
  rcases ite_or hf with hf | hf
  · obtain ⟨-, hf⟩ := ite_some hf
    obtain rfl := Option.some.inj hf
    exact hF
  · obtain ⟨q3, e9, hf⟩ := Option.bind_eq_some_iff.mp hf
    have e9 := mf_X9_wayNow e9
    have hF := hF.eqr e9
    clear e9
    rcases ite_or hf with hf | hf
    · exact mf_X9_plans_48  hF hf
    · obtain ⟨q4, e9, hf⟩ := Option.bind_eq_some_iff.mp hf
      have e9 := mf_X9_wayNow e9
      have hF := hF.eqr e9
      clear e9
      rcases ite_or hf with hf | hf
      · exact mf_X9_plans_48  hF hf
      · obtain ⟨q5, e9, hf⟩ := Option.bind_eq_some_iff.mp hf
        have e9 := mf_X9_wayNow e9
        have hF := hF.eqr e9
        clear e9
        rcases ite_or hf with hf | hf
        · exact mf_X9_plans_48  hF hf
        · obtain ⟨q6, e9, hf⟩ := Option.bind_eq_some_iff.mp hf
          have e9 := mf_X9_wayNow e9
          have hF := hF.eqr e9
          clear e9
          rcases ite_or hf with hf | hf
          · exact mf_X9_plans_48  hF hf
          · obtain ⟨-, hf⟩ := ite_some hf
            obtain rfl := Option.some.inj hf
            exact hF
set_option maxRecDepth 100000 in
theorem mf_X9_quota_166 {hs : Hp} {o : Int32 × Hp} {k72 : Nat → Int32 → Int64 → Int32 → Int32 → Hp → Option (Int32 × Hp)} (hk72 : ∀ {x1 : Int32} {x2 : Int64} {x4 : Int32} {x5 : Int32} {h : Hp}, Fx [113, 114, 115, 116, 117, 118, 119, 120, 121, 122, 123, 124, 125] [14, 15, 24, 25] hs h → k72 108 x1 x2 x4 x5 h = some o → Fx [113, 114, 115, 116, 117, 118, 119, 120, 121, 122, 123, 124, 125] [14, 15, 24, 25] hs o.2) {x1 : Int32} {x2 : Int64} {x4 : Int32} {x5 : Int32} {h : Hp} (hF : Fx [113, 114, 115, 116, 117, 118, 119, 120, 121, 122, 123, 124, 125] [14, 15, 24, 25] hs h) (hf : f_X9_quota_166 k72 108 x1 x2 x4 x5 h = some o) : Fx [113, 114, 115, 116, 117, 118, 119, 120, 121, 122, 123, 124, 125] [14, 15, 24, 25] hs o.2 := by
  unfold f_X9_quota_166 at hf
  obtain ⟨v10, -, hf⟩ := lt_e hf
  exact hk72 hF hf
set_option maxRecDepth 100000 in
theorem mf_X9_quota_163 {hs : Hp} {o : Int32 × Hp} {k72 : Nat → Int32 → Int64 → Int32 → Int32 → Hp → Option (Int32 × Hp)} (hk72 : ∀ {x1 : Int32} {x2 : Int64} {x4 : Int32} {x5 : Int32} {h : Hp}, Fx [113, 114, 115, 116, 117, 118, 119, 120, 121, 122, 123, 124, 125] [14, 15, 24, 25] hs h → k72 108 x1 x2 x4 x5 h = some o → Fx [113, 114, 115, 116, 117, 118, 119, 120, 121, 122, 123, 124, 125] [14, 15, 24, 25] hs o.2) {x1 : Int32} {x2 : Int64} {x5 : Int32} {y0 : Int32} {y1 : Int32} {h : Hp} (hF : Fx [113, 114, 115, 116, 117, 118, 119, 120, 121, 122, 123, 124, 125] [14, 15, 24, 25] hs h) (hf : f_X9_quota_163 k72 108 x1 x2 x5 y0 y1 h = some o) : Fx [113, 114, 115, 116, 117, 118, 119, 120, 121, 122, 123, 124, 125] [14, 15, 24, 25] hs o.2 := by
  unfold f_X9_quota_163 at hf
  obtain ⟨v13, -, hf⟩ := lt_e hf
  exact mf_X9_quota_166 hk72 hF hf
set_option maxRecDepth 100000 in
theorem mf_X9_quota_131 {hs : Hp} {o : Int32 × Hp} {k72 : Nat → Int32 → Int64 → Int32 → Int32 → Hp → Option (Int32 × Hp)} (hk72 : ∀ {x1 : Int32} {x2 : Int64} {x4 : Int32} {x5 : Int32} {h : Hp}, Fx [113, 114, 115, 116, 117, 118, 119, 120, 121, 122, 123, 124, 125] [14, 15, 24, 25] hs h → k72 108 x1 x2 x4 x5 h = some o → Fx [113, 114, 115, 116, 117, 118, 119, 120, 121, 122, 123, 124, 125] [14, 15, 24, 25] hs o.2) {x1 : Int32} {x2 : Int64} {x4 : Int32} {x5 : Int32} {x8 : Int64} {y0 : Int32} {y1 : Int64} {h : Hp} (hF : Fx [113, 114, 115, 116, 117, 118, 119, 120, 121, 122, 123, 124, 125] [14, 15, 24, 25] hs h) (hf : f_X9_quota_131 k72 108 x1 x2 x4 x5 x8 y0 y1 h = some o) : Fx [113, 114, 115, 116, 117, 118, 119, 120, 121, 122, 123, 124, 125] [14, 15, 24, 25] hs o.2 := by
  unfold f_X9_quota_131 at hf
  obtain ⟨v11, -, hf⟩ := lt_e hf
  obtain ⟨-, hf⟩ := ite_some hf
  obtain ⟨q12, e9, hf⟩ := Option.bind_eq_some_iff.mp hf
  have e9 := mf_X9_within e9
  have hF := hF.eqr e9
  clear e9
  rcases ite_or hf with hf | hf
  · exact mf_X9_quota_163 hk72 hF hf
  · exact mf_X9_quota_163 hk72 hF hf
set_option maxRecDepth 100000 in
theorem mf_X9_quota_72 {hs : Hp} {o : Int32 × Hp}  : ∀ (n : Nat) {x1 : Int32} {x2 : Int64} {x4 : Int32} {x5 : Int32} {h : Hp}, Fx [113, 114, 115, 116, 117, 118, 119, 120, 121, 122, 123, 124, 125] [14, 15, 24, 25] hs h → lp (F := Nat → Int32 → Int64 → Int32 → Int32 → Hp → Option (Int32 × Hp)) (fun _ _ _ _ _ _ => none) (f_X9_quota_72) n 108 x1 x2 x4 x5 h = some o → Fx [113, 114, 115, 116, 117, 118, 119, 120, 121, 122, 123, 124, 125] [14, 15, 24, 25] hs o.2 := by
  intro n
  induction n with
  | zero =>
    intro x1 x2 x4 x5 h hF hf
    have hf : (none : Option (Int32 × Hp)) = some o := hf
    cases hf
  | succ n hk72 =>
    intro x1 x2 x4 x5 h hF hf
    have hf : f_X9_quota_72  (lp (F := Nat → Int32 → Int64 → Int32 → Int32 → Hp → Option (Int32 × Hp)) (fun _ _ _ _ _ _ => none) (f_X9_quota_72) n) 108 x1 x2 x4 x5 h = some o := hf
    unfold f_X9_quota_72 at hf
    rcases ite_or hf with hf | hf
    · obtain rfl := Option.some.inj hf
      exact hF
    · rcases ite_or hf with hf | hf
      · obtain rfl := Option.some.inj hf
        exact hF
      · obtain ⟨q6, e9, hf⟩ := Option.bind_eq_some_iff.mp hf
        have e9 := mf_X9_isIn e9
        have hF := hF.eqr e9
        clear e9
        rcases ite_or hf with hf | hf
        · exact mf_X9_quota_166 hk72 hF hf
        · obtain ⟨q7, e9, hf⟩ := Option.bind_eq_some_iff.mp hf
          have e9 := mf_X9_total e9
          have hF := hF.eqr e9
          clear e9
          obtain ⟨v8, -, hf⟩ := lt_e hf
          obtain ⟨-, hf⟩ := ite_none hf
          obtain ⟨v9, -, hf⟩ := lt_e hf
          obtain ⟨-, hf⟩ := ite_none hf
          rcases ite_or hf with hf | hf
          · exact mf_X9_quota_131 hk72 hF hf
          · exact mf_X9_quota_131 hk72 hF hf
set_option maxRecDepth 100000 in
theorem mf_X9_quota_58 {hs : Hp} {o : Int32 × Hp} {k30 : Nat → Int32 → Int64 → Int32 → Hp → Option (Int32 × Hp)} (hk30 : ∀ {x1 : Int32} {x2 : Int64} {x4 : Int32} {h : Hp}, Fx [113, 114, 115, 116, 117, 118, 119, 120, 121, 122, 123, 124, 125] [14, 15, 24, 25] hs h → k30 108 x1 x2 x4 h = some o → Fx [113, 114, 115, 116, 117, 118, 119, 120, 121, 122, 123, 124, 125] [14, 15, 24, 25] hs o.2) {x1 : Int32} {x4 : Int32} {y0 : Int64} {y1 : Int64} {h : Hp} (hF : Fx [113, 114, 115, 116, 117, 118, 119, 120, 121, 122, 123, 124, 125] [14, 15, 24, 25] hs h) (hf : f_X9_quota_58 k30 108 x1 x4 y0 y1 h = some o) : Fx [113, 114, 115, 116, 117, 118, 119, 120, 121, 122, 123, 124, 125] [14, 15, 24, 25] hs o.2 := by
  unfold f_X9_quota_58 at hf
  obtain ⟨v14, -, hf⟩ := lt_e hf
  obtain ⟨v15, -, hf⟩ := lt_e hf
  exact hk30 hF hf
set_option maxRecDepth 100000 in
theorem mf_X9_quota_30 {hs : Hp} {o : Int32 × Hp}  : ∀ (n : Nat) {x1 : Int32} {x2 : Int64} {x4 : Int32} {h : Hp}, Fx [113, 114, 115, 116, 117, 118, 119, 120, 121, 122, 123, 124, 125] [14, 15, 24, 25] hs h → lp (F := Nat → Int32 → Int64 → Int32 → Hp → Option (Int32 × Hp)) (fun _ _ _ _ _ => none) (f_X9_quota_30) n 108 x1 x2 x4 h = some o → Fx [113, 114, 115, 116, 117, 118, 119, 120, 121, 122, 123, 124, 125] [14, 15, 24, 25] hs o.2 := by
  intro n
  induction n with
  | zero =>
    intro x1 x2 x4 h hF hf
    have hf : (none : Option (Int32 × Hp)) = some o := hf
    cases hf
  | succ n hk30 =>
    intro x1 x2 x4 h hF hf
    have hf : f_X9_quota_30  (lp (F := Nat → Int32 → Int64 → Int32 → Hp → Option (Int32 × Hp)) (fun _ _ _ _ _ => none) (f_X9_quota_30) n) 108 x1 x2 x4 h = some o := hf
    unfold f_X9_quota_30 at hf
    rcases ite_or hf with hf | hf
    · exact mf_X9_quota_72  1000 hF hf
    · obtain ⟨q4, e9, hf⟩ := Option.bind_eq_some_iff.mp hf
      have e9 := mf_X9_isIn e9
      have hF := hF.eqr e9
      clear e9
      rcases ite_or hf with hf | hf
      · exact mf_X9_quota_58 hk30 hF hf
      · obtain ⟨q5, e9, hf⟩ := Option.bind_eq_some_iff.mp hf
        have e9 := mf_X9_total e9
        have hF := hF.eqr e9
        clear e9
        exact mf_X9_quota_58 hk30 hF hf
set_option maxRecDepth 100000 in
theorem mf_X9_quota {x1 : Int32} {h : Hp} {o : Int32 × Hp} (hf : f_X9_quota 108 x1 h = some o) : Fx [113, 114, 115, 116, 117, 118, 119, 120, 121, 122, 123, 124, 125] [14, 15, 24, 25] h o.2 := by
  have hF : Fx [113, 114, 115, 116, 117, 118, 119, 120, 121, 122, 123, 124, 125] [14, 15, 24, 25] h h := Fx.refl
  unfold f_X9_quota at hf
  obtain ⟨q1, e9, hf⟩ := Option.bind_eq_some_iff.mp hf
  have e9 := mf_X9_isHouse e9
  have hF := hF.eqr e9
  clear e9
  rcases ite_or hf with hf | hf
  · obtain rfl := Option.some.inj hf
    exact hF
  · obtain ⟨q2, e9, hf⟩ := Option.bind_eq_some_iff.mp hf
    have e9 := mf_X9_wayNow e9
    have hF := hF.eqr e9
    clear e9
    obtain ⟨q3, e9, hf⟩ := Option.bind_eq_some_iff.mp hf
    have hF := hF.trans ((mf_X9_houses e9).mono (by decide) (by decide))
    clear e9
    rcases ite_or hf with hf | hf
    · obtain rfl := Option.some.inj hf
      exact hF
    · exact mf_X9_quota_30  1000 hF hf
set_option maxRecDepth 100000 in
theorem mf_X9_span {x1 : Int32} {x2 : Int32} {x3 : Int32} {h : Hp} {o : Int64 × Hp} (hf : f_X9_span 108 x1 x2 x3 h = some o) : Fx [113, 114, 115, 116, 117, 118, 119, 120, 121, 122, 123, 124, 125] [14, 15, 24, 25] h o.2 := by
  have hF : Fx [113, 114, 115, 116, 117, 118, 119, 120, 121, 122, 123, 124, 125] [14, 15, 24, 25] h h := Fx.refl
  unfold f_X9_span at hf
  obtain ⟨q1, e9, hf⟩ := Option.bind_eq_some_iff.mp hf
  have e9 := mf_X9_isHouse e9
  have hF := hF.eqr e9
  clear e9
  rcases ite_or hf with hf | hf
  · obtain rfl := Option.some.inj hf
    exact hF
  · obtain ⟨q2, e9, hf⟩ := Option.bind_eq_some_iff.mp hf
    have e9 := mf_X9_isPart e9
    have hF := hF.eqr e9
    clear e9
    rcases ite_or hf with hf | hf
    · obtain rfl := Option.some.inj hf
      exact hF
    · obtain ⟨q3, e9, hf⟩ := Option.bind_eq_some_iff.mp hf
      have e9 := mf_X9_isPart e9
      have hF := hF.eqr e9
      clear e9
      rcases ite_or hf with hf | hf
      · obtain rfl := Option.some.inj hf
        exact hF
      · obtain ⟨q4, e9, hf⟩ := Option.bind_eq_some_iff.mp hf
        have e9 := mf_X9_wayNow e9
        have hF := hF.eqr e9
        clear e9
        rcases ite_or hf with hf | hf
        · obtain rfl := Option.some.inj hf
          exact hF
        · obtain ⟨q5, e9, hf⟩ := Option.bind_eq_some_iff.mp hf
          have e9 := mf_X9_wayNow e9
          have hF := hF.eqr e9
          clear e9
          rcases ite_or hf with hf | hf
          · obtain rfl := Option.some.inj hf
            exact hF
          · obtain ⟨q6, e9, hf⟩ := Option.bind_eq_some_iff.mp hf
            have e9 := mf_X9_wayNow e9
            have hF := hF.eqr e9
            clear e9
            obtain ⟨q7, e9, hf⟩ := Option.bind_eq_some_iff.mp hf
            have hF := hF.trans ((mf_X9_houses e9).mono (by decide) (by decide))
            clear e9
            rcases ite_or hf with hf | hf
            · obtain rfl := Option.some.inj hf
              exact hF
            · obtain ⟨q8, e9, hf⟩ := Option.bind_eq_some_iff.mp hf
              have e9 := mf_X9_edge e9
              have hF := hF.eqr e9
              clear e9
              rcases ite_or hf with hf | hf
              · obtain rfl := Option.some.inj hf
                exact hF
              · obtain ⟨-, hf⟩ := ite_some hf
                obtain ⟨v9, -, hf⟩ := lt_e hf
                obtain ⟨q10, e9, hf⟩ := Option.bind_eq_some_iff.mp hf
                have e9 := mf_X9_wayNow e9
                have hF := hF.eqr e9
                clear e9
                obtain ⟨q11, e9, hf⟩ := Option.bind_eq_some_iff.mp hf
                have e9 := mf_X9_above e9
                have hF := hF.eqr e9
                clear e9
                rcases ite_or hf with hf | hf
                · obtain rfl := Option.some.inj hf
                  exact hF
                · obtain ⟨q12, e9, hf⟩ := Option.bind_eq_some_iff.mp hf
                  have e9 := mf_X9_wayNow e9
                  have hF := hF.eqr e9
                  clear e9
                  obtain ⟨-, hf⟩ := ite_some hf
                  obtain ⟨q13, e9, hf⟩ := Option.bind_eq_some_iff.mp hf
                  have e9 := mf_X9_top e9
                  have hF := hF.eqr e9
                  clear e9
                  obtain ⟨q14, e9, hf⟩ := Option.bind_eq_some_iff.mp hf
                  have e9 := mf_X9_lowest e9
                  have hF := hF.eqr e9
                  clear e9
                  obtain rfl := Option.some.inj hf
                  exact hF
set_option maxRecDepth 100000 in
theorem mf_X9_spell_48 {hs : Hp} {o : Int32 × Hp} {k32 : Nat → Int32 → Hp → Option (Int32 × Hp)} (hk32 : ∀ {x2 : Int32} {h : Hp}, Fx [113, 114, 115, 116, 117, 118, 119, 120, 121, 122, 123, 124, 125, 127] [14, 15, 24, 25, 28] hs h → k32 108 x2 h = some o → Fx [113, 114, 115, 116, 117, 118, 119, 120, 121, 122, 123, 124, 125, 127] [14, 15, 24, 25, 28] hs o.2) {x2 : Int32} {h : Hp} (hF : Fx [113, 114, 115, 116, 117, 118, 119, 120, 121, 122, 123, 124, 125, 127] [14, 15, 24, 25, 28] hs h) (hf : f_X9_spell_48 k32 108 x2 h = some o) : Fx [113, 114, 115, 116, 117, 118, 119, 120, 121, 122, 123, 124, 125, 127] [14, 15, 24, 25, 28] hs o.2 := by
  unfold f_X9_spell_48 at hf
  obtain ⟨-, hf⟩ := ite_some hf
  obtain ⟨q6, e9, hf⟩ := Option.bind_eq_some_iff.mp hf
  have hF := hF.trans ((mf_X9_writesNumber e9).mono (by decide) (by decide))
  clear e9
  obtain ⟨v7, -, hf⟩ := lt_e hf
  exact hk32 hF hf
set_option maxRecDepth 100000 in
theorem mf_X9_spell_32 {hs : Hp} {o : Int32 × Hp}  : ∀ (n : Nat) {x2 : Int32} {h : Hp}, Fx [113, 114, 115, 116, 117, 118, 119, 120, 121, 122, 123, 124, 125, 127] [14, 15, 24, 25, 28] hs h → lp (F := Nat → Int32 → Hp → Option (Int32 × Hp)) (fun _ _ _ => none) (f_X9_spell_32) n 108 x2 h = some o → Fx [113, 114, 115, 116, 117, 118, 119, 120, 121, 122, 123, 124, 125, 127] [14, 15, 24, 25, 28] hs o.2 := by
  intro n
  induction n with
  | zero =>
    intro x2 h hF hf
    have hf : (none : Option (Int32 × Hp)) = some o := hf
    cases hf
  | succ n hk32 =>
    intro x2 h hF hf
    have hf : f_X9_spell_32  (lp (F := Nat → Int32 → Hp → Option (Int32 × Hp)) (fun _ _ _ => none) (f_X9_spell_32) n) 108 x2 h = some o := hf
    unfold f_X9_spell_32 at hf
    rcases ite_or hf with hf | hf
    · obtain rfl := Option.some.inj hf
      exact hF
    · rcases ite_or hf with hf | hf
      · exact mf_X9_spell_48 hk32 hF hf
      · obtain ⟨q5, e9, hf⟩ := Option.bind_eq_some_iff.mp hf
        have hF := hF.trans ((mf_X9_writes e9).mono (by decide) (by decide))
        clear e9
        exact mf_X9_spell_48 hk32 hF hf
set_option maxRecDepth 100000 in
theorem mf_X9_spell {x1 : Int32} {h : Hp} {o : Int32 × Hp} (hf : f_X9_spell 108 x1 h = some o) : Fx [113, 114, 115, 116, 117, 118, 119, 120, 121, 122, 123, 124, 125, 127] [14, 15, 24, 25, 28] h o.2 := by
  have hF : Fx [113, 114, 115, 116, 117, 118, 119, 120, 121, 122, 123, 124, 125, 127] [14, 15, 24, 25, 28] h h := Fx.refl
  unfold f_X9_spell at hf
  obtain ⟨q1, e9, hf⟩ := Option.bind_eq_some_iff.mp hf
  have e9 := mf_X9_isHouse e9
  have hF := hF.eqr e9
  clear e9
  rcases ite_or hf with hf | hf
  · obtain rfl := Option.some.inj hf
    exact hF
  · obtain ⟨q2, e9, hf⟩ := Option.bind_eq_some_iff.mp hf
    have e9 := mf_X9_wayNow e9
    have hF := hF.eqr e9
    clear e9
    obtain ⟨q3, e9, hf⟩ := Option.bind_eq_some_iff.mp hf
    have hF := hF.trans ((mf_X9_houses e9).mono (by decide) (by decide))
    clear e9
    rcases ite_or hf with hf | hf
    · obtain rfl := Option.some.inj hf
      exact hF
    · obtain ⟨m4, em, hf⟩ := lt_e hf
      have hF := Fx_f hF em (by decide)
      clear em
      exact mf_X9_spell_32  1000 hF hf
set_option maxRecDepth 100000 in
theorem mf_X9_supposed_49 {hs : Hp} {o : Int32 × Hp}  {x5 : Int32} {x6 : Int32} {y0 : Int32} {h : Hp} (hF : Fx [109, 113, 114, 115, 116, 117, 118, 119, 120, 121, 122, 123, 124, 125] [14, 15, 24, 25] hs h) (hf : f_X9_supposed_49  108 x5 x6 y0 h = some o) : Fx [109, 113, 114, 115, 116, 117, 118, 119, 120, 121, 122, 123, 124, 125] [14, 15, 24, 25] hs o.2 := by
  unfold f_X9_supposed_49 at hf
  obtain ⟨-, hf⟩ := ite_some hf
  obtain ⟨m6, em, hf⟩ := lt_e hf
  have hF := Fx_sI hF em (by decide)
  clear em
  obtain rfl := Option.some.inj hf
  exact hF
set_option maxRecDepth 100000 in
theorem mf_X9_supposed {x1 : Int32} {x2 : Int32} {x3 : Int32} {x4 : Int32} {h : Hp} {o : Int32 × Hp} (hf : f_X9_supposed 108 x1 x2 x3 x4 h = some o) : Fx [109, 113, 114, 115, 116, 117, 118, 119, 120, 121, 122, 123, 124, 125] [14, 15, 24, 25] h o.2 := by
  have hF : Fx [109, 113, 114, 115, 116, 117, 118, 119, 120, 121, 122, 123, 124, 125] [14, 15, 24, 25] h h := Fx.refl
  unfold f_X9_supposed at hf
  obtain ⟨v1, -, hf⟩ := lt_e hf
  obtain ⟨-, hf⟩ := ite_some hf
  obtain ⟨v2, -, hf⟩ := lt_e hf
  obtain ⟨-, hf⟩ := ite_some hf
  obtain ⟨m3, em, hf⟩ := lt_e hf
  have hF := Fx_sI hF em (by decide)
  clear em
  obtain ⟨q4, e9, hf⟩ := Option.bind_eq_some_iff.mp hf
  have e9 := mf_X9_wayNow e9
  have hF := hF.eqr e9
  clear e9
  obtain ⟨q5, e9, hf⟩ := Option.bind_eq_some_iff.mp hf
  have hF := hF.trans ((mf_X9_houses e9).mono (by decide) (by decide))
  clear e9
  rcases ite_or hf with hf | hf
  · exact mf_X9_supposed_49  hF hf
  · obtain ⟨-, hf⟩ := ite_some hf
    exact mf_X9_supposed_49  hF hf
set_option maxRecDepth 100000 in
theorem mf_X9_given {x1 : Int32} {x2 : Int32} {h : Hp} {o : Int32 × Hp} (hf : f_X9_given 108 x1 x2 h = some o) : Fx [113, 114, 115, 116, 117, 118, 119, 120, 121, 122, 123, 124, 125] [14, 15, 24, 25] h o.2 := by
  have hF : Fx [113, 114, 115, 116, 117, 118, 119, 120, 121, 122, 123, 124, 125] [14, 15, 24, 25] h h := Fx.refl
  unfold f_X9_given at hf
  obtain ⟨q1, e9, hf⟩ := Option.bind_eq_some_iff.mp hf
  have hF := hF.trans ((mf_X9_orderRefusal e9).mono (by decide) (by decide))
  clear e9
  rcases ite_or hf with hf | hf
  · obtain ⟨q2, e9, hf⟩ := Option.bind_eq_some_iff.mp hf
    have e9 := mf_X9_within e9
    have hF := hF.eqr e9
    clear e9
    rcases ite_or hf with hf | hf
    · obtain rfl := Option.some.inj hf
      exact hF
    · obtain ⟨-, hf⟩ := ite_some hf
      obtain rfl := Option.some.inj hf
      exact hF
  · obtain rfl := Option.some.inj hf
    exact hF
set_option maxRecDepth 100000 in
theorem mf_X9_loser {x1 : Int32} {h : Hp} {o : Int32 × Hp} (hf : f_X9_loser 108 x1 h = some o) : Fx [113, 114, 115, 116, 117, 118, 119, 120, 121, 122, 123, 124, 125, 126] [14, 15, 24, 25] h o.2 := by
  have hF : Fx [113, 114, 115, 116, 117, 118, 119, 120, 121, 122, 123, 124, 125, 126] [14, 15, 24, 25] h h := Fx.refl
  unfold f_X9_loser at hf
  obtain ⟨q1, e9, hf⟩ := Option.bind_eq_some_iff.mp hf
  have e9 := mf_X9_within e9
  have hF := hF.eqr e9
  clear e9
  rcases ite_or hf with hf | hf
  · obtain rfl := Option.some.inj hf
    exact hF
  · obtain ⟨q2, e9, hf⟩ := Option.bind_eq_some_iff.mp hf
    have hF := hF.trans ((mf_X9_losesAt e9).mono (by decide) (by decide))
    clear e9
    obtain rfl := Option.some.inj hf
    exact hF
set_option maxRecDepth 100000 in
theorem mf_X9_loses_26 {hs : Hp} {o : Int32 × Hp}  : ∀ (n : Nat) {x2 : Int32} {x3 : Int32} {h : Hp}, Fx [113, 114, 115, 116, 117, 118, 119, 120, 121, 122, 123, 124, 125, 126] [14, 15, 24, 25] hs h → lp (F := Nat → Int32 → Int32 → Hp → Option (Int32 × Hp)) (fun _ _ _ _ => none) (f_X9_loses_26) n 108 x2 x3 h = some o → Fx [113, 114, 115, 116, 117, 118, 119, 120, 121, 122, 123, 124, 125, 126] [14, 15, 24, 25] hs o.2 := by
  intro n
  induction n with
  | zero =>
    intro x2 x3 h hF hf
    have hf : (none : Option (Int32 × Hp)) = some o := hf
    cases hf
  | succ n hk26 =>
    intro x2 x3 h hF hf
    have hf : f_X9_loses_26  (lp (F := Nat → Int32 → Int32 → Hp → Option (Int32 × Hp)) (fun _ _ _ _ => none) (f_X9_loses_26) n) 108 x2 x3 h = some o := hf
    unfold f_X9_loses_26 at hf
    rcases ite_or hf with hf | hf
    · obtain rfl := Option.some.inj hf
      exact hF
    · obtain ⟨q4, e9, hf⟩ := Option.bind_eq_some_iff.mp hf
      have hF := hF.trans ((mf_X9_losesAt e9).mono (by decide) (by decide))
      clear e9
      rcases ite_or hf with hf | hf
      · obtain ⟨v5, -, hf⟩ := lt_e hf
        exact hk26 hF hf
      · obtain rfl := Option.some.inj hf
        exact hF
set_option maxRecDepth 100000 in
theorem mf_X9_loses {x1 : Int32} {x2 : Int32} {h : Hp} {o : Int32 × Hp} (hf : f_X9_loses 108 x1 x2 h = some o) : Fx [113, 114, 115, 116, 117, 118, 119, 120, 121, 122, 123, 124, 125, 126] [14, 15, 24, 25] h o.2 := by
  have hF : Fx [113, 114, 115, 116, 117, 118, 119, 120, 121, 122, 123, 124, 125, 126] [14, 15, 24, 25] h h := Fx.refl
  unfold f_X9_loses at hf
  obtain ⟨q1, e9, hf⟩ := Option.bind_eq_some_iff.mp hf
  have e9 := mf_X9_isHouse e9
  have hF := hF.eqr e9
  clear e9
  rcases ite_or hf with hf | hf
  · obtain rfl := Option.some.inj hf
    exact hF
  · obtain ⟨q2, e9, hf⟩ := Option.bind_eq_some_iff.mp hf
    have e9 := mf_X9_isHouse e9
    have hF := hF.eqr e9
    clear e9
    rcases ite_or hf with hf | hf
    · obtain rfl := Option.some.inj hf
      exact hF
    · rcases ite_or hf with hf | hf
      · obtain ⟨v3, -, hf⟩ := lt_e hf
        exact mf_X9_loses_26  1000 hF hf
      · obtain rfl := Option.some.inj hf
        exact hF
set_option maxRecDepth 100000 in
theorem mf_X9_needs_58 {hs : Hp} {o : Int32 × Hp}  : ∀ (n : Nat) {x1 : Int32} {x2 : Int32} {x3 : Int32} {x4 : Int32} {x5 : Int32} {x6 : Int32} {h : Hp}, Fx [109, 113, 114, 115, 116, 117, 118, 119, 120, 121, 122, 123, 124, 125] [14, 15, 24, 25] hs h → lp (F := Nat → Int32 → Int32 → Int32 → Int32 → Int32 → Int32 → Hp → Option (Int32 × Hp)) (fun _ _ _ _ _ _ _ _ => none) (f_X9_needs_58) n 108 x1 x2 x3 x4 x5 x6 h = some o → Fx [109, 113, 114, 115, 116, 117, 118, 119, 120, 121, 122, 123, 124, 125] [14, 15, 24, 25] hs o.2 := by
  intro n
  induction n with
  | zero =>
    intro x1 x2 x3 x4 x5 x6 h hF hf
    have hf : (none : Option (Int32 × Hp)) = some o := hf
    cases hf
  | succ n hk58 =>
    intro x1 x2 x3 x4 x5 x6 h hF hf
    have hf : f_X9_needs_58  (lp (F := Nat → Int32 → Int32 → Int32 → Int32 → Int32 → Int32 → Hp → Option (Int32 × Hp)) (fun _ _ _ _ _ _ _ _ => none) (f_X9_needs_58) n) 108 x1 x2 x3 x4 x5 x6 h = some o := hf
    unfold f_X9_needs_58 at hf
    rcases ite_or hf with hf | hf
    · obtain rfl := Option.some.inj hf
      exact hF
    · rcases ite_or hf with hf | hf
      · obtain rfl := Option.some.inj hf
        exact hF
      · obtain ⟨q6, e9, hf⟩ := Option.bind_eq_some_iff.mp hf
        have hF := hF.trans ((mf_X9_supposed e9).mono (by decide) (by decide))
        clear e9
        rcases ite_or hf with hf | hf
        · obtain ⟨v7, -, hf⟩ := lt_e hf
          exact hk58 hF hf
        · obtain rfl := Option.some.inj hf
          exact hF
set_option maxRecDepth 100000 in
theorem mf_X9_needs {x1 : Int32} {x2 : Int32} {x3 : Int32} {h : Hp} {o : Int32 × Hp} (hf : f_X9_needs 108 x1 x2 x3 h = some o) : Fx [109, 113, 114, 115, 116, 117, 118, 119, 120, 121, 122, 123, 124, 125] [14, 15, 24, 25] h o.2 := by
  have hF : Fx [109, 113, 114, 115, 116, 117, 118, 119, 120, 121, 122, 123, 124, 125] [14, 15, 24, 25] h h := Fx.refl
  unfold f_X9_needs at hf
  obtain ⟨q1, e9, hf⟩ := Option.bind_eq_some_iff.mp hf
  have e9 := mf_X9_isWard e9
  have hF := hF.eqr e9
  clear e9
  rcases ite_or hf with hf | hf
  · obtain rfl := Option.some.inj hf
    exact hF
  · obtain ⟨q2, e9, hf⟩ := Option.bind_eq_some_iff.mp hf
    have e9 := mf_X9_isParty e9
    have hF := hF.eqr e9
    clear e9
    rcases ite_or hf with hf | hf
    · obtain rfl := Option.some.inj hf
      exact hF
    · obtain ⟨q3, e9, hf⟩ := Option.bind_eq_some_iff.mp hf
      have e9 := mf_X9_isHouse e9
      have hF := hF.eqr e9
      clear e9
      rcases ite_or hf with hf | hf
      · obtain rfl := Option.some.inj hf
        exact hF
      · obtain ⟨q4, e9, hf⟩ := Option.bind_eq_some_iff.mp hf
        have e9 := mf_X9_votesOf e9
        have hF := hF.eqr e9
        clear e9
        obtain ⟨q5, e9, hf⟩ := Option.bind_eq_some_iff.mp hf
        have hF := hF.trans ((mf_X9_supposed e9).mono (by decide) (by decide))
        clear e9
        rcases ite_or hf with hf | hf
        · obtain rfl := Option.some.inj hf
          exact hF
        · exact mf_X9_needs_58  1000 hF hf
set_option maxRecDepth 100000 in
theorem mf_X9_tie {x1 : Int32} {h : Hp} {o : Int32 × Hp} (hf : f_X9_tie 108 x1 h = some o) : Fx [113, 114, 115, 116, 117, 118, 119, 120, 121, 122, 123, 124, 125] [14, 15, 24, 25] h o.2 := by
  have hF : Fx [113, 114, 115, 116, 117, 118, 119, 120, 121, 122, 123, 124, 125] [14, 15, 24, 25] h h := Fx.refl
  unfold f_X9_tie at hf
  obtain ⟨q1, e9, hf⟩ := Option.bind_eq_some_iff.mp hf
  have hF := hF.trans ((mf_X9_orderRefusal e9).mono (by decide) (by decide))
  clear e9
  rcases ite_or hf with hf | hf
  · obtain rfl := Option.some.inj hf
    exact hF
  · obtain rfl := Option.some.inj hf
    exact hF
set_option maxRecDepth 100000 in
theorem mf_X9_would {x1 : Int32} {x2 : Int32} {x3 : Int32} {x4 : Int32} {h : Hp} {o : Int32 × Hp} (hf : f_X9_would 108 x1 x2 x3 x4 h = some o) : Fx [109, 113, 114, 115, 116, 117, 118, 119, 120, 121, 122, 123, 124, 125] [14, 15, 24, 25] h o.2 := by
  have hF : Fx [109, 113, 114, 115, 116, 117, 118, 119, 120, 121, 122, 123, 124, 125] [14, 15, 24, 25] h h := Fx.refl
  unfold f_X9_would at hf
  obtain ⟨q1, e9, hf⟩ := Option.bind_eq_some_iff.mp hf
  have e9 := mf_X9_isWard e9
  have hF := hF.eqr e9
  clear e9
  rcases ite_or hf with hf | hf
  · obtain rfl := Option.some.inj hf
    exact hF
  · obtain ⟨q2, e9, hf⟩ := Option.bind_eq_some_iff.mp hf
    have e9 := mf_X9_isParty e9
    have hF := hF.eqr e9
    clear e9
    rcases ite_or hf with hf | hf
    · obtain rfl := Option.some.inj hf
      exact hF
    · obtain ⟨q3, e9, hf⟩ := Option.bind_eq_some_iff.mp hf
      have e9 := mf_X9_within e9
      have hF := hF.eqr e9
      clear e9
      rcases ite_or hf with hf | hf
      · obtain rfl := Option.some.inj hf
        exact hF
      · obtain ⟨q4, e9, hf⟩ := Option.bind_eq_some_iff.mp hf
        have e9 := mf_X9_isHouse e9
        have hF := hF.eqr e9
        clear e9
        rcases ite_or hf with hf | hf
        · obtain rfl := Option.some.inj hf
          exact hF
        · obtain ⟨q5, e9, hf⟩ := Option.bind_eq_some_iff.mp hf
          have hF := hF.trans ((mf_X9_supposed e9).mono (by decide) (by decide))
          clear e9
          obtain rfl := Option.some.inj hf
          exact hF
set_option maxRecDepth 100000 in
theorem mf_X9_findsWards_64 {hs : Hp} {o : Int32 × Hp} {fr : Nat → Nat → Int32 → Hp → Option (Int32 × Hp)} (hfr : ∀ {a1 : Nat} {x2 : Int32} {h : Hp} {o : Int32 × Hp}, fr 108 a1 x2 h = some o → Fx [132, 133] [38] h o.2) {k17 : Nat → Nat → Int32 → Int32 → Hp → Option (Int32 × Hp)} (hk17 : ∀ {a1 : Nat} {x2 : Int32} {x3 : Int32} {h : Hp}, Fx [132, 133] [38] hs h → k17 108 a1 x2 x3 h = some o → Fx [132, 133] [38] hs o.2) {a1 : Nat} {x2 : Int32} {x3 : Int32} {h : Hp} (hF : Fx [132, 133] [38] hs h) (hf : f_X9_findsWards_64 fr k17 108 a1 x2 x3 h = some o) : Fx [132, 133] [38] hs o.2 := by
  unfold f_X9_findsWards_64 at hf
  obtain ⟨v5, -, hf⟩ := lt_e hf
  exact hk17 hF hf
set_option maxRecDepth 100000 in
theorem mf_X9_findsWards_17 {hs : Hp} {o : Int32 × Hp} {fr : Nat → Nat → Int32 → Hp → Option (Int32 × Hp)} (hfr : ∀ {a1 : Nat} {x2 : Int32} {h : Hp} {o : Int32 × Hp}, fr 108 a1 x2 h = some o → Fx [132, 133] [38] h o.2)  : ∀ (n : Nat) {a1 : Nat} {x2 : Int32} {x3 : Int32} {h : Hp}, Fx [132, 133] [38] hs h → lp (F := Nat → Nat → Int32 → Int32 → Hp → Option (Int32 × Hp)) (fun _ _ _ _ _ => none) (f_X9_findsWards_17 fr) n 108 a1 x2 x3 h = some o → Fx [132, 133] [38] hs o.2 := by
  intro n
  induction n with
  | zero =>
    intro a1 x2 x3 h hF hf
    have hf : (none : Option (Int32 × Hp)) = some o := hf
    cases hf
  | succ n hk17 =>
    intro a1 x2 x3 h hF hf
    have hf : f_X9_findsWards_17 fr  (lp (F := Nat → Nat → Int32 → Int32 → Hp → Option (Int32 × Hp)) (fun _ _ _ _ _ => none) (f_X9_findsWards_17 fr) n) 108 a1 x2 x3 h = some o := hf
    unfold f_X9_findsWards_17 at hf
    rcases ite_or hf with hf | hf
    · obtain ⟨-, hf⟩ := ite_some hf
      obtain rfl := Option.some.inj hf
      exact hF
    · obtain ⟨-, hf⟩ := ite_some hf
      obtain ⟨q2, e9, hf⟩ := Option.bind_eq_some_iff.mp hf
      have e9 := mf_X9_isRingWard e9
      have hF := hF.eqr e9
      clear e9
      rcases ite_or hf with hf | hf
      · obtain ⟨-, hf⟩ := ite_some hf
        obtain ⟨-, hf⟩ := ite_some hf
        obtain ⟨m3, em, hf⟩ := lt_e hf
        have hF := Fx_sI hF em (by decide)
        clear em
        obtain ⟨q4, e9, hf⟩ := Option.bind_eq_some_iff.mp hf
        have hF := hF.trans (hfr e9)
        clear e9
        rcases ite_or hf with hf | hf
        · exact mf_X9_findsWards_64 hfr hk17 hF hf
        · obtain ⟨-, hf⟩ := ite_some hf
          obtain rfl := Option.some.inj hf
          exact hF
      · exact mf_X9_findsWards_64 hfr hk17 hF hf
set_option maxRecDepth 100000 in
theorem mf_X9_findsWards : ∀ {n : Nat} {a1 : Nat} {x2 : Int32} {h : Hp} {o : Int32 × Hp}, f_X9_findsWards n 108 a1 x2 h = some o → Fx [132, 133] [38] h o.2 := by
  intro n
  induction n with
  | zero =>
    intro a1 x2 h o hf
    have hf : (none : Option (Int32 × Hp)) = some o := hf
    cases hf
  | succ n hfr =>
    intro a1 x2 h o hf
    have hf : f_X9_findsWards_0 (f_X9_findsWards n) 108 a1 x2 h = some o := hf
    have hF : Fx [132, 133] [38] h h := Fx.refl
    unfold f_X9_findsWards_0 at hf
    rcases ite_or hf with hf | hf
    · obtain ⟨q1, e9, hf⟩ := Option.bind_eq_some_iff.mp hf
      have hF := hF.trans ((mf_X9_findsParties e9).mono (by decide) (by decide))
      clear e9
      obtain ⟨-, hf⟩ := ite_some hf
      obtain rfl := Option.some.inj hf
      exact hF
    · exact mf_X9_findsWards_17 hfr  1000 hF hf
set_option maxRecDepth 100000 in
theorem mf_X9_finds_26 {hs : Hp} {o : Int32 × Hp}  : ∀ (n : Nat) {a1 : Nat} {x2 : Int32} {h : Hp}, Fx [132, 133] [35, 38] hs h → lp (F := Nat → Nat → Int32 → Hp → Option (Int32 × Hp)) (fun _ _ _ _ => none) (f_X9_finds_26) n 108 a1 x2 h = some o → Fx [132, 133] [35, 38] hs o.2 := by
  intro n
  induction n with
  | zero =>
    intro a1 x2 h hF hf
    have hf : (none : Option (Int32 × Hp)) = some o := hf
    cases hf
  | succ n hk26 =>
    intro a1 x2 h hF hf
    have hf : f_X9_finds_26  (lp (F := Nat → Nat → Int32 → Hp → Option (Int32 × Hp)) (fun _ _ _ _ => none) (f_X9_finds_26) n) 108 a1 x2 h = some o := hf
    unfold f_X9_finds_26 at hf
    rcases ite_or hf with hf | hf
    · obtain ⟨-, hf⟩ := ite_some hf
      obtain rfl := Option.some.inj hf
      exact hF
    · obtain ⟨q4, e9, hf⟩ := Option.bind_eq_some_iff.mp hf
      have hF := hF.trans ((mf_X9_findsWards e9).mono (by decide) (by decide))
      clear e9
      rcases ite_or hf with hf | hf
      · obtain ⟨m5, em, hf⟩ := lt_e hf
        have hF := Fx_f hF em (by decide)
        clear em
        exact hk26 hF hf
      · obtain ⟨-, hf⟩ := ite_some hf
        obtain rfl := Option.some.inj hf
        exact hF
set_option maxRecDepth 100000 in
theorem mf_X9_finds {a1 : Nat} {h : Hp} {o : Int32 × Hp} (hf : f_X9_finds 108 a1 h = some o) : Fx [132, 133] [35, 38] h o.2 := by
  have hF : Fx [132, 133] [35, 38] h h := Fx.refl
  unfold f_X9_finds at hf
  obtain ⟨m1, em, hf⟩ := lt_e hf
  have hF := Fx_f hF em (by decide)
  clear em
  obtain ⟨v2, -, hf⟩ := lt_e hf
  obtain ⟨m3, em, hf⟩ := lt_e hf
  have hF := Fx_f hF em (by decide)
  clear em
  exact mf_X9_finds_26  1000 hF hf
set_option maxRecDepth 100000 in
theorem mf_X9_judge_51 {hs : Hp} {o : Int32 × Hp}  : ∀ (n : Nat) {x1 : Int32} {x2 : Int32} {x3 : Int32} {x4 : Int32} {h : Hp}, Fx [113, 114, 115, 116, 117, 118, 119, 120, 121, 122, 123, 124, 125, 128, 129, 130, 132, 133, 136] [14, 15, 24, 25, 31, 32, 35, 38] hs h → lp (F := Nat → Int32 → Int32 → Int32 → Int32 → Hp → Option (Int32 × Hp)) (fun _ _ _ _ _ _ => none) (f_X9_judge_51) n 108 x1 x2 x3 x4 h = some o → Fx [113, 114, 115, 116, 117, 118, 119, 120, 121, 122, 123, 124, 125, 128, 129, 130, 132, 133, 136] [14, 15, 24, 25, 31, 32, 35, 38] hs o.2 := by
  intro n
  induction n with
  | zero =>
    intro x1 x2 x3 x4 h hF hf
    have hf : (none : Option (Int32 × Hp)) = some o := hf
    cases hf
  | succ n hk51 =>
    intro x1 x2 x3 x4 h hF hf
    have hf : f_X9_judge_51  (lp (F := Nat → Int32 → Int32 → Int32 → Int32 → Hp → Option (Int32 × Hp)) (fun _ _ _ _ _ _ => none) (f_X9_judge_51) n) 108 x1 x2 x3 x4 h = some o := hf
    unfold f_X9_judge_51 at hf
    rcases ite_or hf with hf | hf
    · obtain ⟨q4, e9, hf⟩ := Option.bind_eq_some_iff.mp hf
      have e9 := mf_X9_isPlanned e9
      have hF := hF.eqr e9
      clear e9
      rcases ite_or hf with hf | hf
      · obtain rfl := Option.some.inj hf
        exact hF
      · obtain ⟨q5, e9, hf⟩ := Option.bind_eq_some_iff.mp hf
        have hF := hF.trans ((mf_X9_finds e9).mono (by decide) (by decide))
        clear e9
        rcases ite_or hf with hf | hf
        · rcases ite_or hf with hf | hf
          · obtain rfl := Option.some.inj hf
            exact hF
          · rcases ite_or hf with hf | hf
            · obtain rfl := Option.some.inj hf
              exact hF
            · obtain ⟨-, hf⟩ := ite_none hf
              obtain ⟨v6, -, hf⟩ := lt_e hf
              rcases ite_or hf with hf | hf
              · rcases ite_or hf with hf | hf
                · obtain ⟨-, hf⟩ := ite_some hf
                  obtain rfl := Option.some.inj hf
                  exact hF
                · obtain ⟨-, hf⟩ := ite_some hf
                  obtain rfl := Option.some.inj hf
                  exact hF
              · obtain rfl := Option.some.inj hf
                exact hF
        · obtain rfl := Option.some.inj hf
          exact hF
    · obtain ⟨-, hf⟩ := ite_some hf
      obtain ⟨-, hf⟩ := ite_some hf
      obtain ⟨m7, em, hf⟩ := lt_e hf
      have hF := Fx_sI hF em (by decide)
      clear em
      obtain ⟨v8, -, hf⟩ := lt_e hf
      exact hk51 hF hf
set_option maxRecDepth 100000 in
theorem mf_X9_judge {x1 : Int32} {x2 : Int32} {x3 : Int32} {h : Hp} {o : Int32 × Hp} (hf : f_X9_judge 108 x1 x2 x3 h = some o) : Fx [113, 114, 115, 116, 117, 118, 119, 120, 121, 122, 123, 124, 125, 128, 129, 130, 132, 133, 136] [14, 15, 24, 25, 31, 32, 35, 38] h o.2 := by
  have hF : Fx [113, 114, 115, 116, 117, 118, 119, 120, 121, 122, 123, 124, 125, 128, 129, 130, 132, 133, 136] [14, 15, 24, 25, 31, 32, 35, 38] h h := Fx.refl
  unfold f_X9_judge at hf
  obtain ⟨q1, e9, hf⟩ := Option.bind_eq_some_iff.mp hf
  have e9 := mf_X9_isRow e9
  have hF := hF.eqr e9
  clear e9
  rcases ite_or hf with hf | hf
  · obtain rfl := Option.some.inj hf
    exact hF
  · obtain ⟨q2, e9, hf⟩ := Option.bind_eq_some_iff.mp hf
    have e9 := mf_X9_within e9
    have hF := hF.eqr e9
    clear e9
    rcases ite_or hf with hf | hf
    · obtain rfl := Option.some.inj hf
      exact hF
    · rcases ite_or hf with hf | hf
      · obtain rfl := Option.some.inj hf
        exact hF
      · obtain ⟨-, hf⟩ := ite_some hf
        rcases ite_or hf with hf | hf
        · obtain rfl := Option.some.inj hf
          exact hF
        · obtain ⟨q3, e9, hf⟩ := Option.bind_eq_some_iff.mp hf
          have hF := hF.trans ((mf_X9_plans e9).mono (by decide) (by decide))
          clear e9
          rcases ite_or hf with hf | hf
          · obtain rfl := Option.some.inj hf
            exact hF
          · exact mf_X9_judge_51  1000 hF hf
set_option maxRecDepth 100000 in
theorem mf_X9_solvesAnew_46 {hs : Hp} {o : Int32 × Hp} {k16 : Nat → Int32 → Hp → Option (Int32 × Hp)} (hk16 : ∀ {x1 : Int32} {h : Hp}, Fx [113, 114, 115, 116, 117, 118, 119, 120, 121, 122, 123, 124, 125, 126, 128, 129, 130, 131, 132, 133] [14, 15, 24, 25, 31, 32, 35, 38] hs h → k16 108 x1 h = some o → Fx [113, 114, 115, 116, 117, 118, 119, 120, 121, 122, 123, 124, 125, 126, 128, 129, 130, 131, 132, 133] [14, 15, 24, 25, 31, 32, 35, 38] hs o.2) : ∀ (n : Nat) {x1 : Int32} {x2 : Int32} {h : Hp}, Fx [113, 114, 115, 116, 117, 118, 119, 120, 121, 122, 123, 124, 125, 126, 128, 129, 130, 131, 132, 133] [14, 15, 24, 25, 31, 32, 35, 38] hs h → lp (F := Nat → Int32 → Int32 → Hp → Option (Int32 × Hp)) (fun _ _ _ _ => none) (f_X9_solvesAnew_46 k16) n 108 x1 x2 h = some o → Fx [113, 114, 115, 116, 117, 118, 119, 120, 121, 122, 123, 124, 125, 126, 128, 129, 130, 131, 132, 133] [14, 15, 24, 25, 31, 32, 35, 38] hs o.2 := by
  intro n
  induction n with
  | zero =>
    intro x1 x2 h hF hf
    have hf : (none : Option (Int32 × Hp)) = some o := hf
    cases hf
  | succ n hk46 =>
    intro x1 x2 h hF hf
    have hf : f_X9_solvesAnew_46 k16 (lp (F := Nat → Int32 → Int32 → Hp → Option (Int32 × Hp)) (fun _ _ _ _ => none) (f_X9_solvesAnew_46 k16) n) 108 x1 x2 h = some o := hf
    unfold f_X9_solvesAnew_46 at hf
    rcases ite_or hf with hf | hf
    · obtain ⟨v4, -, hf⟩ := lt_e hf
      exact hk16 hF hf
    · obtain ⟨q5, e9, hf⟩ := Option.bind_eq_some_iff.mp hf
      have e9 := mf_X9_givesUp e9
      have hF := hF.eqr e9
      clear e9
      obtain ⟨-, hf⟩ := ite_some hf
      obtain ⟨-, hf⟩ := ite_some hf
      obtain ⟨m6, em, hf⟩ := lt_e hf
      have hF := Fx_sI hF em (by decide)
      clear em
      obtain ⟨q7, e9, hf⟩ := Option.bind_eq_some_iff.mp hf
      have e9 := mf_X9_gains e9
      have hF := hF.eqr e9
      clear e9
      obtain ⟨-, hf⟩ := ite_some hf
      obtain ⟨-, hf⟩ := ite_some hf
      obtain ⟨m8, em, hf⟩ := lt_e hf
      have hF := Fx_sI hF em (by decide)
      clear em
      obtain ⟨v9, -, hf⟩ := lt_e hf
      exact hk46 hF hf
set_option maxRecDepth 100000 in
theorem mf_X9_solvesAnew_16 {hs : Hp} {o : Int32 × Hp}  : ∀ (n : Nat) {x1 : Int32} {h : Hp}, Fx [113, 114, 115, 116, 117, 118, 119, 120, 121, 122, 123, 124, 125, 126, 128, 129, 130, 131, 132, 133] [14, 15, 24, 25, 31, 32, 35, 38] hs h → lp (F := Nat → Int32 → Hp → Option (Int32 × Hp)) (fun _ _ _ => none) (f_X9_solvesAnew_16) n 108 x1 h = some o → Fx [113, 114, 115, 116, 117, 118, 119, 120, 121, 122, 123, 124, 125, 126, 128, 129, 130, 131, 132, 133] [14, 15, 24, 25, 31, 32, 35, 38] hs o.2 := by
  intro n
  induction n with
  | zero =>
    intro x1 h hF hf
    have hf : (none : Option (Int32 × Hp)) = some o := hf
    cases hf
  | succ n hk16 =>
    intro x1 h hF hf
    have hf : f_X9_solvesAnew_16  (lp (F := Nat → Int32 → Hp → Option (Int32 × Hp)) (fun _ _ _ => none) (f_X9_solvesAnew_16) n) 108 x1 h = some o := hf
    unfold f_X9_solvesAnew_16 at hf
    rcases ite_or hf with hf | hf
    · obtain rfl := Option.some.inj hf
      exact hF
    · obtain ⟨q3, e9, hf⟩ := Option.bind_eq_some_iff.mp hf
      have hF := hF.trans ((mf_X9_finds e9).mono (by decide) (by decide))
      clear e9
      rcases ite_or hf with hf | hf
      · obtain rfl := Option.some.inj hf
        exact hF
      · rcases ite_or hf with hf | hf
        · exact mf_X9_solvesAnew_46 hk16 1000 hF hf
        · obtain rfl := Option.some.inj hf
          exact hF
set_option maxRecDepth 100000 in
theorem mf_X9_solvesAnew  {h : Hp} {o : Int32 × Hp} (hf : f_X9_solvesAnew 108 h = some o) : Fx [113, 114, 115, 116, 117, 118, 119, 120, 121, 122, 123, 124, 125, 126, 128, 129, 130, 131, 132, 133] [14, 15, 24, 25, 31, 32, 35, 38] h o.2 := by
  have hF : Fx [113, 114, 115, 116, 117, 118, 119, 120, 121, 122, 123, 124, 125, 126, 128, 129, 130, 131, 132, 133] [14, 15, 24, 25, 31, 32, 35, 38] h h := Fx.refl
  unfold f_X9_solvesAnew at hf
  obtain ⟨q1, e9, hf⟩ := Option.bind_eq_some_iff.mp hf
  have hF := hF.trans ((mf_X9_plans e9).mono (by decide) (by decide))
  clear e9
  rcases ite_or hf with hf | hf
  · obtain rfl := Option.some.inj hf
    exact hF
  · obtain ⟨q2, e9, hf⟩ := Option.bind_eq_some_iff.mp hf
    have hF := hF.trans ((mf_X9_begins e9).mono (by decide) (by decide))
    clear e9
    exact mf_X9_solvesAnew_16  1000 hF hf
set_option maxRecDepth 100000 in
theorem mf_X9_solves_20 {hs : Hp} {o : Int32 × Hp}   {h : Hp} (hF : Fx [113, 114, 115, 116, 117, 118, 119, 120, 121, 122, 123, 124, 125, 126, 128, 129, 130, 131, 132, 133] [3, 4, 14, 15, 24, 25, 31, 32, 35, 38] hs h) (hf : f_X9_solves_20  108 h = some o) : Fx [113, 114, 115, 116, 117, 118, 119, 120, 121, 122, 123, 124, 125, 126, 128, 129, 130, 131, 132, 133] [3, 4, 14, 15, 24, 25, 31, 32, 35, 38] hs o.2 := by
  unfold f_X9_solves_20 at hf
  obtain rfl := Option.some.inj hf
  exact hF
set_option maxRecDepth 100000 in
theorem mf_X9_solves  {h : Hp} {o : Int32 × Hp} (hf : f_X9_solves 108 h = some o) : Fx [113, 114, 115, 116, 117, 118, 119, 120, 121, 122, 123, 124, 125, 126, 128, 129, 130, 131, 132, 133] [3, 4, 14, 15, 24, 25, 31, 32, 35, 38] h o.2 := by
  have hF : Fx [113, 114, 115, 116, 117, 118, 119, 120, 121, 122, 123, 124, 125, 126, 128, 129, 130, 131, 132, 133] [3, 4, 14, 15, 24, 25, 31, 32, 35, 38] h h := Fx.refl
  unfold f_X9_solves at hf
  rcases ite_or hf with hf | hf
  · obtain ⟨q1, e9, hf⟩ := Option.bind_eq_some_iff.mp hf
    have hF := hF.trans ((mf_X9_solvesAnew e9).mono (by decide) (by decide))
    clear e9
    obtain ⟨m2, em, hf⟩ := lt_e hf
    have hF := Fx_f hF em (by decide)
    clear em
    obtain ⟨m3, em, hf⟩ := lt_e hf
    have hF := Fx_f hF em (by decide)
    clear em
    exact mf_X9_solves_20  hF hf
  · exact mf_X9_solves_20  hF hf
set_option maxRecDepth 100000 in
theorem mf_X9_bound_291 {hs : Hp} {o : Int64 × Hp}   {h : Hp} (hF : Fx [113, 114, 115, 116, 117, 118, 119, 120, 121, 122, 123, 124, 125, 126, 128, 129, 130, 131, 132, 133] [3, 4, 14, 15, 24, 25, 31, 32, 35, 38] hs h) (hf : f_X9_bound_291   h = some o) : Fx [113, 114, 115, 116, 117, 118, 119, 120, 121, 122, 123, 124, 125, 126, 128, 129, 130, 131, 132, 133] [3, 4, 14, 15, 24, 25, 31, 32, 35, 38] hs o.2 := by
  unfold f_X9_bound_291 at hf
  obtain rfl := Option.some.inj hf
  exact hF
set_option maxRecDepth 100000 in
theorem mf_X9_bound_271 {hs : Hp} {o : Int64 × Hp} {k67 : Nat → Int32 → Int32 → Int32 → Int64 → Int64 → Int32 → Hp → Option (Int64 × Hp)} (hk67 : ∀ {x1 : Int32} {x2 : Int32} {x3 : Int32} {x4 : Int64} {x6 : Int64} {x8 : Int32} {h : Hp}, Fx [113, 114, 115, 116, 117, 118, 119, 120, 121, 122, 123, 124, 125, 126, 128, 129, 130, 131, 132, 133] [3, 4, 14, 15, 24, 25, 31, 32, 35, 38] hs h → k67 108 x1 x2 x3 x4 x6 x8 h = some o → Fx [113, 114, 115, 116, 117, 118, 119, 120, 121, 122, 123, 124, 125, 126, 128, 129, 130, 131, 132, 133] [3, 4, 14, 15, 24, 25, 31, 32, 35, 38] hs o.2) {x1 : Int32} {x2 : Int32} {x3 : Int32} {x4 : Int64} {x6 : Int64} {x8 : Int32} {h : Hp} (hF : Fx [113, 114, 115, 116, 117, 118, 119, 120, 121, 122, 123, 124, 125, 126, 128, 129, 130, 131, 132, 133] [3, 4, 14, 15, 24, 25, 31, 32, 35, 38] hs h) (hf : f_X9_bound_271 k67 108 x1 x2 x3 x4 x6 x8 h = some o) : Fx [113, 114, 115, 116, 117, 118, 119, 120, 121, 122, 123, 124, 125, 126, 128, 129, 130, 131, 132, 133] [3, 4, 14, 15, 24, 25, 31, 32, 35, 38] hs o.2 := by
  unfold f_X9_bound_271 at hf
  obtain ⟨v31, -, hf⟩ := lt_e hf
  exact hk67 hF hf
set_option maxRecDepth 100000 in
theorem mf_X9_bound_263 {hs : Hp} {o : Int64 × Hp} {k67 : Nat → Int32 → Int32 → Int32 → Int64 → Int64 → Int32 → Hp → Option (Int64 × Hp)} (hk67 : ∀ {x1 : Int32} {x2 : Int32} {x3 : Int32} {x4 : Int64} {x6 : Int64} {x8 : Int32} {h : Hp}, Fx [113, 114, 115, 116, 117, 118, 119, 120, 121, 122, 123, 124, 125, 126, 128, 129, 130, 131, 132, 133] [3, 4, 14, 15, 24, 25, 31, 32, 35, 38] hs h → k67 108 x1 x2 x3 x4 x6 x8 h = some o → Fx [113, 114, 115, 116, 117, 118, 119, 120, 121, 122, 123, 124, 125, 126, 128, 129, 130, 131, 132, 133] [3, 4, 14, 15, 24, 25, 31, 32, 35, 38] hs o.2) {x1 : Int32} {x2 : Int32} {x3 : Int32} {x8 : Int32} {x15 : Int64} {x17 : Int64} {h : Hp} (hF : Fx [113, 114, 115, 116, 117, 118, 119, 120, 121, 122, 123, 124, 125, 126, 128, 129, 130, 131, 132, 133] [3, 4, 14, 15, 24, 25, 31, 32, 35, 38] hs h) (hf : f_X9_bound_263 k67 108 x1 x2 x3 x8 x15 x17 h = some o) : Fx [113, 114, 115, 116, 117, 118, 119, 120, 121, 122, 123, 124, 125, 126, 128, 129, 130, 131, 132, 133] [3, 4, 14, 15, 24, 25, 31, 32, 35, 38] hs o.2 := by
  unfold f_X9_bound_263 at hf
  exact mf_X9_bound_271 hk67 hF hf
set_option maxRecDepth 100000 in
theorem mf_X9_bound_67 {hs : Hp} {o : Int64 × Hp}  : ∀ (n : Nat) {x1 : Int32} {x2 : Int32} {x3 : Int32} {x4 : Int64} {x6 : Int64} {x8 : Int32} {h : Hp}, Fx [113, 114, 115, 116, 117, 118, 119, 120, 121, 122, 123, 124, 125, 126, 128, 129, 130, 131, 132, 133] [3, 4, 14, 15, 24, 25, 31, 32, 35, 38] hs h → lp (F := Nat → Int32 → Int32 → Int32 → Int64 → Int64 → Int32 → Hp → Option (Int64 × Hp)) (fun _ _ _ _ _ _ _ _ => none) (f_X9_bound_67) n 108 x1 x2 x3 x4 x6 x8 h = some o → Fx [113, 114, 115, 116, 117, 118, 119, 120, 121, 122, 123, 124, 125, 126, 128, 129, 130, 131, 132, 133] [3, 4, 14, 15, 24, 25, 31, 32, 35, 38] hs o.2 := by
  intro n
  induction n with
  | zero =>
    intro x1 x2 x3 x4 x6 x8 h hF hf
    have hf : (none : Option (Int64 × Hp)) = some o := hf
    cases hf
  | succ n hk67 =>
    intro x1 x2 x3 x4 x6 x8 h hF hf
    have hf : f_X9_bound_67  (lp (F := Nat → Int32 → Int32 → Int32 → Int64 → Int64 → Int32 → Hp → Option (Int64 × Hp)) (fun _ _ _ _ _ _ _ _ => none) (f_X9_bound_67) n) 108 x1 x2 x3 x4 x6 x8 h = some o := hf
    unfold f_X9_bound_67 at hf
    rcases ite_or hf with hf | hf
    · rcases ite_or hf with hf | hf
      · rcases ite_or hf with hf | hf
        · exact mf_X9_bound_291  hF hf
        · obtain ⟨q8, e9, hf⟩ := Option.bind_eq_some_iff.mp hf
          have e9 := mf_X9_lowest e9
          have hF := hF.eqr e9
          clear e9
          obtain rfl := Option.some.inj hf
          exact hF
      · exact mf_X9_bound_291  hF hf
    · obtain ⟨-, hf⟩ := ite_some hf
      obtain ⟨v9, -, hf⟩ := lt_e hf
      obtain ⟨-, hf⟩ := ite_some hf
      obtain ⟨v10, -, hf⟩ := lt_e hf
      rcases ite_or hf with hf | hf
      · exact mf_X9_bound_271 hk67 hF hf
      · obtain ⟨q11, e9, hf⟩ := Option.bind_eq_some_iff.mp hf
        have e9 := mf_X9_votesOf e9
        have hF := hF.eqr e9
        clear e9
        obtain ⟨q12, e9, hf⟩ := Option.bind_eq_some_iff.mp hf
        have e9 := mf_X9_wayNow e9
        have hF := hF.eqr e9
        clear e9
        obtain ⟨q13, e9, hf⟩ := Option.bind_eq_some_iff.mp hf
        have e9 := mf_X9_below e9
        have hF := hF.eqr e9
        clear e9
        obtain ⟨q14, e9, hf⟩ := Option.bind_eq_some_iff.mp hf
        have hF := hF.trans ((mf_X9_times e9).mono (by decide) (by decide))
        clear e9
        obtain ⟨q15, e9, hf⟩ := Option.bind_eq_some_iff.mp hf
        have e9 := mf_X9_wayNow e9
        have hF := hF.eqr e9
        clear e9
        obtain ⟨q16, e9, hf⟩ := Option.bind_eq_some_iff.mp hf
        have e9 := mf_X9_above e9
        have hF := hF.eqr e9
        clear e9
        obtain ⟨q17, e9, hf⟩ := Option.bind_eq_some_iff.mp hf
        have hF := hF.trans ((mf_X9_times e9).mono (by decide) (by decide))
        clear e9
        obtain ⟨q18, e9, hf⟩ := Option.bind_eq_some_iff.mp hf
        have e9 := mf_X9_votesOf e9
        have hF := hF.eqr e9
        clear e9
        obtain ⟨q19, e9, hf⟩ := Option.bind_eq_some_iff.mp hf
        have e9 := mf_X9_wayNow e9
        have hF := hF.eqr e9
        clear e9
        obtain ⟨q20, e9, hf⟩ := Option.bind_eq_some_iff.mp hf
        have e9 := mf_X9_below e9
        have hF := hF.eqr e9
        clear e9
        obtain ⟨q21, e9, hf⟩ := Option.bind_eq_some_iff.mp hf
        have hF := hF.trans ((mf_X9_times e9).mono (by decide) (by decide))
        clear e9
        obtain ⟨q22, e9, hf⟩ := Option.bind_eq_some_iff.mp hf
        have e9 := mf_X9_wayNow e9
        have hF := hF.eqr e9
        clear e9
        obtain ⟨q23, e9, hf⟩ := Option.bind_eq_some_iff.mp hf
        have e9 := mf_X9_above e9
        have hF := hF.eqr e9
        clear e9
        obtain ⟨q24, e9, hf⟩ := Option.bind_eq_some_iff.mp hf
        have hF := hF.trans ((mf_X9_times e9).mono (by decide) (by decide))
        clear e9
        obtain ⟨q25, e9, hf⟩ := Option.bind_eq_some_iff.mp hf
        have e9 := mf_X9_wayNow e9
        have hF := hF.eqr e9
        clear e9
        obtain ⟨q26, e9, hf⟩ := Option.bind_eq_some_iff.mp hf
        have e9 := mf_X9_above e9
        have hF := hF.eqr e9
        clear e9
        rcases ite_or hf with hf | hf
        · obtain rfl := Option.some.inj hf
          exact hF
        · rcases ite_or hf with hf | hf
          · obtain rfl := Option.some.inj hf
            exact hF
          · obtain ⟨q27, e9, hf⟩ := Option.bind_eq_some_iff.mp hf
            have e9 := mf_X9_lowest e9
            have hF := hF.eqr e9
            clear e9
            obtain ⟨q28, e9, hf⟩ := Option.bind_eq_some_iff.mp hf
            have e9 := mf_X9_lowest e9
            have hF := hF.eqr e9
            clear e9
            rcases ite_or hf with hf | hf
            · exact mf_X9_bound_263 hk67 hF hf
            · obtain ⟨q29, e9, hf⟩ := Option.bind_eq_some_iff.mp hf
              have hF := hF.trans ((mf_X9_times e9).mono (by decide) (by decide))
              clear e9
              obtain ⟨q30, e9, hf⟩ := Option.bind_eq_some_iff.mp hf
              have hF := hF.trans ((mf_X9_times e9).mono (by decide) (by decide))
              clear e9
              rcases ite_or hf with hf | hf
              · exact mf_X9_bound_271 hk67 hF hf
              · exact mf_X9_bound_263 hk67 hF hf
set_option maxRecDepth 100000 in
theorem mf_X9_bound {x1 : Int32} {x2 : Int32} {x3 : Int32} {h : Hp} {o : Int64 × Hp} (hf : f_X9_bound 108 x1 x2 x3 h = some o) : Fx [113, 114, 115, 116, 117, 118, 119, 120, 121, 122, 123, 124, 125, 126, 128, 129, 130, 131, 132, 133] [3, 4, 14, 15, 24, 25, 31, 32, 35, 38] h o.2 := by
  have hF : Fx [113, 114, 115, 116, 117, 118, 119, 120, 121, 122, 123, 124, 125, 126, 128, 129, 130, 131, 132, 133] [3, 4, 14, 15, 24, 25, 31, 32, 35, 38] h h := Fx.refl
  unfold f_X9_bound at hf
  obtain ⟨q1, e9, hf⟩ := Option.bind_eq_some_iff.mp hf
  have e9 := mf_X9_isWard e9
  have hF := hF.eqr e9
  clear e9
  rcases ite_or hf with hf | hf
  · obtain rfl := Option.some.inj hf
    exact hF
  · obtain ⟨q2, e9, hf⟩ := Option.bind_eq_some_iff.mp hf
    have e9 := mf_X9_isWard e9
    have hF := hF.eqr e9
    clear e9
    rcases ite_or hf with hf | hf
    · obtain rfl := Option.some.inj hf
      exact hF
    · rcases ite_or hf with hf | hf
      · obtain rfl := Option.some.inj hf
        exact hF
      · obtain ⟨q3, e9, hf⟩ := Option.bind_eq_some_iff.mp hf
        have e9 := mf_X9_isPart e9
        have hF := hF.eqr e9
        clear e9
        rcases ite_or hf with hf | hf
        · obtain rfl := Option.some.inj hf
          exact hF
        · obtain ⟨q4, e9, hf⟩ := Option.bind_eq_some_iff.mp hf
          have hF := hF.trans ((mf_X9_solves e9).mono (by decide) (by decide))
          clear e9
          rcases ite_or hf with hf | hf
          · obtain rfl := Option.some.inj hf
            exact hF
          · obtain ⟨q5, e9, hf⟩ := Option.bind_eq_some_iff.mp hf
            have e9 := mf_X9_seatsOf e9
            have hF := hF.eqr e9
            clear e9
            rcases ite_or hf with hf | hf
            · obtain rfl := Option.some.inj hf
              exact hF
            · obtain ⟨q6, e9, hf⟩ := Option.bind_eq_some_iff.mp hf
              have e9 := mf_X9_seatsOf e9
              have hF := hF.eqr e9
              clear e9
              rcases ite_or hf with hf | hf
              · obtain rfl := Option.some.inj hf
                exact hF
              · obtain ⟨m7, em, hf⟩ := lt_e hf
                have hF := Fx_f hF em (by decide)
                clear em
                exact mf_X9_bound_67  1000 hF hf
set_option maxRecDepth 100000 in
theorem mf_X9_cell {x1 : Int32} {x2 : Int32} {h : Hp} {o : Int32 × Hp} (hf : f_X9_cell 108 x1 x2 h = some o) : Fx [113, 114, 115, 116, 117, 118, 119, 120, 121, 122, 123, 124, 125, 126, 128, 129, 130, 131, 132, 133] [3, 4, 14, 15, 24, 25, 31, 32, 35, 38] h o.2 := by
  have hF : Fx [113, 114, 115, 116, 117, 118, 119, 120, 121, 122, 123, 124, 125, 126, 128, 129, 130, 131, 132, 133] [3, 4, 14, 15, 24, 25, 31, 32, 35, 38] h h := Fx.refl
  unfold f_X9_cell at hf
  obtain ⟨q1, e9, hf⟩ := Option.bind_eq_some_iff.mp hf
  have e9 := mf_X9_isWard e9
  have hF := hF.eqr e9
  clear e9
  rcases ite_or hf with hf | hf
  · obtain rfl := Option.some.inj hf
    exact hF
  · obtain ⟨q2, e9, hf⟩ := Option.bind_eq_some_iff.mp hf
    have e9 := mf_X9_isParty e9
    have hF := hF.eqr e9
    clear e9
    rcases ite_or hf with hf | hf
    · obtain rfl := Option.some.inj hf
      exact hF
    · obtain ⟨q3, e9, hf⟩ := Option.bind_eq_some_iff.mp hf
      have hF := hF.trans ((mf_X9_solves e9).mono (by decide) (by decide))
      clear e9
      rcases ite_or hf with hf | hf
      · obtain ⟨-, hf⟩ := ite_some hf
        obtain rfl := Option.some.inj hf
        exact hF
      · obtain rfl := Option.some.inj hf
        exact hF
set_option maxRecDepth 100000 in
theorem mf_X9_lay_87 {hs : Hp} {o : Int32 × Hp}  {x4 : Int32} {h : Hp} (hF : Fx [113, 114, 115, 116, 117, 118, 119, 120, 121, 122, 123, 124, 125, 126, 128, 129, 130, 131, 132, 133, 134] [3, 4, 14, 15, 24, 25, 31, 32, 35, 38] hs h) (hf : f_X9_lay_87  x4 h = some o) : Fx [113, 114, 115, 116, 117, 118, 119, 120, 121, 122, 123, 124, 125, 126, 128, 129, 130, 131, 132, 133, 134] [3, 4, 14, 15, 24, 25, 31, 32, 35, 38] hs o.2 := by
  unfold f_X9_lay_87 at hf
  rcases ite_or hf with hf | hf
  · obtain rfl := Option.some.inj hf
    exact hF
  · obtain rfl := Option.some.inj hf
    exact hF
set_option maxRecDepth 100000 in
theorem mf_X9_lay_36 {hs : Hp} {o : Int32 × Hp}  : ∀ (n : Nat) {x1 : Int32} {x2 : Int32} {x4 : Int32} {h : Hp}, Fx [113, 114, 115, 116, 117, 118, 119, 120, 121, 122, 123, 124, 125, 126, 128, 129, 130, 131, 132, 133, 134] [3, 4, 14, 15, 24, 25, 31, 32, 35, 38] hs h → lp (F := Nat → Int32 → Int32 → Int32 → Hp → Option (Int32 × Hp)) (fun _ _ _ _ _ => none) (f_X9_lay_36) n 108 x1 x2 x4 h = some o → Fx [113, 114, 115, 116, 117, 118, 119, 120, 121, 122, 123, 124, 125, 126, 128, 129, 130, 131, 132, 133, 134] [3, 4, 14, 15, 24, 25, 31, 32, 35, 38] hs o.2 := by
  intro n
  induction n with
  | zero =>
    intro x1 x2 x4 h hF hf
    have hf : (none : Option (Int32 × Hp)) = some o := hf
    cases hf
  | succ n hk36 =>
    intro x1 x2 x4 h hF hf
    have hf : f_X9_lay_36  (lp (F := Nat → Int32 → Int32 → Int32 → Hp → Option (Int32 × Hp)) (fun _ _ _ _ _ => none) (f_X9_lay_36) n) 108 x1 x2 x4 h = some o := hf
    unfold f_X9_lay_36 at hf
    rcases ite_or hf with hf | hf
    · exact mf_X9_lay_87  hF hf
    · rcases ite_or hf with hf | hf
      · exact mf_X9_lay_87  hF hf
      · obtain ⟨-, hf⟩ := ite_some hf
        rcases ite_or hf with hf | hf
        · exact mf_X9_lay_87  hF hf
        · obtain ⟨-, hf⟩ := ite_some hf
          obtain ⟨-, hf⟩ := ite_some hf
          obtain ⟨m3, em, hf⟩ := lt_e hf
          have hF := Fx_sI hF em (by decide)
          clear em
          obtain ⟨v4, -, hf⟩ := lt_e hf
          exact hk36 hF hf
set_option maxRecDepth 100000 in
theorem mf_X9_lay {x1 : Int32} {x2 : Int32} {h : Hp} {o : Int32 × Hp} (hf : f_X9_lay 108 x1 x2 h = some o) : Fx [113, 114, 115, 116, 117, 118, 119, 120, 121, 122, 123, 124, 125, 126, 128, 129, 130, 131, 132, 133, 134] [3, 4, 14, 15, 24, 25, 31, 32, 35, 38] h o.2 := by
  have hF : Fx [113, 114, 115, 116, 117, 118, 119, 120, 121, 122, 123, 124, 125, 126, 128, 129, 130, 131, 132, 133, 134] [3, 4, 14, 15, 24, 25, 31, 32, 35, 38] h h := Fx.refl
  unfold f_X9_lay at hf
  obtain ⟨q1, e9, hf⟩ := Option.bind_eq_some_iff.mp hf
  have e9 := mf_X9_isRow e9
  have hF := hF.eqr e9
  clear e9
  rcases ite_or hf with hf | hf
  · obtain rfl := Option.some.inj hf
    exact hF
  · obtain ⟨-, hf⟩ := ite_some hf
    rcases ite_or hf with hf | hf
    · obtain rfl := Option.some.inj hf
      exact hF
    · obtain ⟨q2, e9, hf⟩ := Option.bind_eq_some_iff.mp hf
      have hF := hF.trans ((mf_X9_solves e9).mono (by decide) (by decide))
      clear e9
      rcases ite_or hf with hf | hf
      · exact mf_X9_lay_36  1000 hF hf
      · obtain rfl := Option.some.inj hf
        exact hF
set_option maxRecDepth 100000 in
theorem mf_X9_moved_154 {hs : Hp} {o : Int32 × Hp} {k15 : Nat → Int32 → Int32 → Hp → Option (Int32 × Hp)} (hk15 : ∀ {x2 : Int32} {x3 : Int32} {h : Hp}, Fx [113, 114, 115, 116, 117, 118, 119, 120, 121, 122, 123, 124, 125, 126, 128, 129, 130, 131, 132, 133] [3, 4, 14, 15, 24, 25, 31, 32, 35, 38] hs h → k15 108 x2 x3 h = some o → Fx [113, 114, 115, 116, 117, 118, 119, 120, 121, 122, 123, 124, 125, 126, 128, 129, 130, 131, 132, 133] [3, 4, 14, 15, 24, 25, 31, 32, 35, 38] hs o.2) {x2 : Int32} {x3 : Int32} {h : Hp} (hF : Fx [113, 114, 115, 116, 117, 118, 119, 120, 121, 122, 123, 124, 125, 126, 128, 129, 130, 131, 132, 133] [3, 4, 14, 15, 24, 25, 31, 32, 35, 38] hs h) (hf : f_X9_moved_154 k15 108 x2 x3 h = some o) : Fx [113, 114, 115, 116, 117, 118, 119, 120, 121, 122, 123, 124, 125, 126, 128, 129, 130, 131, 132, 133] [3, 4, 14, 15, 24, 25, 31, 32, 35, 38] hs o.2 := by
  unfold f_X9_moved_154 at hf
  obtain ⟨v11, -, hf⟩ := lt_e hf
  exact hk15 hF hf
set_option maxRecDepth 100000 in
theorem mf_X9_moved_142 {hs : Hp} {o : Int32 × Hp} {k15 : Nat → Int32 → Int32 → Hp → Option (Int32 × Hp)} (hk15 : ∀ {x2 : Int32} {x3 : Int32} {h : Hp}, Fx [113, 114, 115, 116, 117, 118, 119, 120, 121, 122, 123, 124, 125, 126, 128, 129, 130, 131, 132, 133] [3, 4, 14, 15, 24, 25, 31, 32, 35, 38] hs h → k15 108 x2 x3 h = some o → Fx [113, 114, 115, 116, 117, 118, 119, 120, 121, 122, 123, 124, 125, 126, 128, 129, 130, 131, 132, 133] [3, 4, 14, 15, 24, 25, 31, 32, 35, 38] hs o.2) {k93 : Nat → Int32 → Int32 → Int32 → Hp → Option (Int32 × Hp)} (hk93 : ∀ {x2 : Int32} {x3 : Int32} {x4 : Int32} {h : Hp}, Fx [113, 114, 115, 116, 117, 118, 119, 120, 121, 122, 123, 124, 125, 126, 128, 129, 130, 131, 132, 133] [3, 4, 14, 15, 24, 25, 31, 32, 35, 38] hs h → k93 108 x2 x3 x4 h = some o → Fx [113, 114, 115, 116, 117, 118, 119, 120, 121, 122, 123, 124, 125, 126, 128, 129, 130, 131, 132, 133] [3, 4, 14, 15, 24, 25, 31, 32, 35, 38] hs o.2) {x3 : Int32} {x4 : Int32} {y0 : Int32} {y1 : Int32} {y2 : Int32} {h : Hp} (hF : Fx [113, 114, 115, 116, 117, 118, 119, 120, 121, 122, 123, 124, 125, 126, 128, 129, 130, 131, 132, 133] [3, 4, 14, 15, 24, 25, 31, 32, 35, 38] hs h) (hf : f_X9_moved_142 k15 k93 108 x3 x4 y0 y1 y2 h = some o) : Fx [113, 114, 115, 116, 117, 118, 119, 120, 121, 122, 123, 124, 125, 126, 128, 129, 130, 131, 132, 133] [3, 4, 14, 15, 24, 25, 31, 32, 35, 38] hs o.2 := by
  unfold f_X9_moved_142 at hf
  obtain ⟨v12, -, hf⟩ := lt_e hf
  obtain ⟨v13, -, hf⟩ := lt_e hf
  exact hk93 hF hf
set_option maxRecDepth 100000 in
theorem mf_X9_moved_93 {hs : Hp} {o : Int32 × Hp} {k15 : Nat → Int32 → Int32 → Hp → Option (Int32 × Hp)} (hk15 : ∀ {x2 : Int32} {x3 : Int32} {h : Hp}, Fx [113, 114, 115, 116, 117, 118, 119, 120, 121, 122, 123, 124, 125, 126, 128, 129, 130, 131, 132, 133] [3, 4, 14, 15, 24, 25, 31, 32, 35, 38] hs h → k15 108 x2 x3 h = some o → Fx [113, 114, 115, 116, 117, 118, 119, 120, 121, 122, 123, 124, 125, 126, 128, 129, 130, 131, 132, 133] [3, 4, 14, 15, 24, 25, 31, 32, 35, 38] hs o.2) : ∀ (n : Nat) {x2 : Int32} {x3 : Int32} {x4 : Int32} {h : Hp}, Fx [113, 114, 115, 116, 117, 118, 119, 120, 121, 122, 123, 124, 125, 126, 128, 129, 130, 131, 132, 133] [3, 4, 14, 15, 24, 25, 31, 32, 35, 38] hs h → lp (F := Nat → Int32 → Int32 → Int32 → Hp → Option (Int32 × Hp)) (fun _ _ _ _ _ => none) (f_X9_moved_93 k15) n 108 x2 x3 x4 h = some o → Fx [113, 114, 115, 116, 117, 118, 119, 120, 121, 122, 123, 124, 125, 126, 128, 129, 130, 131, 132, 133] [3, 4, 14, 15, 24, 25, 31, 32, 35, 38] hs o.2 := by
  intro n
  induction n with
  | zero =>
    intro x2 x3 x4 h hF hf
    have hf : (none : Option (Int32 × Hp)) = some o := hf
    cases hf
  | succ n hk93 =>
    intro x2 x3 x4 h hF hf
    have hf : f_X9_moved_93 k15 (lp (F := Nat → Int32 → Int32 → Int32 → Hp → Option (Int32 × Hp)) (fun _ _ _ _ _ => none) (f_X9_moved_93 k15) n) 108 x2 x3 x4 h = some o := hf
    unfold f_X9_moved_93 at hf
    rcases ite_or hf with hf | hf
    · exact mf_X9_moved_154 hk15 hF hf
    · obtain ⟨q10, e9, hf⟩ := Option.bind_eq_some_iff.mp hf
      have e9 := mf_X9_seatsOf e9
      have hF := hF.eqr e9
      clear e9
      rcases ite_or hf with hf | hf
      · exact mf_X9_moved_154 hk15 hF hf
      · obtain ⟨-, hf⟩ := ite_some hf
        obtain ⟨-, hf⟩ := ite_some hf
        rcases ite_or hf with hf | hf
        · exact mf_X9_moved_142 hk15 hk93 hF hf
        · obtain ⟨-, hf⟩ := ite_some hf
          exact mf_X9_moved_142 hk15 hk93 hF hf
set_option maxRecDepth 100000 in
theorem mf_X9_moved_90 {hs : Hp} {o : Int32 × Hp} {k15 : Nat → Int32 → Int32 → Hp → Option (Int32 × Hp)} (hk15 : ∀ {x2 : Int32} {x3 : Int32} {h : Hp}, Fx [113, 114, 115, 116, 117, 118, 119, 120, 121, 122, 123, 124, 125, 126, 128, 129, 130, 131, 132, 133] [3, 4, 14, 15, 24, 25, 31, 32, 35, 38] hs h → k15 108 x2 x3 h = some o → Fx [113, 114, 115, 116, 117, 118, 119, 120, 121, 122, 123, 124, 125, 126, 128, 129, 130, 131, 132, 133] [3, 4, 14, 15, 24, 25, 31, 32, 35, 38] hs o.2) {x2 : Int32} {x3 : Int32} {h : Hp} (hF : Fx [113, 114, 115, 116, 117, 118, 119, 120, 121, 122, 123, 124, 125, 126, 128, 129, 130, 131, 132, 133] [3, 4, 14, 15, 24, 25, 31, 32, 35, 38] hs h) (hf : f_X9_moved_90 k15 108 x2 x3 h = some o) : Fx [113, 114, 115, 116, 117, 118, 119, 120, 121, 122, 123, 124, 125, 126, 128, 129, 130, 131, 132, 133] [3, 4, 14, 15, 24, 25, 31, 32, 35, 38] hs o.2 := by
  unfold f_X9_moved_90 at hf
  exact mf_X9_moved_93 hk15 1000 hF hf
set_option maxRecDepth 100000 in
theorem mf_X9_moved_57 {hs : Hp} {o : Int32 × Hp} {k15 : Nat → Int32 → Int32 → Hp → Option (Int32 × Hp)} (hk15 : ∀ {x2 : Int32} {x3 : Int32} {h : Hp}, Fx [113, 114, 115, 116, 117, 118, 119, 120, 121, 122, 123, 124, 125, 126, 128, 129, 130, 131, 132, 133] [3, 4, 14, 15, 24, 25, 31, 32, 35, 38] hs h → k15 108 x2 x3 h = some o → Fx [113, 114, 115, 116, 117, 118, 119, 120, 121, 122, 123, 124, 125, 126, 128, 129, 130, 131, 132, 133] [3, 4, 14, 15, 24, 25, 31, 32, 35, 38] hs o.2) {k27 : Nat → Int32 → Int32 → Int32 → Hp → Option (Int32 × Hp)} (hk27 : ∀ {x2 : Int32} {x3 : Int32} {x4 : Int32} {h : Hp}, Fx [113, 114, 115, 116, 117, 118, 119, 120, 121, 122, 123, 124, 125, 126, 128, 129, 130, 131, 132, 133] [3, 4, 14, 15, 24, 25, 31, 32, 35, 38] hs h → k27 108 x2 x3 x4 h = some o → Fx [113, 114, 115, 116, 117, 118, 119, 120, 121, 122, 123, 124, 125, 126, 128, 129, 130, 131, 132, 133] [3, 4, 14, 15, 24, 25, 31, 32, 35, 38] hs o.2) {x2 : Int32} {x3 : Int32} {x4 : Int32} {h : Hp} (hF : Fx [113, 114, 115, 116, 117, 118, 119, 120, 121, 122, 123, 124, 125, 126, 128, 129, 130, 131, 132, 133] [3, 4, 14, 15, 24, 25, 31, 32, 35, 38] hs h) (hf : f_X9_moved_57 k15 k27 108 x2 x3 x4 h = some o) : Fx [113, 114, 115, 116, 117, 118, 119, 120, 121, 122, 123, 124, 125, 126, 128, 129, 130, 131, 132, 133] [3, 4, 14, 15, 24, 25, 31, 32, 35, 38] hs o.2 := by
  unfold f_X9_moved_57 at hf
  obtain ⟨v14, -, hf⟩ := lt_e hf
  exact hk27 hF hf
set_option maxRecDepth 100000 in
theorem mf_X9_moved_27 {hs : Hp} {o : Int32 × Hp} {k15 : Nat → Int32 → Int32 → Hp → Option (Int32 × Hp)} (hk15 : ∀ {x2 : Int32} {x3 : Int32} {h : Hp}, Fx [113, 114, 115, 116, 117, 118, 119, 120, 121, 122, 123, 124, 125, 126, 128, 129, 130, 131, 132, 133] [3, 4, 14, 15, 24, 25, 31, 32, 35, 38] hs h → k15 108 x2 x3 h = some o → Fx [113, 114, 115, 116, 117, 118, 119, 120, 121, 122, 123, 124, 125, 126, 128, 129, 130, 131, 132, 133] [3, 4, 14, 15, 24, 25, 31, 32, 35, 38] hs o.2) : ∀ (n : Nat) {x2 : Int32} {x3 : Int32} {x4 : Int32} {h : Hp}, Fx [113, 114, 115, 116, 117, 118, 119, 120, 121, 122, 123, 124, 125, 126, 128, 129, 130, 131, 132, 133] [3, 4, 14, 15, 24, 25, 31, 32, 35, 38] hs h → lp (F := Nat → Int32 → Int32 → Int32 → Hp → Option (Int32 × Hp)) (fun _ _ _ _ _ => none) (f_X9_moved_27 k15) n 108 x2 x3 x4 h = some o → Fx [113, 114, 115, 116, 117, 118, 119, 120, 121, 122, 123, 124, 125, 126, 128, 129, 130, 131, 132, 133] [3, 4, 14, 15, 24, 25, 31, 32, 35, 38] hs o.2 := by
  intro n
  induction n with
  | zero =>
    intro x2 x3 x4 h hF hf
    have hf : (none : Option (Int32 × Hp)) = some o := hf
    cases hf
  | succ n hk27 =>
    intro x2 x3 x4 h hF hf
    have hf : f_X9_moved_27 k15 (lp (F := Nat → Int32 → Int32 → Int32 → Hp → Option (Int32 × Hp)) (fun _ _ _ _ _ => none) (f_X9_moved_27 k15) n) 108 x2 x3 x4 h = some o := hf
    unfold f_X9_moved_27 at hf
    rcases ite_or hf with hf | hf
    · obtain ⟨q3, e9, hf⟩ := Option.bind_eq_some_iff.mp hf
      have e9 := mf_X9_seatsOf e9
      have hF := hF.eqr e9
      clear e9
      rcases ite_or hf with hf | hf
      · exact mf_X9_moved_90 hk15 hF hf
      · obtain ⟨q4, e9, hf⟩ := Option.bind_eq_some_iff.mp hf
        have e9 := mf_X9_wayNow e9
        have hF := hF.eqr e9
        clear e9
        obtain ⟨q5, e9, hf⟩ := Option.bind_eq_some_iff.mp hf
        have e9 := mf_X9_seatsOf e9
        have hF := hF.eqr e9
        clear e9
        obtain ⟨q6, e9, hf⟩ := Option.bind_eq_some_iff.mp hf
        have hF := hF.trans ((mf_X9_gives e9).mono (by decide) (by decide))
        clear e9
        rcases ite_or hf with hf | hf
        · obtain rfl := Option.some.inj hf
          exact hF
        · exact mf_X9_moved_90 hk15 hF hf
    · obtain ⟨q7, e9, hf⟩ := Option.bind_eq_some_iff.mp hf
      have e9 := mf_X9_isIn e9
      have hF := hF.eqr e9
      clear e9
      rcases ite_or hf with hf | hf
      · exact mf_X9_moved_57 hk15 hk27 hF hf
      · obtain ⟨q8, e9, hf⟩ := Option.bind_eq_some_iff.mp hf
        have e9 := mf_X9_votesOf e9
        have hF := hF.eqr e9
        clear e9
        obtain ⟨q9, e9, hf⟩ := Option.bind_eq_some_iff.mp hf
        have hF := hF.trans ((mf_X9_claims e9).mono (by decide) (by decide))
        clear e9
        exact mf_X9_moved_57 hk15 hk27 hF hf
set_option maxRecDepth 100000 in
theorem mf_X9_moved_15 {hs : Hp} {o : Int32 × Hp}  : ∀ (n : Nat) {x2 : Int32} {x3 : Int32} {h : Hp}, Fx [113, 114, 115, 116, 117, 118, 119, 120, 121, 122, 123, 124, 125, 126, 128, 129, 130, 131, 132, 133] [3, 4, 14, 15, 24, 25, 31, 32, 35, 38] hs h → lp (F := Nat → Int32 → Int32 → Hp → Option (Int32 × Hp)) (fun _ _ _ _ => none) (f_X9_moved_15) n 108 x2 x3 h = some o → Fx [113, 114, 115, 116, 117, 118, 119, 120, 121, 122, 123, 124, 125, 126, 128, 129, 130, 131, 132, 133] [3, 4, 14, 15, 24, 25, 31, 32, 35, 38] hs o.2 := by
  intro n
  induction n with
  | zero =>
    intro x2 x3 h hF hf
    have hf : (none : Option (Int32 × Hp)) = some o := hf
    cases hf
  | succ n hk15 =>
    intro x2 x3 h hF hf
    have hf : f_X9_moved_15  (lp (F := Nat → Int32 → Int32 → Hp → Option (Int32 × Hp)) (fun _ _ _ _ => none) (f_X9_moved_15) n) 108 x2 x3 h = some o := hf
    unfold f_X9_moved_15 at hf
    rcases ite_or hf with hf | hf
    · obtain ⟨-, hf⟩ := ite_none hf
      obtain rfl := Option.some.inj hf
      exact hF
    · obtain ⟨q2, e9, hf⟩ := Option.bind_eq_some_iff.mp hf
      have hF := hF.trans ((mf_X9_nobodyClaims e9).mono (by decide) (by decide))
      clear e9
      exact mf_X9_moved_27 hk15 1000 hF hf
set_option maxRecDepth 100000 in
theorem mf_X9_moved  {h : Hp} {o : Int32 × Hp} (hf : f_X9_moved 108 h = some o) : Fx [113, 114, 115, 116, 117, 118, 119, 120, 121, 122, 123, 124, 125, 126, 128, 129, 130, 131, 132, 133] [3, 4, 14, 15, 24, 25, 31, 32, 35, 38] h o.2 := by
  have hF : Fx [113, 114, 115, 116, 117, 118, 119, 120, 121, 122, 123, 124, 125, 126, 128, 129, 130, 131, 132, 133] [3, 4, 14, 15, 24, 25, 31, 32, 35, 38] h h := Fx.refl
  unfold f_X9_moved at hf
  obtain ⟨q1, e9, hf⟩ := Option.bind_eq_some_iff.mp hf
  have hF := hF.trans ((mf_X9_solves e9).mono (by decide) (by decide))
  clear e9
  rcases ite_or hf with hf | hf
  · exact mf_X9_moved_15  1000 hF hf
  · obtain rfl := Option.some.inj hf
    exact hF
set_option maxRecDepth 100000 in
theorem mf_X9_solve  {h : Hp} {o : Int32 × Hp} (hf : f_X9_solve 108 h = some o) : Fx [113, 114, 115, 116, 117, 118, 119, 120, 121, 122, 123, 124, 125, 126, 128, 129, 130, 131, 132, 133] [3, 4, 14, 15, 24, 25, 31, 32, 35, 38] h o.2 := by
  have hF : Fx [113, 114, 115, 116, 117, 118, 119, 120, 121, 122, 123, 124, 125, 126, 128, 129, 130, 131, 132, 133] [3, 4, 14, 15, 24, 25, 31, 32, 35, 38] h h := Fx.refl
  unfold f_X9_solve at hf
  obtain ⟨q1, e9, hf⟩ := Option.bind_eq_some_iff.mp hf
  have hF := hF.trans ((mf_X9_solves e9).mono (by decide) (by decide))
  clear e9
  obtain rfl := Option.some.inj hf
  exact hF
set_option maxRecDepth 100000 in
theorem mf_X9_spellPlan_46 {hs : Hp} {o : Int32 × Hp} {k18 : Nat → Int32 → Hp → Option (Int32 × Hp)} (hk18 : ∀ {x2 : Int32} {h : Hp}, Fx [113, 114, 115, 116, 117, 118, 119, 120, 121, 122, 123, 124, 125, 126, 127, 128, 129, 130, 131, 132, 133] [3, 4, 14, 15, 24, 25, 28, 31, 32, 35, 38] hs h → k18 108 x2 h = some o → Fx [113, 114, 115, 116, 117, 118, 119, 120, 121, 122, 123, 124, 125, 126, 127, 128, 129, 130, 131, 132, 133] [3, 4, 14, 15, 24, 25, 28, 31, 32, 35, 38] hs o.2) {x2 : Int32} {h : Hp} (hF : Fx [113, 114, 115, 116, 117, 118, 119, 120, 121, 122, 123, 124, 125, 126, 127, 128, 129, 130, 131, 132, 133] [3, 4, 14, 15, 24, 25, 28, 31, 32, 35, 38] hs h) (hf : f_X9_spellPlan_46 k18 108 x2 h = some o) : Fx [113, 114, 115, 116, 117, 118, 119, 120, 121, 122, 123, 124, 125, 126, 127, 128, 129, 130, 131, 132, 133] [3, 4, 14, 15, 24, 25, 28, 31, 32, 35, 38] hs o.2 := by
  unfold f_X9_spellPlan_46 at hf
  obtain ⟨-, hf⟩ := ite_some hf
  obtain ⟨q3, e9, hf⟩ := Option.bind_eq_some_iff.mp hf
  have hF := hF.trans ((mf_X9_writesNumber e9).mono (by decide) (by decide))
  clear e9
  obtain ⟨v4, -, hf⟩ := lt_e hf
  exact hk18 hF hf
set_option maxRecDepth 100000 in
theorem mf_X9_spellPlan_43 {hs : Hp} {o : Int32 × Hp} {k18 : Nat → Int32 → Hp → Option (Int32 × Hp)} (hk18 : ∀ {x2 : Int32} {h : Hp}, Fx [113, 114, 115, 116, 117, 118, 119, 120, 121, 122, 123, 124, 125, 126, 127, 128, 129, 130, 131, 132, 133] [3, 4, 14, 15, 24, 25, 28, 31, 32, 35, 38] hs h → k18 108 x2 h = some o → Fx [113, 114, 115, 116, 117, 118, 119, 120, 121, 122, 123, 124, 125, 126, 127, 128, 129, 130, 131, 132, 133] [3, 4, 14, 15, 24, 25, 28, 31, 32, 35, 38] hs o.2) {x2 : Int32} {y0 : Int32} {h : Hp} (hF : Fx [113, 114, 115, 116, 117, 118, 119, 120, 121, 122, 123, 124, 125, 126, 127, 128, 129, 130, 131, 132, 133] [3, 4, 14, 15, 24, 25, 28, 31, 32, 35, 38] hs h) (hf : f_X9_spellPlan_43 k18 108 x2 y0 108 h = some o) : Fx [113, 114, 115, 116, 117, 118, 119, 120, 121, 122, 123, 124, 125, 126, 127, 128, 129, 130, 131, 132, 133] [3, 4, 14, 15, 24, 25, 28, 31, 32, 35, 38] hs o.2 := by
  unfold f_X9_spellPlan_43 at hf
  obtain ⟨q5, e9, hf⟩ := Option.bind_eq_some_iff.mp hf
  have hF := hF.trans ((mf_X9_writes e9).mono (by decide) (by decide))
  clear e9
  exact mf_X9_spellPlan_46 hk18 hF hf
set_option maxRecDepth 100000 in
theorem mf_X9_spellPlan_18 {hs : Hp} {o : Int32 × Hp}  : ∀ (n : Nat) {x2 : Int32} {h : Hp}, Fx [113, 114, 115, 116, 117, 118, 119, 120, 121, 122, 123, 124, 125, 126, 127, 128, 129, 130, 131, 132, 133] [3, 4, 14, 15, 24, 25, 28, 31, 32, 35, 38] hs h → lp (F := Nat → Int32 → Hp → Option (Int32 × Hp)) (fun _ _ _ => none) (f_X9_spellPlan_18) n 108 x2 h = some o → Fx [113, 114, 115, 116, 117, 118, 119, 120, 121, 122, 123, 124, 125, 126, 127, 128, 129, 130, 131, 132, 133] [3, 4, 14, 15, 24, 25, 28, 31, 32, 35, 38] hs o.2 := by
  intro n
  induction n with
  | zero =>
    intro x2 h hF hf
    have hf : (none : Option (Int32 × Hp)) = some o := hf
    cases hf
  | succ n hk18 =>
    intro x2 h hF hf
    have hf : f_X9_spellPlan_18  (lp (F := Nat → Int32 → Hp → Option (Int32 × Hp)) (fun _ _ _ => none) (f_X9_spellPlan_18) n) 108 x2 h = some o := hf
    unfold f_X9_spellPlan_18 at hf
    rcases ite_or hf with hf | hf
    · obtain rfl := Option.some.inj hf
      exact hF
    · rcases ite_or hf with hf | hf
      · exact mf_X9_spellPlan_46 hk18 hF hf
      · obtain ⟨-, hf⟩ := ite_none hf
        rcases ite_or hf with hf | hf
        · exact mf_X9_spellPlan_43 hk18 hF hf
        · exact mf_X9_spellPlan_43 hk18 hF hf
set_option maxRecDepth 100000 in
theorem mf_X9_spellPlan  {h : Hp} {o : Int32 × Hp} (hf : f_X9_spellPlan 108 h = some o) : Fx [113, 114, 115, 116, 117, 118, 119, 120, 121, 122, 123, 124, 125, 126, 127, 128, 129, 130, 131, 132, 133] [3, 4, 14, 15, 24, 25, 28, 31, 32, 35, 38] h o.2 := by
  have hF : Fx [113, 114, 115, 116, 117, 118, 119, 120, 121, 122, 123, 124, 125, 126, 127, 128, 129, 130, 131, 132, 133] [3, 4, 14, 15, 24, 25, 28, 31, 32, 35, 38] h h := Fx.refl
  unfold f_X9_spellPlan at hf
  obtain ⟨q1, e9, hf⟩ := Option.bind_eq_some_iff.mp hf
  have hF := hF.trans ((mf_X9_solves e9).mono (by decide) (by decide))
  clear e9
  rcases ite_or hf with hf | hf
  · obtain ⟨m2, em, hf⟩ := lt_e hf
    have hF := Fx_f hF em (by decide)
    clear em
    exact mf_X9_spellPlan_18  1000 hF hf
  · obtain rfl := Option.some.inj hf
    exact hF
