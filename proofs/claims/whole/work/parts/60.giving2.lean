theorem sub_sub32 (x : Int32) (a b : Nat) : (x - nI a) - nI b = x - nI (a + b) := by
  rw [← nI_add]
  apply Int32.toBitVec_inj.mp
  simp only [Int32.toBitVec_sub, Int32.toBitVec_add]
  bv_omega
/-- the reference's rows of those that claim, as entered -/
def RfC (h : Hp) (P : Nat → Bool) (W F : Nat → Nat) : Prop := ∀ k, k < 6 → h.1 113 k = (if P k = true then 1 else 0) ∧ h.1 114 k = nI (W k) ∧ h.1 115 k = nI (F k)
theorem giveP9 {N : Nat → Nat} (v : Vn N) {w : Nat} (hw : w ≤ 6) {P : Nat → Bool} {W F : Nat → Nat} (bW : ∀ k, k < 6 → W k ≤ 2400000) (bF : sF F 6 ≤ 100) (hF0 : ¬ anyP P = true → sF F 6 = 0) {h : Hp} (b : Po h 109 N) (hE : RfC h P W F) (h14 : h.1 108 14 = 0) (h15 : h.1 108 15 = 0) {H : Nat} (hH : H ≤ 60) : ∃ o, f_X9_givesByPrice 108 (nI w) (nI H) h = some o ∧ ((anyP P = true ∧ sF F 6 ≤ H ∧ o.1 = 1 ∧ RfS P W F o.2 (rnds N w P W (gs0 F) (H - sF F 6))) ∨ (anyP P = true ∧ H < sF F 6 ∧ o.1 = 0 ∧ o.2.1 108 14 = 0) ∨ (¬ anyP P = true ∧ H = 0 ∧ o.1 = 1 ∧ RfS P W F o.2 (gs0 F)) ∨ (¬ anyP P = true ∧ 0 < H ∧ o.1 = 0 ∧ o.2.1 108 14 = 0)) := by
  unfold f_X9_givesByPrice
  have e0 : nI H - nI (sF F 0) = nI H := pk_sub (a := H) (b := 0) (Nat.zero_le H)
  rw [← e0]
  refine lp_inv (F := Nat → Int32 → Int32 → Int32 → Hp → Option (Int32 × Hp)) (bot := fun _ _ _ _ _ => none) (G := f_X9_givesByPrice_5) (fun K i (h : Hp) => K 108 (nI w) (nI H - nI (sF F i)) (nI i) h) 6 (fun i h => RfC h P W F ∧ Po h 109 N ∧ h.1 108 14 = 0 ∧ h.1 108 15 = 0 ∧ ∀ k, k < i → h.1 116 k = nI (F k)) _ ?_ ?_ 1000 0 h (by omega) (by omega) ⟨hE, b, h14, h15, fun k hk => by omega⟩
  · rintro K i h hi ⟨c1, b, c2, c3, hk⟩
    obtain ⟨r1, r2, r3⟩ := c1 i hi
    refine ⟨sI h 116 i (nI (F i)), ⟨fun k hk => ?_, b.keep (sI_row _ _ _ (by decide)), ?_, ?_, fun k hk2 => ?_⟩, ?_⟩
    · rw [sI_row _ _ _ (by decide), sI_row _ _ _ (by decide), sI_row _ _ _ (by decide)]
      exact c1 k hk
    · rw [sI_row _ _ _ (by decide), c2]
    · rw [sI_row _ _ _ (by decide), c3]
    · rw [sI1, if_pos rfl]
      by_cases ek : k = i
      · rw [if_pos ek, ek]
      · rw [if_neg ek]
        exact hk k (by omega)
    · show f_X9_givesByPrice_5 K 108 (nI w) (nI H - nI (sF F i)) (nI i) h = _
      unfold f_X9_givesByPrice_5
      rw [if_neg (ge6 hi), if_pos (ix6 hi), if_pos (ix6 hi), cl6' hi, show h.1 (108 + 7) i = nI (F i) from r3]
      simp only [lt]
      rw [if_pos (ix6 hi), show (sI h (108 + 8) i (nI (F i))).1 (108 + 7) i = nI (F i) by rw [sI_row _ _ _ (by decide)]; exact r3, sub_sub32, nI_1]
      rfl
  · rintro K h ⟨c1, b, c2, c3, hk⟩
    show ∃ o, f_X9_givesByPrice_5 K 108 (nI w) (nI H - nI (sF F 6)) (nI 6) h = some o ∧ _
    unfold f_X9_givesByPrice_5
    rw [if_pos (show (6 : Int32) ≤ nI 6 by decide)]
    have hS : RfS P W F h (gs0 F) := ⟨fun k h6 => ⟨(c1 k h6).1, (c1 k h6).2.1, (c1 k h6).2.2, hk k h6⟩, c2, fun i hi => absurd (show i < 0 from hi) (by omega), c3⟩
    by_cases hF : sF F 6 ≤ H
    · obtain ⟨L, rfl⟩ : ∃ L, H = sF F 6 + L := ⟨H - sF F 6, by omega⟩
      rw [pk_sub (by omega), show sF F 6 + L - sF F 6 = L by omega]
      by_cases hP : anyP P = true
      · refine lp_inv (F := Nat → Int32 → Int32 → Int32 → Hp → Option (Int32 × Hp)) (bot := fun _ _ _ _ _ => none) (G := f_X9_givesByPrice_45) (fun K i (h : Hp) => K 108 (nI w) (nI L) (nI (L - i)) h) L (fun i h => RfS P W F h (rnds N w P W (gs0 F) i) ∧ Po h 109 N) _ ?_ ?_ 1000 0 h (by omega) (by omega) ⟨hS, b⟩
        · rintro K i h hi ⟨q1, q2⟩
          have r := rnds_sum (N := N) (w := w) (W := W) hP (gs0 F) i
          have s0 : sF (gs0 F).s 6 = sF F 6 := rfl
          have c0 : (gs0 F).c = 0 := rfl
          obtain ⟨h', r1, r3⟩ := round9 v hw hP bW q2 q1 (by omega) (by omega) (L := L) (n := L - (i + 1)) (by omega) K
          rw [show L - (i + 1) + 1 = L - i by omega] at r3
          exact ⟨h', r1, r3⟩
        · rintro K h ⟨q1, q2⟩
          show ∃ o, f_X9_givesByPrice_45 K 108 (nI w) (nI L) (nI (L - L)) h = some o ∧ _
          unfold f_X9_givesByPrice_45
          rw [Nat.sub_self, if_pos (show nI 0 ≤ 0 by decide), if_neg (nI_pos (by omega))]
          exact ⟨(1, h), rfl, Or.inl ⟨hP, hF, rfl, q1⟩⟩
      · have z := hF0 hP
        show ∃ o, f_X9_givesByPrice_45 _ 108 (nI w) (nI L) (nI L) h = some o ∧ _
        unfold f_X9_givesByPrice_45
        by_cases hL : L = 0
        · subst hL
          rw [if_pos (show nI 0 ≤ 0 by decide), if_neg (nI_pos (by omega))]
          exact ⟨(1, h), rfl, Or.inr (Or.inr (Or.inl ⟨hP, by omega, rfl, hS⟩))⟩
        · rw [if_neg (nI_nle (by omega) (by omega)), dearest9 b v hw hS.1 bW (fun k h6 => by
            have := sF_le (F := F) h6
            show F k ≤ 299
            omega), bst_no hP]
          exact ⟨(0, h), rfl, Or.inr (Or.inr (Or.inr ⟨hP, by omega, rfl, c2⟩))⟩
    · have hP : anyP P = true := by
        by_cases q : anyP P = true
        · exact q
        · have := hF0 q
          omega
      have neg : nI H - nI (sF F 6) < 0 := pk_sneg (by omega) (by omega)
      show ∃ o, f_X9_givesByPrice_45 _ 108 (nI w) (nI H - nI (sF F 6)) (nI H - nI (sF F 6)) h = some o ∧ _
      unfold f_X9_givesByPrice_45
      rw [if_pos (Int32.le_of_lt neg), if_pos neg]
      exact ⟨(0, h), rfl, Or.inr (Or.inl ⟨hP, by omega, rfl, c2⟩)⟩
/-! by rests -/
def cutN (W : Nat → Nat) (H k : Nat) : Nat := W k * H / sF W 6
def rstN (W : Nat → Nat) (H k : Nat) : Nat := W k * H % sF W 6
def sh0 (W F : Nat → Nat) (H k : Nat) : Nat := if F k < cutN W H k then cutN W H k else F k
def elg (P : Nat → Bool) (W F : Nat → Nat) (H k : Nat) : Bool := P k && decide (F k ≤ cutN W H k)
/-- p is put among the ranked ones, from behind -/
def insA (R : Nat → Nat) (p : Nat) : Nat → (Nat → Nat) → (Nat → Nat)
  | 0, rk => up rk 0 p
  | t + 1, rk => if R (rk t) < R p then insA R p t (up rk (t + 1) (rk t)) else up rk (t + 1) p
def rkS (R : Nat → Nat) (E : Nat → Bool) (k : Nat) (s : (Nat → Nat) × Nat) : (Nat → Nat) × Nat := if E k = true then (insA R k s.2 s.1, s.2 + 1) else s
def rkd (R : Nat → Nat) (E : Nat → Bool) (i : Nat) : (Nat → Nat) × Nat := fu (rkS R E) i (fun _ => 0, 0)
def bef (R : Nat → Nat) (x y : Nat) : Prop := R y < R x ∨ (R x = R y ∧ x < y)
theorem insA_ok {R : Nat → Nat} {p c : Nat} : ∀ (t : Nat) (rk : Nat → Nat), t ≤ c → (∀ i j, i < j → j ≤ c → i ≠ t → j ≠ t → bef R (rk i) (rk j)) → (∀ j, t < j → j ≤ c → R (rk j) < R p) → (∀ j, j ≤ c → j ≠ t → rk j < p) → (∀ i j, i < j → j ≤ c → bef R (insA R p t rk i) (insA R p t rk j)) ∧ (∀ x, (∃ j, j ≤ c ∧ insA R p t rk j = x) ↔ (x = p ∨ ∃ j, j ≤ c ∧ j ≠ t ∧ rk j = x)) := by
  intro t
  induction t with
  | zero =>
    intro rk h1 h2 h3 h4
    show (∀ i j, i < j → j ≤ c → bef R (up rk 0 p i) (up rk 0 p j)) ∧ ∀ x, (∃ j, j ≤ c ∧ up rk 0 p j = x) ↔ _
    refine ⟨fun i j hi hj => ?_, fun x => ⟨?_, ?_⟩⟩
    · rw [up_ne _ _ (show j ≠ 0 by omega)]
      by_cases e : i = 0
      · rw [e, up_self]
        exact Or.inl (h3 j (by omega) hj)
      · rw [up_ne _ _ e]
        exact h2 i j hi hj e (by omega)
    · rintro ⟨j, hj, e⟩
      by_cases q : j = 0
      · rw [q, up_self] at e
        exact Or.inl e.symm
      · rw [up_ne _ _ q] at e
        exact Or.inr ⟨j, hj, q, e⟩
    · rintro (e | ⟨j, hj, q, e⟩)
      · exact ⟨0, by omega, by rw [up_self, e]⟩
      · exact ⟨j, hj, by rw [up_ne _ _ q, e]⟩
  | succ t ih =>
    intro rk h1 h2 h3 h4
    by_cases hr : R (rk t) < R p
    · have e : insA R p (t + 1) rk = insA R p t (up rk (t + 1) (rk t)) := if_pos hr
      rw [e]
      have q := ih (up rk (t + 1) (rk t)) (by omega) (fun i j hi hj n1 n2 => ?_) (fun j h5 h6 => ?_) (fun j h5 h6 => ?_)
      · refine ⟨q.1, fun x => (q.2 x).trans ⟨?_, ?_⟩⟩
        · rintro (e | ⟨j, hj, n, e⟩)
          · exact Or.inl e
          · by_cases ej : j = t + 1
            · rw [ej, up_self] at e
              exact Or.inr ⟨t, by omega, by omega, e⟩
            · rw [up_ne _ _ ej] at e
              exact Or.inr ⟨j, hj, ej, e⟩
        · rintro (e | ⟨j, hj, n, e⟩)
          · exact Or.inl e
          · by_cases ej : j = t
            · rw [ej] at e
              exact Or.inr ⟨t + 1, h1, by omega, by rw [up_self, e]⟩
            · exact Or.inr ⟨j, hj, ej, by rw [up_ne _ _ n, e]⟩
      · by_cases ei : i = t + 1
        · rw [ei, up_self, up_ne _ _ (show j ≠ t + 1 by omega)]
          exact h2 t j (by omega) hj (by omega) (by omega)
        · rw [up_ne _ _ ei]
          by_cases ej : j = t + 1
          · rw [ej, up_self]
            exact h2 i t (by omega) (by omega) (by omega) (by omega)
          · rw [up_ne _ _ ej]
            exact h2 i j hi hj ei ej
      · by_cases ej : j = t + 1
        · rw [ej, up_self]
          exact hr
        · rw [up_ne _ _ ej]
          exact h3 j (by omega) h6
      · by_cases ej : j = t + 1
        · rw [ej, up_self]
          exact h4 t (by omega) (by omega)
        · rw [up_ne _ _ ej]
          exact h4 j h5 ej
    · have e : insA R p (t + 1) rk = up rk (t + 1) p := if_neg hr
      rw [e]
      refine ⟨fun i j hi hj => ?_, fun x => ⟨?_, ?_⟩⟩
      · by_cases ei : i = t + 1
        · rw [ei, up_self, up_ne _ _ (show j ≠ t + 1 by omega)]
          exact Or.inl (h3 j (by omega) hj)
        · rw [up_ne _ _ ei]
          by_cases ej : j = t + 1
          · rw [ej, up_self]
            have l := h4 i (by omega) ei
            have r : R p ≤ R (rk i) := by
              by_cases et : i = t
              · rw [et]
                omega
              · rcases h2 i t (by omega) (by omega) ei (by omega) with z | z
                · omega
                · omega
            rcases Nat.lt_or_ge (R p) (R (rk i)) with z | z
            · exact Or.inl z
            · exact Or.inr ⟨by omega, l⟩
          · rw [up_ne _ _ ej]
            exact h2 i j hi hj ei ej
      · rintro ⟨j, hj, e⟩
        by_cases q : j = t + 1
        · rw [q, up_self] at e
          exact Or.inl e.symm
        · rw [up_ne _ _ q] at e
          exact Or.inr ⟨j, hj, q, e⟩
      · rintro (e | ⟨j, hj, q, e⟩)
        · exact ⟨t + 1, h1, by rw [up_self, e]⟩
        · exact ⟨j, hj, by rw [up_ne _ _ q, e]⟩
/-- ranked: in order, those that may, and they alone -/
theorem rkd_ok (R : Nat → Nat) (E : Nat → Bool) : ∀ i, (rkd R E i).2 ≤ i ∧ (∀ t u, t < u → u < (rkd R E i).2 → bef R ((rkd R E i).1 t) ((rkd R E i).1 u)) ∧ ∀ x, (∃ t, t < (rkd R E i).2 ∧ (rkd R E i).1 t = x) ↔ (x < i ∧ E x = true) := by
  intro i
  induction i with
  | zero => exact ⟨Nat.le_refl _, fun t u _ h => absurd h (Nat.not_lt_zero _), fun x => ⟨fun ⟨t, h, _⟩ => absurd h (Nat.not_lt_zero _), fun h => absurd h.1 (Nat.not_lt_zero _)⟩⟩
  | succ i ih =>
    have e : rkd R E (i + 1) = rkS R E i (rkd R E i) := rfl
    rw [e]
    generalize rkd R E i = s at ih ⊢
    obtain ⟨rk, c⟩ := s
    dsimp only at ih
    obtain ⟨i1, i2, i3⟩ := ih
    unfold rkS
    by_cases hE : E i = true
    · rw [if_pos hE]
      dsimp only
      have lt : ∀ t, t < c → rk t < i := fun t ht => ((i3 (rk t)).mp ⟨t, ht, rfl⟩).1
      have q := insA_ok (R := R) (p := i) (c := c) c rk (Nat.le_refl _) (fun a b h1 h2 h3 h4 => i2 a b h1 (by omega)) (fun j h1 h2 => by omega) (fun j h1 h2 => lt j (by omega))
      refine ⟨by omega, fun t u h1 h2 => q.1 t u h1 (by omega), fun x => ⟨?_, ?_⟩⟩
      · rintro ⟨t, ht, e⟩
        rcases (q.2 x).mp ⟨t, by omega, e⟩ with z | ⟨j, hj, hn, z⟩
        · rw [z]
          exact ⟨by omega, hE⟩
        · have := (i3 x).mp ⟨j, by omega, z⟩
          exact ⟨by omega, this.2⟩
      · rintro ⟨h1, h2⟩
        by_cases ex : x = i
        · obtain ⟨j, hj, z⟩ := (q.2 x).mpr (Or.inl ex)
          exact ⟨j, by omega, z⟩
        · obtain ⟨t, ht, z⟩ := (i3 x).mpr ⟨by omega, h2⟩
          obtain ⟨j, hj, z⟩ := (q.2 x).mpr (Or.inr ⟨t, by omega, by omega, z⟩)
          exact ⟨j, by omega, z⟩
    · rw [if_neg hE]
      dsimp only
      refine ⟨by omega, i2, fun x => (i3 x).trans ⟨fun h => ⟨by omega, h.2⟩, fun h => ⟨?_, h.2⟩⟩⟩
      rcases Nat.lt_or_ge x i with z | z
      · exact z
      · have : x = i := by omega
        rw [this] at h
        exact absurd h.2 hE
/-- seats given to the ranked ones in turn -/
def shN (rk : Nat → Nat) (c : Nat) (s : Nat → Nat) : Nat → (Nat → Nat)
  | 0 => s
  | n + 1 => up (shN rk c s n) (rk (n % c)) (shN rk c s n (rk (n % c)) + 1)
/-- the greatest of those that may: the least of several -/
theorem bst_max {P : Nat → Bool} {R : Nat → Nat} : ∀ {i j}, fu (bstS P (fun k j => sgn (R k) (R j))) i none = some j → ∀ k, k < i → P k = true → R k ≤ R j ∧ (k < j → R k < R j) := by
  intro i
  induction i with
  | zero => intro j h; cases h
  | succ i ih =>
    intro j h k hk hp
    have h : bstS P (fun k j => sgn (R k) (R j)) i (fu (bstS P (fun k j => sgn (R k) (R j))) i none) = some j := h
    generalize e : fu (bstS P (fun k j => sgn (R k) (R j))) i none = bb at h ih
    unfold bstS at h
    by_cases hpi : P i = true
    · rw [if_pos hpi] at h
      cases bb with
      | none =>
        cases h
        have z := bst_none e
        by_cases ek : k = i
        · rw [ek]
          omega
        · rw [z k (by omega)] at hp
          cases hp
      | some m =>
        dsimp only at h
        have hm := (bst_some e).1
        by_cases h1 : sgn (R i) (R m) ≤ 0
        · rw [if_pos h1] at h
          cases h
          by_cases ek : k = i
          · rw [ek]
            have := (sgn_cases (R i) (R j)).2.2.mp h1
            omega
          · exact ih rfl k (by omega) hp
        · rw [if_neg h1] at h
          cases h
          have q : R m < R i := by
            rcases Nat.lt_or_ge (R m) (R i) with z | z
            · exact z
            · exact absurd ((sgn_cases (R i) (R m)).2.2.mpr (by omega)) h1
          by_cases ek : k = i
          · rw [ek]
            omega
          · have := ih rfl k (by omega) hp
            omega
    · rw [if_neg hpi] at h
      by_cases ek : k = i
      · rw [ek] at hp
        exact absurd hp hpi
      · exact ih h k (by omega) hp
def pas (rk : Nat → Nat) : Nat → Nat → Bool
  | 0, _ => false
  | m + 1, k => pas rk m k || decide (rk m = k)
theorem pas_iff (rk : Nat → Nat) (k : Nat) : ∀ m, pas rk m k = true ↔ ∃ t, t < m ∧ rk t = k := by
  intro m
  induction m with
  | zero => exact ⟨fun h => absurd (show false = true from h) (by decide), fun h => absurd h (by rintro ⟨t, h, _⟩; exact Nat.not_lt_zero _ h)⟩
  | succ m ih =>
    show (pas rk m k || decide (rk m = k)) = true ↔ _
    rw [Bool.or_eq_true, ih, decide_eq_true_eq]
    constructor
    · rintro (⟨t, h1, h2⟩ | h)
      · exact ⟨t, by omega, h2⟩
      · exact ⟨m, by omega, h⟩
    · rintro ⟨t, h1, h2⟩
      by_cases e : t = m
      · rw [e] at h2
        exact Or.inr h2
      · exact Or.inl ⟨t, by omega, h2⟩
theorem great_rk {R : Nat → Nat} {E : Nat → Bool} {m : Nat} (hm : m < (rkd R E 6).2) : fu (bstS (fun k => E k && !pas (rkd R E 6).1 m k) (fun k j => sgn (R k) (R j))) 6 none = some ((rkd R E 6).1 m) := by
  obtain ⟨o1, o2, o3⟩ := rkd_ok R E 6
  generalize rkd R E 6 = s at hm o1 o2 o3 ⊢
  obtain ⟨rk, c⟩ := s
  dsimp only at hm o1 o2 o3 ⊢
  have hx := (o3 (rk m)).mp ⟨m, hm, rfl⟩
  have irr : ∀ x, ¬ bef R x x := fun x z => by unfold bef at z; omega
  have np : pas rk m (rk m) = false := by
    rw [← Bool.not_eq_true, pas_iff]
    rintro ⟨t, h1, h2⟩
    have := o2 t m h1 hm
    rw [h2] at this
    exact irr _ this
  have hpm : (E (rk m) && !pas rk m (rk m)) = true := by rw [hx.2, np]; rfl
  cases e : fu (bstS (fun k => E k && !pas rk m k) (fun k j => sgn (R k) (R j))) 6 none with
  | none =>
    have : (E (rk m) && !pas rk m (rk m)) = false := bst_none e (rk m) hx.1
    rw [hpm] at this
    cases this
  | some j =>
    have hj := bst_some e
    have hmax := bst_max e (rk m) hx.1 hpm
    have hj2 : (E j && !pas rk m j) = true := hj.2
    rw [Bool.and_eq_true] at hj2
    obtain ⟨t, ht, et⟩ := (o3 j).mpr ⟨hj.1, hj2.1⟩
    have : ¬ t < m := fun z => by
      have q := (pas_iff rk j m).mpr ⟨t, z, et⟩
      rw [q] at hj2
      cases hj2.2
    by_cases em : t = m
    · rw [← em, et]
    · exfalso
      have q := o2 m t (by omega) ht
      rw [et] at q
      unfold bef at q
      omega
