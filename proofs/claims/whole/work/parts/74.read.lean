theorem ff_sp {c : Nat → Bool} : ∀ {m s i : Nat}, ff c m s = some i → c i = true ∧ ∀ j, s ≤ j → j < i → c j = false := by
  intro m
  induction m with
  | zero => intro s i h; cases h
  | succ m ih =>
    intro s i h
    have h : (if c s = true then some s else ff c m (s + 1)) = some i := h
    by_cases e : c s = true
    · rw [if_pos e] at h
      cases h
      exact ⟨e, fun j h1 h2 => by omega⟩
    · rw [if_neg e] at h
      obtain ⟨q1, q2⟩ := ih h
      refine ⟨q1, fun j h1 h2 => ?_⟩
      by_cases ej : j = s
      · rw [ej]
        simpa using e
      · exact q2 j (by omega) h2
theorem ff_no {c : Nat → Bool} : ∀ {m s : Nat}, ff c m s = none → ∀ j, s ≤ j → j < s + m → c j = false := by
  intro m
  induction m with
  | zero => intro s h j h1 h2; omega
  | succ m ih =>
    intro s h j h1 h2
    have h : (if c s = true then some s else ff c m (s + 1)) = none := h
    by_cases e : c s = true
    · rw [if_pos e] at h
      cases h
    · rw [if_neg e] at h
      by_cases ej : j = s
      · rw [ej]
        simpa using e
      · exact ih h j (by omega) (by omega)
/-! reading -/
def isFg (x : Int32) : Bool := !decide (x < 48) && !decide (57 < x)
def cnt (T : Nat → Int32) (t a : Nat) : Nat := (ff (fun c => !(decide (a + c < t) && isFg (T (a + c)))) 6 0).getD 6
theorem cnt_ok (T : Nat → Int32) (t a : Nat) : cnt T t a ≤ 6 ∧ ∀ j, j < cnt T t a → a + j < t ∧ isFg (T (a + j)) = true := by
  unfold cnt
  cases h : ff (fun c => !(decide (a + c < t) && isFg (T (a + c)))) 6 0 with
  | none =>
    refine ⟨Nat.le_refl 6, fun j hj => ?_⟩
    have := ff_no h j (Nat.zero_le j) (by have : j < 6 := hj; omega)
    simpa using this
  | some c =>
    have h1 := ff_lt h
    refine ⟨by show c ≤ 6; omega, fun j hj => ?_⟩
    have := (ff_sp h).2 j (Nat.zero_le j) hj
    simpa using this
theorem cnt_is {T : Nat → Int32} {t a i : Nat} (hi : i ≤ 6) (h1 : ∀ j, 0 ≤ j → j < i → (!(decide (a + j < t) && isFg (T (a + j)))) = false) (h2 : i < 6 → (!(decide (a + i < t) && isFg (T (a + i)))) = true) : cnt T t a = i := by
  unfold cnt
  by_cases e : i = 6
  · rw [ff_none (fun j h3 h4 => h1 j h3 (by omega)), e]
    rfl
  · rw [ff_some (c := fun c => !(decide (a + c < t) && isFg (T (a + c)))) (Nat.zero_le i) (by omega) h1 (h2 (by omega))]
    rfl
def dgt (x : Int32) : Nat := x.toNatClampNeg - 48
theorem isFg_d {x : Int32} (h : isFg x = true) : ∃ d, d ≤ 9 ∧ x = nI (48 + d) ∧ dgt x = d := by
  unfold isFg at h
  rw [Bool.and_eq_true] at h
  simp at h
  rcases rng x 57 (by decide) with ⟨j, hj, rfl⟩ | o
  · have h1 : 48 ≤ j := by
      have := h.1
      rw [show (48 : Int32) = nI 48 from rfl, nI_leI (by omega) (by omega)] at this
      exact this
    exact ⟨j - 48, by omega, by rw [show 48 + (j - 48) = j by omega], by unfold dgt; rw [nI_clamp (by omega)]⟩
  · rcases o with o | o
    · exact absurd (Int32.lt_of_lt_of_le o (show (0 : Int32) ≤ 48 by decide)) (Int32.not_lt.mpr h.1)
    · exact absurd o (Int32.not_lt.mpr h.2)
def vlu (T : Nat → Int32) (a : Nat) : Nat → Nat
  | 0 => 0
  | i + 1 => vlu T a i * 10 + dgt (T (a + i))
theorem vlu_lt {T : Nat → Int32} {a : Nat} : ∀ i, (∀ j, j < i → isFg (T (a + j)) = true) → vlu T a i < 10 ^ i := by
  intro i
  induction i with
  | zero => intro _; exact Nat.one_pos
  | succ i ih =>
    intro h
    have q := ih (fun j hj => h j (by omega))
    obtain ⟨d, d1, d2, d3⟩ := isFg_d (h i (by omega))
    show vlu T a i * 10 + dgt (T (a + i)) < 10 ^ (i + 1)
    rw [d3, Nat.pow_succ]
    omega
theorem vlu_6 {T : Nat → Int32} {a : Nat} {i : Nat} (hi : i ≤ 6) (h : ∀ j, j < i → isFg (T (a + j)) = true) : vlu T a i < 1000000 := by
  have q := vlu_lt i h
  have : (10 : Nat) ^ i ≤ 10 ^ 6 := Nat.pow_le_pow_right (by decide) hi
  omega
theorem vstep {v d : Nat} : nI v * 10 + nI (48 + d) - 48 = nI (v * 10 + d) ∧ 10 * nI v + nI (48 + d) - 48 = nI (v * 10 + d) := by
  have e : nI (v * 10) + nI (48 + d) - nI 48 = nI (v * 10 + d) := by
    rw [nI_add, pk_sub (by omega), show v * 10 + (48 + d) - 48 = v * 10 + d by omega]
  refine ⟨?_, ?_⟩
  · rw [show (10 : Int32) = nI 10 from rfl, pk_mul, show (48 : Int32) = nI 48 from rfl]
    exact e
  · rw [show (10 : Int32) = nI 10 from rfl, pk_mul, Nat.mul_comm 10, show (48 : Int32) = nI 48 from rfl]
    exact e
def Tp8 (h : Hp) (T : Nat → Int32) (t : Nat) : Prop := h.1 96 1 = nI t ∧ ∀ i, i < t → h.1 97 i = T i
def Tp9 (h : Hp) (T : Nat → Int32) (t : Nat) : Prop := h.1 108 6 = nI t ∧ ∀ i, i < t → h.1 111 i = T i
theorem isF8 (x : Int32) (h : Hp) : f_X7_isFigure x h = some (if isFg x = true then 1 else 0, h) := by
  unfold f_X7_isFigure isFg
  by_cases h1 : x < 48
  · rw [if_pos h1, if_pos isB0, decide_eq_true h1]
    rfl
  · rw [if_neg h1, decide_eq_false h1]
    by_cases h2 : 57 < x
    · rw [if_pos h2, if_pos isB0, decide_eq_true h2]
      rfl
    · rw [if_neg h2, if_pos isB1, decide_eq_false h2]
      rfl
theorem figs8 {h : Hp} {T : Nat → Int32} {t a : Nat} (p : Tp8 h T t) (ht : t ≤ 120) (ha : a ≤ t) : f_X7_figuresAt 96 (nI a) h = some (nI (cnt T t a), h) := by
  have key : ∃ b, f_X7_figuresAt 96 (nI a) h = some b ∧ b = (nI (cnt T t a), h) := by
    unfold f_X7_figuresAt
    refine lp_invE (F := Nat → Int32 → Int32 → Hp → Option (Int32 × Hp)) (bot := fun _ _ _ _ => none) (G := f_X7_figuresAt_2) (fun K i (_ : Unit) => K 96 (nI a) (nI i) h) 6 (fun i _ => ∀ j, 0 ≤ j → j < i → (!(decide (a + j < t) && isFg (T (a + j)))) = false) _ ?_ ?_ 1000 0 () (by omega) (by omega) (fun j _ hj => absurd hj (Nat.not_lt_zero j))
    · intro K i _ hi hI
      show (∃ s', _ ∧ f_X7_figuresAt_2 K 96 (nI a) (nI i) h = _) ∨ ∃ b, f_X7_figuresAt_2 K 96 (nI a) (nI i) h = some b ∧ _
      unfold f_X7_figuresAt_2
      rw [if_neg (ge6 hi), p.1, nI_add]
      by_cases h1 : a + i < t
      · rw [if_neg (nI_ge h1 (by omega)), if_pos (ix_nI (by omega) (by decide)), nI_clamp (by omega), show h.1 (96 + 1) (a + i) = _ from p.2 _ h1, isF8]
        simp only [Option.bind_some]
        by_cases h2 : isFg (T (a + i)) = true
        · left
          rw [if_pos h2, if_neg one_ne]
          refine ⟨(), fun j h3 h4 => ?_, by simp only [lt, nI_1]⟩
          by_cases ej : j = i
          · rw [ej]
            simp [h1, h2]
          · exact hI j h3 (by omega)
        · right
          rw [if_neg h2, if_pos rfl]
          exact ⟨_, rfl, by rw [cnt_is (by omega) hI (fun _ => by simp [h2])]⟩
      · right
        rw [if_pos (nI_le (by omega) (by omega))]
        exact ⟨_, rfl, by rw [cnt_is (by omega) hI (fun _ => by simp [h1])]⟩
    · intro K _ hI
      show ∃ b, f_X7_figuresAt_2 K 96 (nI a) (nI 6) h = some b ∧ _
      unfold f_X7_figuresAt_2
      rw [if_pos (show (6 : Int32) ≤ nI 6 by decide)]
      exact ⟨_, rfl, by rw [cnt_is (Nat.le_refl 6) hI (fun z => by omega)]⟩
  obtain ⟨b, e, rfl⟩ := key
  exact e
theorem value8 {h : Hp} {T : Nat → Int32} {t a c : Nat} (p : Tp8 h T t) (ht : t ≤ 120) (hc : c ≤ 6) (hf : ∀ j, j < c → a + j < t ∧ isFg (T (a + j)) = true) (ha : a ≤ t) : f_X7_valueOf 96 (nI a) (nI c) h = some (nI (vlu T a c), h) := by
  have key : ∃ b, f_X7_valueOf 96 (nI a) (nI c) h = some b ∧ b = (nI (vlu T a c), h) := by
    unfold f_X7_valueOf
    refine lp_inv (F := Nat → Int32 → Int32 → Int32 → Int32 → Hp → Option (Int32 × Hp)) (bot := fun _ _ _ _ _ _ => none) (G := f_X7_valueOf_5) (fun K i (x : Nat) => K 96 (nI a) (nI c) (nI x) (nI i) h) (a + c) (fun i x => a ≤ i ∧ x = vlu T a (i - a)) _ ?_ ?_ 1000 a 0 (by omega) (by omega) ⟨Nat.le_refl a, by rw [Nat.sub_self]; rfl⟩
    · rintro K i x hi ⟨hai, rfl⟩
      obtain ⟨k, rfl⟩ : ∃ k, i = a + k := ⟨i - a, by omega⟩
      obtain ⟨f1, f2⟩ := hf k (by omega)
      obtain ⟨d, d1, d2, d3⟩ := isFg_d f2
      refine ⟨vlu T a k * 10 + d, ⟨by omega, ?_⟩, ?_⟩
      · rw [show a + k + 1 - a = k + 1 by omega]
        show _ = vlu T a k * 10 + dgt (T (a + k))
        rw [d3]
      · show f_X7_valueOf_5 K 96 (nI a) (nI c) (nI (vlu T a (a + k - a))) (nI (a + k)) h = _
        rw [show a + k - a = k by omega]
        unfold f_X7_valueOf_5
        rw [nI_add, if_neg (nI_ge hi (by omega)), if_pos (ix_nI (by omega) (by decide)), nI_clamp (by omega), show h.1 (96 + 1) (a + k) = _ from p.2 _ f1, d2, (vstep (v := vlu T a k) (d := d)).1]
        simp only [lt, nI_1]
    · rintro K x ⟨hai, rfl⟩
      show ∃ b, f_X7_valueOf_5 K 96 (nI a) (nI c) (nI (vlu T a (a + c - a))) (nI (a + c)) h = some b ∧ _
      unfold f_X7_valueOf_5
      rw [nI_add, if_pos (nI_le (Nat.le_refl _) (by omega)), show a + c - a = c by omega]
      exact ⟨_, rfl, rfl⟩
  obtain ⟨b, e, rfl⟩ := key
  exact e
def upD (D : Nat → Option Nat) (k v : Nat) : Nat → Option Nat := fun i => if i = k then some v else D i
/-- a text read: what is answered, and what is told -/
def rdS (T : Nat → Int32) (t : Nat) : Nat → Nat → Nat → Nat → Nat → (Nat → Option Nat) → Int32 × (Nat → Option Nat)
  | 0, _, _, _, _, D => (0, D)
  | m + 1, wd, pt, a, n, D =>
    if cnt T t a = 0 ∨ 100000 < vlu T a (cnt T t a) then (-100 - nI a, D)
    else if a + cnt T t a = t then (nI (n + 1), upD D (6 * wd + pt) (vlu T a (cnt T t a)))
    else if T (a + cnt T t a) = 44 ∧ pt < 5 then rdS T t m wd (pt + 1) (a + cnt T t a + 1) (n + 1) (upD D (6 * wd + pt) (vlu T a (cnt T t a)))
    else if T (a + cnt T t a) = 47 then (if wd < 3 then rdS T t m (wd + 1) 0 (a + cnt T t a + 1) (n + 1) (upD D (6 * wd + pt) (vlu T a (cnt T t a))) else (-100 - nI (a + cnt T t a + 1), upD D (6 * wd + pt) (vlu T a (cnt T t a))))
    else (-100 - nI (a + cnt T t a), upD D (6 * wd + pt) (vlu T a (cnt T t a)))
def Dok (D : Nat → Option Nat) : Prop := ∀ k v, D k = some v → k < 24 ∧ v ≤ 100000
theorem Dok_up {D : Nat → Option Nat} (h : Dok D) {k v : Nat} (hk : k < 24) (hv : v ≤ 100000) : Dok (upD D k v) := fun i u e => by
  unfold upD at e
  by_cases q : i = k
  · rw [if_pos q] at e
    cases e
    exact ⟨by omega, hv⟩
  · rw [if_neg q] at e
    exact h i u e
theorem neg100 {k : Nat} (h : k < 1000) : (-100 : Int32) - nI k < 0 := by
  rw [Int32.lt_iff_toInt_lt, show (-100 : Int32) - nI k = -(nI 100 + nI k) from by
    apply Int32.toBitVec_inj.mp
    simp only [Int32.toBitVec_sub, Int32.toBitVec_neg, Int32.toBitVec_add]
    rw [show (nI 100).toBitVec = 100 from rfl, show (100 : Int32).toBitVec = 100 from rfl]
    bv_omega, nI_add]
  have e : -nI (100 + k) = 0 - nI (100 + k) := by
    apply Int32.toBitVec_inj.mp
    simp only [Int32.toBitVec_sub, Int32.toBitVec_neg]
    rw [show (0 : Int32).toBitVec = 0 from rfl]
    bv_omega
  rw [e]
  have := pk_sub_toInt (a := 0) (b := 100 + k) (by decide) (by omega)
  rw [show (nI 0) = (0 : Int32) from rfl] at this
  rw [this]
  show (0 : Int) - ((100 + k : Nat) : Int) < 0
  omega
theorem rdS_ok {T : Nat → Int32} {t : Nat} (ht : t ≤ 120) : ∀ m wd pt a n D, 24 ≤ 6 * wd + pt + m → wd < 4 → pt < 6 → a ≤ t → n ≤ 6 * wd + pt → Dok D → Dok (rdS T t m wd pt a n D).2 ∧ ((rdS T t m wd pt a n D).1 < 0 ∨ ∃ c, 1 ≤ c ∧ c ≤ 24 ∧ (rdS T t m wd pt a n D).1 = nI c ∧ ∃ k, k < 24 ∧ (rdS T t m wd pt a n D).2 k ≠ none) := by
  intro m
  induction m with
  | zero => intro wd pt a n D h1 h2 h3; omega
  | succ m ih =>
    intro wd pt a n D h1 h2 h3 h4 h5 h6
    obtain ⟨c1, c2⟩ := cnt_ok T t a
    have hv := vlu_6 c1 (fun j hj => (c2 j hj).2)
    have hat : a + cnt T t a ≤ t := by
      by_cases z : cnt T t a = 0
      · omega
      · have := (c2 (cnt T t a - 1) (by omega)).1
        omega
    unfold rdS
    by_cases g1 : cnt T t a = 0 ∨ 100000 < vlu T a (cnt T t a)
    · rw [if_pos g1]
      exact ⟨h6, Or.inl (neg100 (by omega))⟩
    · rw [if_neg g1]
      have d1 := Dok_up h6 (k := 6 * wd + pt) (v := vlu T a (cnt T t a)) (by omega) (by omega)
      by_cases g2 : a + cnt T t a = t
      · rw [if_pos g2]
        refine ⟨d1, Or.inr ⟨n + 1, by omega, by omega, rfl, 6 * wd + pt, by omega, ?_⟩⟩
        show upD D (6 * wd + pt) _ (6 * wd + pt) ≠ none
        unfold upD
        rw [if_pos rfl]
        exact fun z => by cases z
      · rw [if_neg g2]
        by_cases g3 : T (a + cnt T t a) = 44 ∧ pt < 5
        · rw [if_pos g3]
          exact ih wd (pt + 1) _ (n + 1) _ (by omega) h2 (by omega) (by omega) (by omega) d1
        · rw [if_neg g3]
          by_cases g4 : T (a + cnt T t a) = 47
          · rw [if_pos g4]
            by_cases g5 : wd < 3
            · rw [if_pos g5]
              exact ih (wd + 1) 0 _ (n + 1) _ (by omega) (by omega) (by omega) (by omega) (by omega) d1
            · rw [if_neg g5]
              exact ⟨d1, Or.inl (neg100 (by omega))⟩
          · rw [if_neg g4]
            exact ⟨d1, Or.inl (neg100 (by omega))⟩
def ovl (N : Nat → Nat) (D : Nat → Option Nat) : Nat → Nat := fun k => (D k).getD (N k)
theorem ovl_up (N : Nat → Nat) (D : Nat → Option Nat) (k v : Nat) : ovl N (upD D k v) = up (ovl N D) k v := funext fun i => by
  unfold ovl upD up
  by_cases e : i = k
  · rw [if_pos e, if_pos e]
    rfl
  · rw [if_neg e, if_neg e]
theorem ne44 : ¬ (44 : Int32) = 47 := by decide
theorem parse8 {N : Nat → Nat} {T : Nat → Int32} {t : Nat} (ht : t ≤ 120) : ∀ m n wd pt a c D h, m < n → 24 ≤ 6 * wd + pt + m → wd < 4 → pt < 6 → a ≤ t → c ≤ 6 * wd + pt → Tp8 h T t → Pc h 11 (ovl N D) → ∃ b, lp (F := Nat → Nat → Int32 → Int32 → Int32 → Int32 → Hp → Option (Int32 × Hp)) (fun _ _ _ _ _ _ _ => none) f_X7_parse_17 n 96 11 (nI wd) (nI pt) (nI a) (nI (c + 1)) h = some b ∧ b.1 = (rdS T t m wd pt a c D).1 ∧ Pc b.2 11 (ovl N (rdS T t m wd pt a c D).2) := by
  intro m
  induction m with
  | zero => intro n wd pt a c D h h0 h1 h2 h3; omega
  | succ m ih =>
    intro n wd pt a c D h h0 h1 h2 h3 h4 h5 p8 pc
    obtain ⟨n, rfl⟩ : ∃ k, n = k + 1 := ⟨n - 1, by omega⟩
    obtain ⟨c1, c2⟩ := cnt_ok T t a
    have hv := vlu_6 c1 (fun j hj => (c2 j hj).2)
    have hat : a + cnt T t a ≤ t := by
      by_cases z : cnt T t a = 0
      · omega
      · have := (c2 (cnt T t a - 1) (by omega)).1
        omega
    show ∃ b, f_X7_parse_17 (lp (F := Nat → Nat → Int32 → Int32 → Int32 → Int32 → Hp → Option (Int32 × Hp)) (fun _ _ _ _ _ _ _ => none) f_X7_parse_17 n) 96 11 (nI wd) (nI pt) (nI a) (nI (c + 1)) h = some b ∧ _
    have ih2 := fun wd pt a c D h => ih n wd pt a c D h (by omega)
    generalize lp (F := Nat → Nat → Int32 → Int32 → Int32 → Int32 → Hp → Option (Int32 × Hp)) (fun _ _ _ _ _ _ _ => none) f_X7_parse_17 n = K at ih2
    unfold rdS f_X7_parse_17
    rw [if_neg (show ¬ (24 : Int32) < nI (c + 1) from nI_nlt (a := 24) (by omega) (by decide)), figs8 p8 ht h4]
    simp only [Option.bind_some]
    rw [value8 p8 ht c1 c2 h4]
    simp only [Option.bind_some]
    by_cases g1 : cnt T t a = 0 ∨ 100000 < vlu T a (cnt T t a)
    · rw [if_pos g1]
      refine ⟨(-100 - nI a, h), ?_, rfl, pc⟩
      unfold f_X7_parse_54
      by_cases g0 : cnt T t a = 0
      · rw [if_pos (by rw [g0]; rfl)]
      · rw [if_neg (nI_ne0 (by omega) (by omega)), if_neg (show ¬ nI (vlu T a (cnt T t a)) ≤ 100000 from nI_ge (a := 100000) (by omega) (by omega))]
    · rw [if_neg g1, if_neg (nI_ne0 (by omega) (by omega)), if_pos (show nI (vlu T a (cnt T t a)) ≤ 100000 from nI_le (b := 100000) (by omega) (by decide)), cell8]
      simp only [Option.bind_some, show wd * 6 + pt = 6 * wd + pt by omega, ix_nI (show 6 * wd + pt < 24 by omega) (by decide : 24 < 2 ^ 31), if_true, lt, nI_clamp (show 6 * wd + pt < 2 ^ 31 by omega), nI_add, show 11 + 1 = 12 from rfl]
      have pc2 : Pc (sI h 12 (6 * wd + pt) (nI (vlu T a (cnt T t a)))) 11 (ovl N (upD D (6 * wd + pt) (vlu T a (cnt T t a)))) := by
        rw [ovl_up]
        exact setW (by omega) pc
      have p82 : Tp8 (sI h 12 (6 * wd + pt) (nI (vlu T a (cnt T t a)))) T t := ⟨by rw [sI_row _ _ _ (by decide)]; exact p8.1, fun i hi => by rw [sI_row _ _ _ (by decide)]; exact p8.2 i hi⟩
      generalize sI h 12 (6 * wd + pt) (nI (vlu T a (cnt T t a))) = h2 at pc2 p82
      rw [p82.1]
      by_cases g2 : a + cnt T t a = t
      · rw [if_pos g2, if_neg (nI_nlt (by omega) (by omega))]
        exact ⟨_, rfl, rfl, pc2⟩
      · rw [if_neg g2, if_pos (nI_lt (by omega) (by omega)), if_pos (ix_nI (by omega) (by decide)), nI_clamp (by omega), show h2.1 (96 + 1) (a + cnt T t a) = _ from p82.2 _ (by omega)]
        have e117 : ¬ (T (a + cnt T t a) = 44 ∧ pt < 5) → ∃ b, f_X7_parse_117 K 96 11 (nI wd) (nI (a + cnt T t a)) (nI (c + 1)) h2 = some b ∧ b.1 = (if T (a + cnt T t a) = 47 then (if wd < 3 then rdS T t m (wd + 1) 0 (a + cnt T t a + 1) (c + 1) (upD D (6 * wd + pt) (vlu T a (cnt T t a))) else (-100 - nI (a + cnt T t a + 1), upD D (6 * wd + pt) (vlu T a (cnt T t a)))) else (-100 - nI (a + cnt T t a), upD D (6 * wd + pt) (vlu T a (cnt T t a)))).1 ∧ Pc b.2 11 (ovl N (if T (a + cnt T t a) = 47 then (if wd < 3 then rdS T t m (wd + 1) 0 (a + cnt T t a + 1) (c + 1) (upD D (6 * wd + pt) (vlu T a (cnt T t a))) else (-100 - nI (a + cnt T t a + 1), upD D (6 * wd + pt) (vlu T a (cnt T t a)))) else (-100 - nI (a + cnt T t a), upD D (6 * wd + pt) (vlu T a (cnt T t a)))).2) := fun g3 => by
          have e144 : f_X7_parse_144 96 (nI (a + cnt T t a)) h2 = some (-100 - nI (if T (a + cnt T t a) = 47 then a + cnt T t a + 1 else a + cnt T t a), h2) := by
            unfold f_X7_parse_144 f_X7_parse_167
            rw [if_pos (ix_nI (by omega) (by decide)), nI_clamp (by omega), show h2.1 (96 + 1) (a + cnt T t a) = _ from p82.2 _ (by omega), nI_1]
            by_cases g4 : T (a + cnt T t a) = 47
            · rw [if_pos g4, if_pos g4]
            · rw [if_neg g4, if_neg g4]
          unfold f_X7_parse_117 f_X7_parse_169
          rw [if_pos (ix_nI (by omega) (by decide)), nI_clamp (by omega), show h2.1 (96 + 1) (a + cnt T t a) = _ from p82.2 _ (by omega), e144]
          simp only [lt, nI_1]
          by_cases g4 : T (a + cnt T t a) = 47
          · rw [if_pos g4, if_pos g4, if_pos g4]
            by_cases g5 : wd < 3
            · rw [if_neg (show ¬ (3 : Int32) ≤ nI wd from nI_ge (b := 3) g5 (by decide)), if_pos g5]
              exact ih2 (wd + 1) 0 (a + cnt T t a + 1) (c + 1) _ h2 (by omega) (by omega) (by omega) (by omega) (by omega) p82 pc2
            · rw [if_pos (show (3 : Int32) ≤ nI wd from nI_le (a := 3) (by omega) (by omega)), if_neg g5]
              exact ⟨_, rfl, rfl, pc2⟩
          · rw [if_neg g4, if_neg g4, if_neg g4]
            exact ⟨_, rfl, rfl, pc2⟩
        by_cases g44 : T (a + cnt T t a) = 44
        · rw [if_pos g44]
          by_cases g5 : pt < 5
          · rw [if_neg (show ¬ (5 : Int32) ≤ nI pt from nI_ge (b := 5) g5 (by decide)), if_pos ⟨g44, g5⟩]
            unfold f_X7_parse_169
            simp only [nI_1]
            exact ih2 wd (pt + 1) (a + cnt T t a + 1) (c + 1) _ h2 (by omega) (by omega) (by omega) (by omega) (by omega) p82 pc2
          · rw [if_pos (show (5 : Int32) ≤ nI pt from nI_le (a := 5) (by omega) (by omega)), if_neg (fun z => g5 z.2)]
            exact e117 (fun z => g5 z.2)
        · rw [if_neg g44, if_neg (fun z => g44 z.1)]
          exact e117 (fun z => g44 z.1)
