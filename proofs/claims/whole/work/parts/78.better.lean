/-- the class's rings, laid out over seats s: what does not change while rings are picked -/
def Rg (N s : Nat → Nat) (h : Hp) : Prop := (∀ c, c < 24 → h.1 63 c = nI (s c) ∧ h.1 64 c = nI (N c) ∧ h.2 65 c = lN (mrk N (N 41) (s c + 1)) ∧ (1 ≤ s c → h.2 66 c = lN (mrk N (N 41) (s c)))) ∧ h.2 58 11 = lN (blw N (N 41) 1)
/-- a picked ring of the class, up to j -/
def Rk (k : Nat) (rw' rp : Nat → Nat) (j : Nat) (h : Hp) : Prop := h.1 58 2 = nI k ∧ (∀ i, i < k → h.1 59 i = nI (rw' i)) ∧ ∀ i, i < j → h.1 60 i = nI (rp i) ∧ h.1 61 i = nI (gC rw' rp i) ∧ h.1 62 i = nI (lC k rw' rp i)
/-- bounds of a ring -/
def Rb (s : Nat → Nat) (k : Nat) (rw' rp : Nat → Nat) (j : Nat) : Prop := (∀ i, i < k → rw' i < 4) ∧ (∀ i, i < j → rp i < 6) ∧ ∀ i, i < j → 1 ≤ s (lC k rw' rp i)
theorem ix4 {i : Nat} (h : i < 4) : ix (nI i) 4 = true := ix_nI h (by decide)
theorem ix24 {i : Nat} (h : i < 24) : ix (nI i) 24 = true := ix_nI h (by decide)
theorem gC_lt {s : Nat → Nat} {k j : Nat} {rw' rp : Nat → Nat} (b : Rb s k rw' rp j) {i : Nat} (hi : i < j) (hk : i < k) : gC rw' rp i < 24 := by
  have := b.1 i hk
  have := b.2.1 i hi
  unfold gC
  omega
theorem lC_lt {s : Nat → Nat} {k j : Nat} {rw' rp : Nat → Nat} (b : Rb s k rw' rp j) {i : Nat} (hi : i < j) (hk : 0 < k) : lC k rw' rp i < 24 := by
  have := b.1 _ (Nat.mod_lt (i + 1) hk)
  have := b.2.1 i hi
  unfold lC
  omega
def vz (o : Option Bool) : Int32 := match o with
  | none => -6
  | some true => 1
  | some false => 0
theorem weigh8 {N s : Nat → Nat} (v : Vn N) {h : Hp} (g : Rg N s h) {k : Nat} (hk0 : 0 < k) (hk : k ≤ 4) {rw' rp : Nat → Nat} (r : Rk k rw' rp k h) (b : Rb s k rw' rp k) (bs : ∀ c, c < 24 → s c ≤ 260) : f_X4_weigh 58 h = some (vz (wgh N s k rw' rp), h) := by
  obtain ⟨r1, r2, r3⟩ := r
  obtain ⟨g1, g2⟩ := g
  have hq : blw N (N 41) 1 < 2 ^ 31 := by
    have := blw_le v (N 41) (n := 1) (by decide)
    omega
  have p1 : pOk (some 1) := fun a e => by cases e; decide
  have e64 : ∀ x y, pOk x → pOk y → f_X4_weigh_64 58 (oL x) (oL y) h = some (vz (match prd (fun i => mrk N (N 41) (s (lC k rw' rp i))) k (prd (fun _ => blw N (N 41) 1) k x), prd (fun i => mrk N (N 41) (s (gC rw' rp i) + 1)) k (prd (fun _ => blw N (N 41) 1) k y) with
      | some a, some b => some (decide (b < a))
      | _, _ => none), h) := fun x y hx hy => by
    have e106 : ∀ x y, pOk x → pOk y → f_X4_weigh_106 58 (oL x) (oL y) h = some (vz (match prd (fun i => mrk N (N 41) (s (lC k rw' rp i))) k x, prd (fun i => mrk N (N 41) (s (gC rw' rp i) + 1)) k y with
        | some a, some b => some (decide (b < a))
        | _, _ => none), h) := fun x y hx hy => by
      have e164 : ∀ x y, pOk x → pOk y → f_X4_weigh_164 (oL x) (oL y) h = some (vz (match x, y with
          | some a, some b => some (decide (b < a))
          | _, _ => none), h) := fun x y hx hy => by
        unfold f_X4_weigh_164
        cases x with
        | none =>
          rw [if_pos (show lg_cmp (oL none) 0 < 0 from lg_lt.mpr (by decide))]
          rfl
        | some a =>
          have ha := hx a rfl
          rw [show oL (some a) = lN a from rfl, if_neg (by rw [lg_lt, l0, pk_lLT ha (by decide)]; omega)]
          cases y with
          | none =>
            rw [if_neg (show ¬ 0 ≤ lg_cmp (oL none) 0 from fun z => lg_ge.mp z (by decide))]
            rfl
          | some b =>
            have hb := hy b rfl
            rw [show oL (some b) = lN b from rfl, if_pos (by rw [lg_ge, l0, pk_lLT hb (by decide)]; omega)]
            by_cases q : b < a
            · rw [if_neg (by rw [lg_le, pk_lLT hb ha]; exact fun z => z q)]
              show _ = some (vz (some (decide (b < a))), h)
              rw [decide_eq_true q]
              rfl
            · rw [if_pos (by rw [lg_le, pk_lLT hb ha]; exact q)]
              show _ = some (vz (some (decide (b < a))), h)
              rw [decide_eq_false q]
              rfl
      unfold f_X4_weigh_106
      refine lp_seq (F := Nat → Int64 → Int64 → Int32 → Hp → Option (Int32 × Hp)) (bot := fun _ _ _ _ _ => none) (G := f_X4_weigh_109) (fun K i (o : Option Nat × Option Nat) => K 58 (oL o.1) (oL o.2) (nI i) h) k (fun i => (prd (fun i => mrk N (N 41) (s (lC k rw' rp i))) i x, prd (fun i => mrk N (N 41) (s (gC rw' rp i) + 1)) i y)) _ ?_ ?_ 1000 0 (by omega) (by omega)
      · intro K i hi
        obtain ⟨r31, r32, r33⟩ := r3 i hi
        have l24 := lC_lt b hi hk0
        have g24 := gC_lt b hi hi
        have m1 := mrk_le (N := N) (w := N 41) (n := s (lC k rw' rp i)) v (by have := bs _ l24; omega)
        have m2 := mrk_le (N := N) (w := N 41) (n := s (gC rw' rp i) + 1) v (by have := bs _ g24; omega)
        show f_X4_weigh_109 K 58 (oL (prd (fun i => mrk N (N 41) (s (lC k rw' rp i))) i x)) (oL (prd (fun i => mrk N (N 41) (s (gC rw' rp i) + 1)) i y)) (nI i) h = K 58 (oL (pm (prd (fun i => mrk N (N 41) (s (lC k rw' rp i))) i x) (mrk N (N 41) (s (lC k rw' rp i))))) (oL (pm (prd (fun i => mrk N (N 41) (s (gC rw' rp i) + 1)) i y) (mrk N (N 41) (s (gC rw' rp i) + 1)))) (nI (i + 1)) h
        unfold f_X4_weigh_109
        rw [r1, if_neg (nI_ge hi (by omega)), if_neg (show ¬ (4 : Int32) ≤ nI i from nI_ge (b := 4) (by omega) (by decide)), if_pos (ix4 (by omega)), nI_clamp (by omega), show h.1 (58 + 4) i = _ from r33, if_pos (ix24 l24), nI_clamp (by omega), show h.2 (58 + 8) (lC k rw' rp i) = _ from (g1 _ l24).2.2.2 (b.2.2 i hi), prod8 h (prd_ok hx i) (by omega)]
        simp only [Option.bind_some]
        rw [if_pos (ix4 (by omega)), show h.1 (58 + 3) i = _ from r32, if_pos (ix24 g24), nI_clamp (by omega), show h.2 (58 + 7) (gC rw' rp i) = _ from (g1 _ g24).2.2.1, prod8 h (prd_ok hy i) (by omega)]
        simp only [Option.bind_some, lt, nI_1]
      · intro K
        show f_X4_weigh_109 K 58 _ _ (nI k) h = _
        unfold f_X4_weigh_109
        rw [r1, if_pos (nI_le (Nat.le_refl k) (by omega))]
        exact e164 _ _ (prd_ok hx k) (prd_ok hy k)
    unfold f_X4_weigh_64
    refine lp_seq (F := Nat → Int64 → Int64 → Int32 → Hp → Option (Int32 × Hp)) (bot := fun _ _ _ _ _ => none) (G := f_X4_weigh_67) (fun K i (o : Option Nat × Option Nat) => K 58 (oL o.1) (oL o.2) (nI i) h) k (fun i => (prd (fun _ => blw N (N 41) 1) i x, prd (fun _ => blw N (N 41) 1) i y)) _ ?_ ?_ 1000 0 (by omega) (by omega)
    · intro K i hi
      show f_X4_weigh_67 K 58 (oL (prd (fun _ => blw N (N 41) 1) i x)) (oL (prd (fun _ => blw N (N 41) 1) i y)) (nI i) h = K 58 (oL (pm (prd (fun _ => blw N (N 41) 1) i x) (blw N (N 41) 1))) (oL (pm (prd (fun _ => blw N (N 41) 1) i y) (blw N (N 41) 1))) (nI (i + 1)) h
      unfold f_X4_weigh_67
      rw [r1, if_neg (nI_ge hi (by omega)), if_neg (show ¬ (4 : Int32) ≤ nI i from nI_ge (b := 4) (by omega) (by decide)), g2, prod8 h (prd_ok hx i) (by omega)]
      simp only [Option.bind_some]
      rw [g2, prod8 h (prd_ok hy i) (by omega)]
      simp only [Option.bind_some, lt, nI_1]
    · intro K
      show f_X4_weigh_67 K 58 _ _ (nI k) h = _
      unfold f_X4_weigh_67
      rw [r1, if_pos (nI_le (Nat.le_refl k) (by omega))]
      exact e106 _ _ (prd_ok hx k) (prd_ok hy k)
  unfold f_X4_weigh
  refine lp_seq (F := Nat → Int64 → Int64 → Int32 → Hp → Option (Int32 × Hp)) (bot := fun _ _ _ _ _ => none) (G := f_X4_weigh_7) (fun K i (o : Option Nat × Option Nat) => K 58 (oL o.1) (oL o.2) (nI i) h) k (fun i => (prd (fun i => N (gC rw' rp i)) i (some 1), prd (fun i => N (lC k rw' rp i)) i (some 1))) _ ?_ ?_ 1000 0 (by omega) (by omega)
  · intro K i hi
    obtain ⟨r31, r32, r33⟩ := r3 i hi
    have l24 := lC_lt b hi hk0
    have g24 := gC_lt b hi hi
    have m1 := vote_le v l24
    have m2 := vote_le v g24
    show f_X4_weigh_7 K 58 (oL (prd (fun i => N (gC rw' rp i)) i (some 1))) (oL (prd (fun i => N (lC k rw' rp i)) i (some 1))) (nI i) h = K 58 (oL (pm (prd (fun i => N (gC rw' rp i)) i (some 1)) (N (gC rw' rp i)))) (oL (pm (prd (fun i => N (lC k rw' rp i)) i (some 1)) (N (lC k rw' rp i)))) (nI (i + 1)) h
    unfold f_X4_weigh_7
    rw [r1, if_neg (nI_ge hi (by omega)), if_neg (show ¬ (4 : Int32) ≤ nI i from nI_ge (b := 4) (by omega) (by decide)), if_pos (ix4 (by omega)), nI_clamp (by omega), show h.1 (58 + 3) i = _ from r32, if_pos (ix24 g24), nI_clamp (by omega), show h.1 (58 + 6) (gC rw' rp i) = _ from (g1 _ g24).2.1, nI_l (by omega), prod8 h (prd_ok p1 i) (by omega)]
    simp only [Option.bind_some]
    rw [if_pos (ix4 (by omega)), show h.1 (58 + 4) i = _ from r33, if_pos (ix24 l24), nI_clamp (by omega), show h.1 (58 + 6) (lC k rw' rp i) = _ from (g1 _ l24).2.1, nI_l (by omega), prod8 h (prd_ok p1 i) (by omega)]
    simp only [Option.bind_some, lt, nI_1]
  · intro K
    show f_X4_weigh_7 K 58 _ _ (nI k) h = _
    unfold f_X4_weigh_7
    rw [r1, if_pos (nI_le (Nat.le_refl k) (by omega))]
    exact e64 _ _ (prd_ok p1 k) (prd_ok p1 k)
/-- the reference's ring, up to j -/
def Qk (k : Nat) (rw' rp : Nat → Nat) (j : Nat) (h : Hp) : Prop := h.1 108 35 = nI k ∧ (∀ i, i < k → h.1 132 i = nI (rw' i)) ∧ ∀ i, i < j → h.1 133 i = nI (rp i)
theorem gains9 {h : Hp} {k j : Nat} {rw' rp : Nat → Nat} (q : Qk k rw' rp j h) (hk : k ≤ 4) {i : Nat} (hi : i < j) (hik : i < k) : f_X9_gains 108 (nI i) h = some (nI (gC rw' rp i), h) := by
  unfold f_X9_gains
  rw [if_pos (ix4 (by omega)), if_pos (ix4 (by omega)), nI_clamp (by omega), show h.1 (108 + 24) i = _ from q.2.1 i hik, show h.1 (108 + 25) i = _ from q.2.2 i hi, c6]
  rfl
theorem givesUp9 {h : Hp} {k j : Nat} {rw' rp : Nat → Nat} (q : Qk k rw' rp j h) (hk0 : 0 < k) (hk : k ≤ 4) {i : Nat} (hi : i < j) (hik : i < k) : f_X9_givesUp 108 (nI i) h = some (nI (lC k rw' rp i), h) := by
  have hm := Nat.mod_lt (i + 1) hk0
  unfold f_X9_givesUp
  rw [q.1, if_neg (nI_ne0 hk0 (by omega)), nI_1, pk_rem (by omega) hk0 (by omega), if_pos (ix4 (by omega)), if_pos (ix4 (by omega)), nI_clamp (by omega), nI_clamp (by omega), show h.1 (108 + 24) ((i + 1) % k) = _ from q.2.1 _ hm, show h.1 (108 + 25) i = _ from q.2.2 i hi, c6]
  rfl
theorem Qk.hf {h : Hp} {k j : Nat} {rw' rp : Nat → Nat} (q : Qk k rw' rp j h) (x : Bool) : Qk k rw' rp j (hf h x) := by
  unfold Qk
  rw [hf_108 _ _ (by decide), hf_row _ _ (by decide), hf_row _ _ (by decide)]
  exact q
theorem Po.hf {h : Hp} {N : Nat → Nat} (b : Po h 109 N) (x : Bool) : Po (hf h x) 109 N := b.keep (hf_row _ _ (by decide))
/-- products of the reference: gains or losses; the flag where it goes beyond -/
def fl (x : Option Nat) : Bool := x.isNone
theorem prod9 {N s : Nat → Nat} (v : Vn N) (hpw : planW (N 41)) {k : Nat} (hk0 : 0 < k) (hk : k ≤ 4) {rw' rp : Nat → Nat} (bd : Rb s k rw' rp k) (bs : ∀ c, c < 24 → s c ≤ 260) {a : Nat} (ha : a ≠ 108) (hla : ln a = 24) (og : Bool) {h : Hp} (q : Qk k rw' rp k h) (b : Po h 109 N) (es : ∀ c, c < 24 → h.1 a c = nI (s c)) : f_X9_product 108 a (if og = true then 1 else 0) h = some (oT (if og = true then gnP N s k rw' rp else lsP N s k rw' rp), hf h (fl (if og = true then gnP N s k rw' rp else lsP N s k rw' rp))) := by
  have p1 : pOk (some 1) := fun a e => by cases e; decide
  have hw := v.w
  have hq : blw N (N 41) 1 < 2 ^ 31 := by
    have := blw_le v (N 41) (n := 1) (by decide)
    omega
  have flp : ∀ (x : Option Nat) (y : Nat), (fl x || (x.isSome && (pm x y).isNone)) = fl (pm x y) := fun x y => by
    unfold fl
    cases x with
    | none => rfl
    | some a => rfl
  have fV : ∀ i, N (if og = true then gC rw' rp i else lC k rw' rp i) = if og = true then N (gC rw' rp i) else N (lC k rw' rp i) := fun i => by cases og <;> rfl
  -- the three loops, from behind
  have e112 : ∀ x, pOk x → lp (F := Nat → Nat → Int32 → Int64 → Int32 → Hp → Option (Int64 × Hp)) (fun _ _ _ _ _ _ => none) f_X9_product_112 1000 108 a (if og = true then 1 else 0) (oT x) 0 (hf h (fl x)) = some (oT (prd (fun i => mrk N (N 41) (if og = true then s (lC k rw' rp i) else s (gC rw' rp i) + 1)) k x), hf h (fl (prd (fun i => mrk N (N 41) (if og = true then s (lC k rw' rp i) else s (gC rw' rp i) + 1)) k x))) := fun x hx => by
    refine lp_seq (F := Nat → Nat → Int32 → Int64 → Int32 → Hp → Option (Int64 × Hp)) (bot := fun _ _ _ _ _ _ => none) (G := f_X9_product_112) (fun K i (o : Option Nat) => K 108 a (if og = true then 1 else 0) (oT o) (nI i) (hf h (fl o))) k (fun i => prd (fun i => mrk N (N 41) (if og = true then s (lC k rw' rp i) else s (gC rw' rp i) + 1)) i x) _ ?_ ?_ 1000 0 (by omega) (by omega)
    · intro K i hi
      have ho := prd_ok (f := fun i => mrk N (N 41) (if og = true then s (lC k rw' rp i) else s (gC rw' rp i) + 1)) hx i
      show f_X9_product_112 K 108 a (if og = true then 1 else 0) (oT (prd (fun i => mrk N (N 41) (if og = true then s (lC k rw' rp i) else s (gC rw' rp i) + 1)) i x)) (nI i) (hf h (fl (prd (fun i => mrk N (N 41) (if og = true then s (lC k rw' rp i) else s (gC rw' rp i) + 1)) i x))) = K 108 a (if og = true then 1 else 0) (oT (pm (prd (fun i => mrk N (N 41) (if og = true then s (lC k rw' rp i) else s (gC rw' rp i) + 1)) i x) (mrk N (N 41) (if og = true then s (lC k rw' rp i) else s (gC rw' rp i) + 1)))) (nI (i + 1)) (hf h (fl (pm (prd (fun i => mrk N (N 41) (if og = true then s (lC k rw' rp i) else s (gC rw' rp i) + 1)) i x) (mrk N (N 41) (if og = true then s (lC k rw' rp i) else s (gC rw' rp i) + 1)))))
      generalize prd (fun i => mrk N (N 41) (if og = true then s (lC k rw' rp i) else s (gC rw' rp i) + 1)) i x = o at ho
      have l24 := lC_lt bd hi hk0
      have g24 := gC_lt bd hi hi
      have bl := bs _ l24
      have bg := bs _ g24
      have e153 : ∀ n, 1 ≤ n → n ≤ 300 → f_X9_product_153 K 108 a (if og = true then 1 else 0) (nI i) (nI n) (nI (N 41)) 108 (oT o) 108 (hf h (fl o)) = K 108 a (if og = true then 1 else 0) (oT (pm o (mrk N (N 41) n))) (nI (i + 1)) (hf h (fl (pm o (mrk N (N 41) n)))) := fun n h1 h2 => by
        have m1 := mrk_le (N := N) (w := N 41) (n := n) v h2
        unfold f_X9_product_153
        rw [above9 (b.hf _) hw h1]
        simp only [Option.bind_some]
        rw [nI_l (by omega), times9 _ ho (by omega), hf_hf, flp]
        simp only [Option.bind_some, lt, nI_1]
      unfold f_X9_product_112
      rw [(q.hf (fl o)).1, if_neg (nI_ge hi (by omega)), wayNow9 (b.hf _)]
      simp only [Option.bind_some]
      cases og with
      | true =>
        rw [if_neg (show ¬ (if true = true then (1 : Int32) else 0) = 0 by decide), givesUp9 (q.hf _) hk0 hk hi hi]
        simp only [Option.bind_some]
        rw [hla, if_pos (ix24 l24), nI_clamp (by omega), hf_row _ _ ha, es _ l24]
        exact e153 _ (bd.2.2 i hi) (by omega)
      | false =>
        rw [if_pos (show (if false = true then (1 : Int32) else 0) = 0 by decide), gains9 (q.hf _) hk hi hi]
        simp only [Option.bind_some]
        rw [hla, if_pos (ix24 g24), nI_clamp (by omega), hf_row _ _ ha, es _ g24, nI_1]
        exact e153 _ (by omega) (by omega)
    · intro K
      show f_X9_product_112 K 108 a (if og = true then 1 else 0) _ (nI k) (hf h _) = _
      unfold f_X9_product_112
      rw [(q.hf _).1, if_pos (nI_le (Nat.le_refl k) (by omega))]
  have e54 : ∀ x, pOk x → lp (F := Nat → Nat → Int32 → Int64 → Int32 → Hp → Option (Int64 × Hp)) (fun _ _ _ _ _ _ => none) f_X9_product_54 1000 108 a (if og = true then 1 else 0) (oT x) 0 (hf h (fl x)) = some (oT (prd (fun i => mrk N (N 41) (if og = true then s (lC k rw' rp i) else s (gC rw' rp i) + 1)) k (prd (fun _ => blw N (N 41) 1) k x)), hf h (fl (prd (fun i => mrk N (N 41) (if og = true then s (lC k rw' rp i) else s (gC rw' rp i) + 1)) k (prd (fun _ => blw N (N 41) 1) k x)))) := fun x hx => by
    refine lp_seq (F := Nat → Nat → Int32 → Int64 → Int32 → Hp → Option (Int64 × Hp)) (bot := fun _ _ _ _ _ _ => none) (G := f_X9_product_54) (fun K i (o : Option Nat) => K 108 a (if og = true then 1 else 0) (oT o) (nI i) (hf h (fl o))) k (fun i => prd (fun _ => blw N (N 41) 1) i x) _ ?_ ?_ 1000 0 (by omega) (by omega)
    · intro K i hi
      have ho := prd_ok (f := fun _ => blw N (N 41) 1) hx i
      show f_X9_product_54 K 108 a (if og = true then 1 else 0) (oT (prd (fun _ => blw N (N 41) 1) i x)) (nI i) (hf h (fl (prd (fun _ => blw N (N 41) 1) i x))) = K 108 a (if og = true then 1 else 0) (oT (pm (prd (fun _ => blw N (N 41) 1) i x) (blw N (N 41) 1))) (nI (i + 1)) (hf h (fl (pm (prd (fun _ => blw N (N 41) 1) i x) (blw N (N 41) 1))))
      generalize prd (fun _ => blw N (N 41) 1) i x = o at ho
      have l24 := lC_lt bd hi hk0
      have g24 := gC_lt bd hi hi
      have e95 : ∀ n, 1 ≤ n → f_X9_product_95 K 108 a (if og = true then 1 else 0) (nI i) (nI n) (nI (N 41)) 108 (oT o) 108 (hf h (fl o)) = K 108 a (if og = true then 1 else 0) (oT (pm o (blw N (N 41) 1))) (nI (i + 1)) (hf h (fl (pm o (blw N (N 41) 1)))) := fun n h1 => by
        unfold f_X9_product_95
        rw [below9 (b.hf _) hw h1, blw_p hpw n]
        simp only [Option.bind_some]
        rw [nI_l hq, times9 _ ho (by omega), hf_hf, flp]
        simp only [Option.bind_some, lt, nI_1]
      unfold f_X9_product_54
      rw [(q.hf (fl o)).1, if_neg (nI_ge hi (by omega)), wayNow9 (b.hf _)]
      simp only [Option.bind_some]
      cases og with
      | true =>
        rw [if_neg (show ¬ (if true = true then (1 : Int32) else 0) = 0 by decide), gains9 (q.hf _) hk hi hi]
        simp only [Option.bind_some]
        rw [hla, if_pos (ix24 g24), nI_clamp (by omega), hf_row _ _ ha, es _ g24, nI_1]
        exact e95 _ (by omega)
      | false =>
        rw [if_pos (show (if false = true then (1 : Int32) else 0) = 0 by decide), givesUp9 (q.hf _) hk0 hk hi hi]
        simp only [Option.bind_some]
        rw [hla, if_pos (ix24 l24), nI_clamp (by omega), hf_row _ _ ha, es _ l24]
        exact e95 _ (bd.2.2 i hi)
    · intro K
      show f_X9_product_54 K 108 a (if og = true then 1 else 0) _ (nI k) (hf h _) = _
      unfold f_X9_product_54
      rw [(q.hf _).1, if_pos (nI_le (Nat.le_refl k) (by omega))]
      exact e112 _ (prd_ok hx k)
  have fin : (if og = true then gnP N s k rw' rp else lsP N s k rw' rp) = prd (fun i => mrk N (N 41) (if og = true then s (lC k rw' rp i) else s (gC rw' rp i) + 1)) k (prd (fun _ => blw N (N 41) 1) k (prd (fun i => N (if og = true then gC rw' rp i else lC k rw' rp i)) k (some 1))) := by
    cases og <;> rfl
  rw [fin]
  unfold f_X9_product
  have := lp_seq (F := Nat → Nat → Int32 → Int64 → Int32 → Hp → Option (Int64 × Hp)) (bot := fun _ _ _ _ _ _ => none) (G := f_X9_product_5) (fun K i (o : Option Nat) => K 108 a (if og = true then 1 else 0) (oT o) (nI i) (hf h (fl o))) k (fun i => prd (fun i => N (if og = true then gC rw' rp i else lC k rw' rp i)) i (some 1)) (some (oT (prd (fun i => mrk N (N 41) (if og = true then s (lC k rw' rp i) else s (gC rw' rp i) + 1)) k (prd (fun _ => blw N (N 41) 1) k (prd (fun i => N (if og = true then gC rw' rp i else lC k rw' rp i)) k (some 1)))), hf h (fl (prd (fun i => mrk N (N 41) (if og = true then s (lC k rw' rp i) else s (gC rw' rp i) + 1)) k (prd (fun _ => blw N (N 41) 1) k (prd (fun i => N (if og = true then gC rw' rp i else lC k rw' rp i)) k (some 1))))))) ?_ ?_ 1000 0 (by omega) (by omega)
  · exact this
  · intro K i hi
    have ho := prd_ok (f := fun i => N (if og = true then gC rw' rp i else lC k rw' rp i)) p1 i
    show f_X9_product_5 K 108 a (if og = true then 1 else 0) (oT (prd (fun i => N (if og = true then gC rw' rp i else lC k rw' rp i)) i (some 1))) (nI i) (hf h (fl (prd (fun i => N (if og = true then gC rw' rp i else lC k rw' rp i)) i (some 1)))) = K 108 a (if og = true then 1 else 0) (oT (pm (prd (fun i => N (if og = true then gC rw' rp i else lC k rw' rp i)) i (some 1)) (N (if og = true then gC rw' rp i else lC k rw' rp i)))) (nI (i + 1)) (hf h (fl (pm (prd (fun i => N (if og = true then gC rw' rp i else lC k rw' rp i)) i (some 1)) (N (if og = true then gC rw' rp i else lC k rw' rp i)))))
    generalize prd (fun i => N (if og = true then gC rw' rp i else lC k rw' rp i)) i (some 1) = o at ho
    have l24 := lC_lt bd hi hk0
    have g24 := gC_lt bd hi hi
    have e39 : ∀ c, c < 24 → f_X9_product_39 K 108 a (if og = true then 1 else 0) (nI i) (nI c) (108 + 1) (oT o) 108 (hf h (fl o)) = K 108 a (if og = true then 1 else 0) (oT (pm o (N c))) (nI (i + 1)) (hf h (fl (pm o (N c)))) := fun c hc => by
      have m1 := vote_le v hc
      unfold f_X9_product_39
      rw [if_pos (ix_nI (by omega) (by decide)), at9 (b.hf _) (by omega), nI_l (by omega), times9 _ ho (by omega), hf_hf, flp]
      simp only [Option.bind_some, lt, nI_1]
    unfold f_X9_product_5
    rw [(q.hf (fl o)).1, if_neg (nI_ge hi (by omega))]
    cases og with
    | true =>
      rw [if_neg (show ¬ (if true = true then (1 : Int32) else 0) = 0 by decide), gains9 (q.hf _) hk hi hi]
      simp only [Option.bind_some]
      exact e39 _ g24
    | false =>
      rw [if_pos (show (if false = true then (1 : Int32) else 0) = 0 by decide), givesUp9 (q.hf _) hk0 hk hi hi]
      simp only [Option.bind_some]
      exact e39 _ l24
  · intro K
    show f_X9_product_5 K 108 a (if og = true then 1 else 0) _ (nI k) (hf h _) = _
    unfold f_X9_product_5
    rw [(q.hf _).1, if_pos (nI_le (Nat.le_refl k) (by omega))]
    exact e54 _ (prd_ok p1 k)
theorem better9 {N s : Nat → Nat} (v : Vn N) (hpw : planW (N 41)) {k : Nat} (hk0 : 0 < k) (hk : k ≤ 4) {rw' rp : Nat → Nat} (bd : Rb s k rw' rp k) (bs : ∀ c, c < 24 → s c ≤ 260) {a : Nat} (ha : a ≠ 108) (hla : ln a = 24) {h : Hp} (q : Qk k rw' rp k h) (b : Po h 109 N) (es : ∀ c, c < 24 → h.1 a c = nI (s c)) (h38 : h.1 108 38 = 0) : f_X9_isBetter 108 a h = some (if wgh N s k rw' rp = some true then 1 else 0, hf h (wgh N s k rw' rp).isNone) := by
  unfold f_X9_isBetter
  have e1 := prod9 v hpw hk0 hk bd bs ha hla true q b es
  rw [show f_X9_product 108 a 1 h = _ from e1]
  simp only [Option.bind_some, if_true]
  have e2 := prod9 v hpw hk0 hk bd bs ha hla false (q.hf (fl (gnP N s k rw' rp))) (b.hf (fl (gnP N s k rw' rp))) (fun c hc => by rw [hf_row _ _ ha]; exact es c hc)
  rw [show f_X9_product 108 a 0 _ = _ from e2]
  simp only [Option.bind_some]
  rw [hf_hf]
  have g0 : pOk (gnP N s k rw' rp) := prd_ok (prd_ok (prd_ok (fun a e => by cases e; decide) k) k) k
  have l0' : pOk (lsP N s k rw' rp) := prd_ok (prd_ok (prd_ok (fun a e => by cases e; decide) k) k) k
  have f38 : ∀ x : Bool, (hf h x).1 108 38 = if x = true then 1 else 0 := fun x => by
    unfold hf
    cases x
    · exact h38
    · simp [sI1]
  rw [f38]
  unfold wgh
  simp only [Bool.false_eq_true, if_false]
  cases hg : gnP N s k rw' rp with
  | none =>
    show (if (if (fl none || fl (lsP N s k rw' rp)) = true then (1 : Int32) else 0) = 0 then _ else _) = _
    rw [show (fl none || fl (lsP N s k rw' rp)) = true from rfl, if_neg (by decide), if_pos isB0]
    rfl
  | some x =>
    cases hl : lsP N s k rw' rp with
    | none =>
      rw [show (fl (some x) || fl none) = true from rfl, if_neg (by decide), if_pos isB0]
      rfl
    | some y =>
      have hx := g0 x hg
      have hy := l0' y hl
      rw [show (fl (some x) || fl (some y)) = false from rfl, if_pos (by decide)]
      by_cases z : y < x
      · rw [if_neg (by show ¬ lg_cmp (lN x) (lN y) ≤ 0; rw [lg_le, pk_lLT hy hx]; exact fun w => w z), if_pos isB1]
        show some ((1 : Int32), hf h false) = some (if (some (decide (y < x)) : Option Bool) = some true then 1 else 0, _)
        rw [decide_eq_true z]
        rfl
      · rw [if_pos (by show lg_cmp (lN x) (lN y) ≤ 0; rw [lg_le, pk_lLT hy hx]; exact z), if_pos isB0]
        show some ((0 : Int32), hf h false) = some (if (some (decide (y < x)) : Option Bool) = some true then 1 else 0, _)
        rw [decide_eq_false z]
        rfl
