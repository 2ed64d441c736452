/-- a loop whose states are known -/
theorem lp_seq {F R σ : Type} {bot : F} {G : F → F} (ap : F → Nat → σ → R) (n : Nat) (S : Nat → σ) (e : R) (hs : ∀ K i, i < n → ap (G K) i (S i) = ap K (i + 1) (S (i + 1))) (he : ∀ K, ap (G K) n (S n) = e) : ∀ (m i : Nat), i ≤ n → n < i + m → ap (lp bot G m) i (S i) = e := by
  intro m
  induction m with
  | zero => intro i h1 h2; omega
  | succ m ih =>
    intro i h1 h2
    show ap (G (lp bot G m)) i (S i) = e
    by_cases h : i = n
    · subst h
      exact he _
    · rw [hs _ i (by omega)]
      exact ih (i + 1) (by omega) (by omega)
def bi : Option Nat → Int32
  | none => -1
  | some k => nI k
def cmpK (N : Nat → Nat) (w : Nat) (W s : Nat → Nat) (k j : Nat) : Int32 := cmpS (pay N w (W k) (s k + 1)) (mrk N w (s k + 1)) (pay N w (W j) (s j + 1)) (mrk N w (s j + 1))
theorem cmpK_CP (N : Nat → Nat) (w : Nat) (W s : Nat → Nat) : CP (cmpK N w W s) := ⟨_, _, fun _ _ => rfl⟩
theorem ge6 {i : Nat} (h : i < 6) : ¬ (6 : Int32) ≤ nI i := nI_ge h (by decide)
theorem ix6 {i : Nat} (h : i < 6) : ix (nI i) 6 = true := ix_nI h (by decide)
theorem cl6' {i : Nat} (h : i < 6) : Int32.toNatClampNeg (nI i) = i := nI_clamp (by omega)
theorem dearest8 {h : Hp} {g : Nat} {P : Nat → Bool} {C : Nat → Nat → Int32} {a b : Nat → Nat} (hp : h.1 g 4 = bits6 P) (ha : ∀ k, k < 6 → h.2 (g + 5) k = lN (a k)) (hb : ∀ k, k < 6 → h.2 (g + 6) k = lN (b k)) (hC : ∀ k j, C k j = cmpS (a k) (b k) (a j) (b j)) (ba : ∀ k, k < 6 → a k ≤ 5760000000000) (bb : ∀ k, k < 6 → b k ≤ 180000) : f_X0_dearest g h = some (if bi (fu (bstS P C) 6 none) < 0 then 0 else bi (fu (bstS P C) 6 none), sI h g 3 (fu (tieS P C) 6 (none, h.1 g 3)).2) := by
  unfold f_X0_dearest
  have e := lp_seq (F := Nat → Int32 → Int32 → Hp → Option (Int32 × Hp)) (bot := fun _ _ _ _ => none) (G := f_X0_dearest_4) (fun K i (s : Option Nat × Int32) => K g (bi s.1) (nI i) (sI h g 3 s.2)) 6 (fun i => fu (tieS P C) i (none, h.1 g 3)) (some (if bi (fu (bstS P C) 6 none) < 0 then 0 else bi (fu (bstS P C) 6 none), sI h g 3 (fu (tieS P C) 6 (none, h.1 g 3)).2)) ?_ ?_ 1000 0 (by omega) (by omega)
  · have e2 : fu (tieS P C) 0 (none, h.1 g 3) = (none, h.1 g 3) := rfl
    rw [e2] at e
    dsimp only at e
    rw [sI_same] at e
    exact e
  · intro K i hi
    have hb1 := tie_bst P C (h.1 g 3) i
    show f_X0_dearest_4 K g (bi (fu (tieS P C) i (none, h.1 g 3)).1) (nI i) (sI h g 3 (fu (tieS P C) i (none, h.1 g 3)).2) = K g (bi (tieS P C i (fu (tieS P C) i (none, h.1 g 3))).1) (nI (i + 1)) (sI h g 3 (tieS P C i (fu (tieS P C) i (none, h.1 g 3))).2)
    generalize fu (tieS P C) i (none, h.1 g 3) = s at hb1 ⊢
    obtain ⟨bst, x⟩ := s
    dsimp only at hb1 ⊢
    have hpr : (sI h g 3 x).1 g 4 = bits6 P := by rw [sI1, if_pos rfl, if_neg (by decide), hp]
    unfold f_X0_dearest_4 f_X0_dearest_59 f_X0_dearest_90 tieS
    rw [if_neg (ge6 hi), hpr, holds6 P hi]
    simp only [Option.bind_some, lt, nI_1]
    by_cases hP : P i = true
    · rw [if_pos hP, if_pos hP, if_neg one_ne]
      cases bst with
      | none =>
        rw [if_neg (show ¬ (0 : Int32) ≤ bi none by decide), if_neg (show ¬ (1 : Int32) ≤ 0 by decide), sI_sI]
        rfl
      | some j =>
        have hj : j < 6 := by
          have := (bst_some hb1.symm).1
          omega
        rw [if_pos (show (0 : Int32) ≤ bi (some j) from nI_pos' (by omega))]
        have hx : bi (some j) = nI j := rfl
        rw [hx, if_pos (ix6 hi), if_pos (ix6 hi), if_pos (ix6 hj), if_pos (ix6 hj), cl6' hi, cl6' hj, sI_2, ha i hi, hb i hi, ha j hj, hb j hj]
        have m1 : a i * b j ≤ 5760000000000 * 180000 := Nat.mul_le_mul (ba i hi) (bb j hj)
        have m2 : a j * b i ≤ 5760000000000 * 180000 := Nat.mul_le_mul (ba j hj) (bb i hi)
        have z1 := ba i hi
        have z2 := ba j hj
        have z3 := bb i hi
        have z4 := bb j hj
        rw [cmp8 _ (by omega) (by omega) (by omega) (by omega) (by omega) (by omega), ← hC]
        simp only [Option.bind_some]
        by_cases h1 : C i j ≤ 0
        · rw [if_pos h1, if_pos h1]
          by_cases h2 : C i j = 0
          · rw [if_pos h2, if_pos h2, sI_sI, sI1, if_pos rfl, if_pos rfl]
            rfl
          · rw [if_neg h2, if_neg h2]
            rfl
        · rw [if_neg h1, if_neg h1, sI_sI]
          rfl
    · rw [if_neg hP, if_neg hP, if_pos rfl]
  · intro K
    show f_X0_dearest_4 K g _ (nI 6) _ = _
    unfold f_X0_dearest_4
    rw [if_pos (show (6 : Int32) ≤ nI 6 by decide), tie_bst]
/-- the reference's rows of those that claim -/
def RfH (h : Hp) (P : Nat → Bool) (W F s : Nat → Nat) : Prop := ∀ k, k < 6 → h.1 113 k = (if P k = true then 1 else 0) ∧ h.1 114 k = nI (W k) ∧ h.1 115 k = nI (F k) ∧ h.1 116 k = nI (s k)
theorem dearest9 {h : Hp} {N W F s : Nat → Nat} {P : Nat → Bool} (b : Po h 109 N) (v : Vn N) {w : Nat} (hw : w ≤ 6) (r : RfH h P W F s) (bW : ∀ k, k < 6 → W k ≤ 2400000) (bs : ∀ k, k < 6 → s k ≤ 299) : f_X9_dearest 108 (nI w) h = some (bi (fu (bstS P (cmpK N w W s)) 6 none), h) := by
  unfold f_X9_dearest
  refine lp_seq (F := Nat → Int32 → Int32 → Int32 → Hp → Option (Int32 × Hp)) (bot := fun _ _ _ _ _ => none) (G := f_X9_dearest_4) (fun K i (s : Option Nat) => K 108 (nI w) (bi s) (nI i) h) 6 (fun i => fu (bstS P (cmpK N w W s)) i none) (some (bi (fu (bstS P (cmpK N w W s)) 6 none), h)) ?_ ?_ 1000 0 (by omega) (by omega)
  · intro K i hi
    show f_X9_dearest_4 K 108 (nI w) (bi (fu (bstS P (cmpK N w W s)) i none)) (nI i) h = K 108 (nI w) (bi (bstS P (cmpK N w W s) i (fu (bstS P (cmpK N w W s)) i none))) (nI (i + 1)) h
    generalize hg : fu (bstS P (cmpK N w W s)) i none = bst
    obtain ⟨r1, r2, r3, r4⟩ := r i hi
    have w1 := bW i hi
    have s1 := bs i hi
    unfold f_X9_dearest_4 f_X9_dearest_62 f_X9_dearest_64 bstS
    rw [if_neg (ge6 hi), if_pos (ix6 hi), cl6' hi, show h.1 (108 + 5) i = _ from r1, show h.1 (108 + 6) i = _ from r2, show h.1 (108 + 8) i = _ from r4]
    by_cases hP : P i = true
    · rw [if_pos hP, if_pos hP, if_neg one_ne]
      cases bst with
      | none =>
        rw [if_pos (show bi none = -1 from rfl)]
        simp only [lt, nI_1]
        rfl
      | some j =>
        have hj : j < 6 := by
          have := (bst_some hg).1
          omega
        obtain ⟨q1, q2, q3, q4⟩ := r j hj
        have w2 := bW j hj
        have s2 := bs j hj
        have hx : bi (some j) = nI j := rfl
        rw [hx, if_neg (show ¬ nI j = -1 from fun z => nI_pos (n := j) (by omega) (by rw [z]; decide)), if_pos (ix6 hi), if_pos (ix6 hi), if_pos (ix6 hj), if_pos (ix6 hj), cl6' hj, show h.1 (108 + 6) j = _ from q2, show h.1 (108 + 8) j = _ from q4, nI_1, nI_1, nI_l (by omega), nI_l (by omega), dearer9 b v hw (by omega) (by omega) (by omega) (by omega) w1 w2]
        simp only [Option.bind_some, lt, nI_1]
        by_cases h1 : cmpK N w W s i j ≤ 0
        · rw [if_pos h1, if_pos (show cmpS _ _ _ _ ≤ 0 from h1)]
          rfl
        · rw [if_neg h1, if_neg (show ¬ cmpS _ _ _ _ ≤ 0 from h1)]
          rfl
    · rw [if_neg hP, if_neg hP, if_pos rfl]
      simp only [lt, nI_1]
  · intro K
    show f_X9_dearest_4 K 108 (nI w) _ (nI 6) h = _
    unfold f_X9_dearest_4
    rw [if_pos (show (6 : Int32) ≤ nI 6 by decide)]
/-! seats given by price, one after another -/
def GS : Type := (Nat → Nat) × Nat × (Nat → Nat) × Int32
def GS.mk (s : Nat → Nat) (c : Nat) (wt : Nat → Nat) (x : Int32) : GS := (s, c, wt, x)
def GS.s (t : GS) : Nat → Nat := t.1
def GS.c (t : GS) : Nat := t.2.1
def GS.wt (t : GS) : Nat → Nat := t.2.2.1
def GS.x (t : GS) : Int32 := t.2.2.2
theorem gs_s (s : Nat → Nat) (c : Nat) (wt : Nat → Nat) (x : Int32) : (GS.mk s c wt x).s = s := rfl
theorem gs_c (s : Nat → Nat) (c : Nat) (wt : Nat → Nat) (x : Int32) : (GS.mk s c wt x).c = c := rfl
theorem gs_w (s : Nat → Nat) (c : Nat) (wt : Nat → Nat) (x : Int32) : (GS.mk s c wt x).wt = wt := rfl
theorem gs_x (s : Nat → Nat) (c : Nat) (wt : Nat → Nat) (x : Int32) : (GS.mk s c wt x).x = x := rfl
def toN (N : Nat → Nat) (w : Nat) (P : Nat → Bool) (W : Nat → Nat) (s : Nat → Nat) : Nat := (fu (bstS P (cmpK N w W s)) 6 none).getD 0
def rnd (N : Nat → Nat) (w : Nat) (P : Nat → Bool) (W : Nat → Nat) (st : GS) : GS := GS.mk (up st.s (toN N w P W st.s) (st.s (toN N w P W st.s) + 1)) (st.c + 1) (up st.wt st.c (toN N w P W st.s)) (fu (bitS (tieQ P (cmpK N w W st.s) (toN N w P W st.s))) 6 0)
def rnds (N : Nat → Nat) (w : Nat) (P : Nat → Bool) (W : Nat → Nat) (st : GS) : Nat → GS
  | 0 => st
  | n + 1 => rnd N w P W (rnds N w P W st n)
def sF (F : Nat → Nat) : Nat → Nat
  | 0 => 0
  | i + 1 => sF F i + F i
theorem sF_le {F : Nat → Nat} {k : Nat} : ∀ {i}, k < i → F k ≤ sF F i := by
  intro i
  induction i with
  | zero => intro h; omega
  | succ i ih =>
    intro h
    show F k ≤ sF F i + F i
    by_cases e : k = i
    · subst e
      omega
    · have := ih (by omega)
      omega
theorem sF_up {F : Nat → Nat} {k v : Nat} : ∀ {i}, k < i → sF (up F k v) i + F k = sF F i + v := by
  have out : ∀ i, i ≤ k → sF (up F k v) i = sF F i := by
    intro i
    induction i with
    | zero => intro _; rfl
    | succ i ih =>
      intro h
      show sF (up F k v) i + up F k v i = sF F i + F i
      rw [ih (by omega), up_ne _ _ (by omega)]
  intro i
  induction i with
  | zero => intro h; omega
  | succ i ih =>
    intro h
    show sF (up F k v) i + up F k v i + F k = sF F i + F i + v
    by_cases e : k = i
    · subst e
      rw [out k (by omega), up_self]
      omega
    · have := ih (by omega)
      rw [up_ne _ _ (by omega)]
      omega
def anyP (P : Nat → Bool) : Bool := P 0 || P 1 || P 2 || P 3 || P 4 || P 5
theorem anyP_t {P : Nat → Bool} (h : anyP P = true) : ∃ k, k < 6 ∧ P k = true := by
  unfold anyP at h
  simp only [Bool.or_eq_true] at h
  rcases h with ((((h | h) | h) | h) | h) | h
  · exact ⟨0, by decide, h⟩
  · exact ⟨1, by decide, h⟩
  · exact ⟨2, by decide, h⟩
  · exact ⟨3, by decide, h⟩
  · exact ⟨4, by decide, h⟩
  · exact ⟨5, by decide, h⟩
theorem anyP_f {P : Nat → Bool} (h : ¬ anyP P = true) : ∀ k, k < 6 → P k = false := by
  unfold anyP at h
  simp only [Bool.or_eq_true, not_or, Bool.not_eq_true] at h
  intro k hk
  rcases (show k = 0 ∨ k = 1 ∨ k = 2 ∨ k = 3 ∨ k = 4 ∨ k = 5 by omega) with rfl | rfl | rfl | rfl | rfl | rfl
  · exact h.1.1.1.1.1
  · exact h.1.1.1.1.2
  · exact h.1.1.1.2
  · exact h.1.1.2
  · exact h.1.2
  · exact h.2
theorem bst_any {P : Nat → Bool} {C : Nat → Nat → Int32} (h : anyP P = true) : ∃ j, fu (bstS P C) 6 none = some j ∧ j < 6 ∧ P j = true := by
  cases e : fu (bstS P C) 6 none with
  | none =>
    obtain ⟨k, hk, hp⟩ := anyP_t h
    rw [bst_none e k hk] at hp
    cases hp
  | some j => exact ⟨j, rfl, bst_some e⟩
theorem bst_no {P : Nat → Bool} {C : Nat → Nat → Int32} (h : ¬ anyP P = true) : fu (bstS P C) 6 none = none := by
  cases e : fu (bstS P C) 6 none with
  | none => rfl
  | some j =>
    have := bst_some e
    rw [anyP_f h j this.1] at this
    cases this.2
theorem toN_any {N : Nat → Nat} {w : Nat} {P : Nat → Bool} {W s : Nat → Nat} (h : anyP P = true) : fu (bstS P (cmpK N w W s)) 6 none = some (toN N w P W s) ∧ toN N w P W s < 6 ∧ P (toN N w P W s) = true := by
  obtain ⟨j, h1, h2, h3⟩ := bst_any (C := cmpK N w W s) h
  have e : toN N w P W s = j := by
    unfold toN
    rw [h1]
    rfl
  rw [e]
  exact ⟨h1, h2, h3⟩
/-- the class's giver in the midst of giving by price -/
def ClS (N : Nat → Nat) (w : Nat) (P : Nat → Bool) (W F : Nat → Nat) (h : Hp) (g : Nat) (st : GS) : Prop := h.1 g 4 = bits6 P ∧ (∀ k, k < 6 → h.2 (g + 3) k = lN (W k)) ∧ (∀ k, k < 6 → h.1 (g + 4) k = nI (F k)) ∧ (∀ k, k < 6 → h.1 (g + 1) k = nI (st.s k)) ∧ (∀ k, k < 6 → h.2 (g + 5) k = lN (pay N w (W k) (st.s k + 1))) ∧ (∀ k, k < 6 → h.2 (g + 6) k = lN (mrk N w (st.s k + 1))) ∧ h.1 g 2 = nI st.c ∧ (∀ i, i < st.c → h.1 (g + 2) i = nI (st.wt i)) ∧ h.1 g 3 = st.x
theorem priceNext8 {h : Hp} {g p : Nat} {N : Nat → Nat} (a : Pc h p N) (v : Vn N) {w k : Nat} (hw : w ≤ 6) (hk : k < 6) {Wk sk : Nat} (e1 : h.1 (g + 1) k = nI sk) (e2 : h.2 (g + 3) k = lN Wk) (hs : sk ≤ 299) : f_X0_priceNext g p (nI w) (nI k) h = some ((), sL (sL h (g + 5) k (lN (pay N w Wk (sk + 1)))) (g + 6) k (lN (mrk N w (sk + 1)))) := by
  unfold f_X0_priceNext
  rw [if_pos (ix6 hk), cl6' hk, e1, e2]
  simp only [lt, nI_1]
  rw [if_pos (ix6 hk), pay8 a v hw (by omega) (by omega)]
  simp only [Option.bind_some]
  rw [if_pos (ix6 hk), mark8 (h := sL h (g + 5) k (lN (pay N w Wk (sk + 1)))) (p := p) (N := N) a v hw (by omega) (by omega)]
  simp only [Option.bind_some]
  rw [if_pos (ix6 hk)]
theorem round8 {N : Nat → Nat} (v : Vn N) {w : Nat} (hw : w ≤ 6) {P : Nat → Bool} (hP : anyP P = true) {W F : Nat → Nat} (bW : ∀ k, k < 6 → W k ≤ 2400000) {g p : Nat} (hpg : p + 5 ≤ g) {h : Hp} (a : Pc h p N) {st : GS} (hS : ClS N w P W F h g st) (hs : sF st.s 6 ≤ 200) (hc : st.c < 60) {H i : Nat} (hi : i < H) (hH : H ≤ 1000) (K : Nat → Nat → Int32 → Int32 → Int32 → Hp → Option (Int32 × Hp)) : ∃ h', (ClS N w P W F h' g (rnd N w P W st) ∧ Pc h' p N) ∧ f_X0_giveByPrices_65 K g p (nI w) (nI H) (nI i) h = K g p (nI w) (nI H) (nI (i + 1)) h' := by
  obtain ⟨c1, c2, c3, c4, c5, c6, c7, c8, c9⟩ := hS
  have bs : ∀ k, k < 6 → st.s k ≤ 200 := fun k hk => by
    have := sF_le (F := st.s) hk
    omega
  obtain ⟨t1, t2, t3⟩ := toN_any (N := N) (w := w) (W := W) (s := st.s) hP
  have d := dearest8 (C := cmpK N w W st.s) c1 c5 c6 (fun _ _ => rfl) (fun k hk => pay_le v (bW k hk) (by have := bs k hk; omega)) (fun k hk => mrk_le v (by have := bs k hk; omega))
  have dx := (tie_eq (P := P) (cmpK_CP N w W st.s) (h.1 g 3) 6 (toN N w P W st.s) (by rw [tie_bst, t1])).1
  rw [t1, dx] at d
  generalize hto : toN N w P W st.s = to at t1 t2 t3 d dx
  generalize hti : fu (bitS (tieQ P (cmpK N w W st.s) to)) 6 0 = ti at d dx
  have hx : bi (some to) = nI to := rfl
  rw [hx, if_neg (nI_pos (by omega))] at d
  have hst := bs to t2
  have Pk : ∀ {h' : Hp}, (∀ j, j < g → h'.1 j = h.1 j) → Pc h' p N := fun {h'} q => a.keep (fun j hj => q _ (by omega))
  unfold f_X0_giveByPrices_65
  rw [if_neg (nI_ge hi (by omega)), c7, if_neg (show ¬ (60 : Int32) ≤ nI st.c from nI_ge hc (by decide)), d]
  simp only [Option.bind_some, lt]
  have e4 : (sI h g 3 ti).1 (g + 1) to = nI (st.s to) := by rw [sI_row _ _ _ (by omega), c4 to t2]
  rw [if_pos (ix6 t2), if_pos (ix6 t2), cl6' t2, e4, nI_1]
  rw [priceNext8 (h := sI (sI h g 3 ti) (g + 1) to (nI (st.s to + 1))) (p := p) (N := N) (Wk := W to) (sk := st.s to + 1) (Pk (fun j hj => by rw [sI_row _ _ _ (by omega), sI_row _ _ _ (by omega)])) v hw t2 (by rw [sI1, if_pos rfl, if_pos rfl]) (c2 to t2) (by omega)]
  simp only [Option.bind_some, sL1]
  have e2 : (sI (sI h g 3 ti) (g + 1) to (nI (st.s to + 1))).1 g 2 = nI st.c := by
    rw [sI_row _ _ _ (by omega), sI1, if_pos rfl, if_neg (by decide), c7]
  simp only [e2, ix_nI hc (show 60 < 2 ^ 31 by decide), if_true, nI_clamp (show st.c < 2 ^ 31 by omega), nI_1]
  refine ⟨_, ⟨?_, ?_⟩, rfl⟩
  · unfold rnd ClS
    rw [hto, hti]
    simp only [gs_s, gs_c, gs_w, gs_x]
    refine ⟨?_, fun k hk => ?_, fun k hk => ?_, fun k hk => ?_, fun k hk => ?_, fun k hk => ?_, ?_, fun i hi => ?_, ?_⟩
    · simp [sI1, sL1, c1]
    · simp [sI_2, sL2]
      exact c2 k hk
    · simp [sI1, sL1]
      exact c3 k hk
    · simp [sI1, sL1]
      by_cases ek : k = to
      · subst ek
        rw [if_pos rfl, up_self]
      · rw [if_neg ek, up_ne _ _ ek]
        exact c4 k hk
    · simp [sI_2, sL2]
      by_cases ek : k = to
      · subst ek
        rw [if_pos rfl, up_self]
      · rw [if_neg ek, up_ne _ _ ek]
        exact c5 k hk
    · simp [sI_2, sL2]
      by_cases ek : k = to
      · subst ek
        rw [if_pos rfl, up_self]
      · rw [if_neg ek, up_ne _ _ ek]
        exact c6 k hk
    · simp [sI1, sL1]
    · simp [sI1, sL1]
      by_cases ek : i = st.c
      · subst ek
        rw [if_pos rfl, up_self]
      · rw [if_neg ek, up_ne _ _ ek]
        exact c8 i (by omega)
    · simp [sI1, sL1]
  · exact Pk (fun j hj => by
      rw [sI_row _ _ _ (by omega), sI_row _ _ _ (by omega), sL1, sL1, sI_row _ _ _ (by omega), sI_row _ _ _ (by omega)])
theorem rnds_sum {N : Nat → Nat} {w : Nat} {P : Nat → Bool} (hP : anyP P = true) {W : Nat → Nat} (st : GS) : ∀ n, sF (rnds N w P W st n).s 6 = sF st.s 6 + n ∧ (rnds N w P W st n).c = st.c + n := by
  intro n
  induction n with
  | zero => exact ⟨rfl, rfl⟩
  | succ n ih =>
    obtain ⟨t1, t2, t3⟩ := toN_any (N := N) (w := w) (W := W) (s := (rnds N w P W st n).s) hP
    show sF (rnd N w P W (rnds N w P W st n)).s 6 = _ ∧ (rnd N w P W (rnds N w P W st n)).c = _
    unfold rnd
    rw [gs_s, gs_c]
    have := sF_up (F := (rnds N w P W st n).s) (v := (rnds N w P W st n).s (toN N w P W (rnds N w P W st n).s) + 1) t2
    omega
/-- the class's giver, those that claim entered -/
def ClE (P : Nat → Bool) (W F : Nat → Nat) (h : Hp) (g : Nat) : Prop := h.1 g 4 = bits6 P ∧ (∀ k, k < 6 → h.2 (g + 3) k = lN (W k)) ∧ (∀ k, k < 6 → h.1 (g + 4) k = nI (F k)) ∧ h.1 g 2 = 0 ∧ h.1 g 3 = 0
def gs0 (F : Nat → Nat) : GS := GS.mk F 0 (fun _ => 0) 0
theorem giveP8 {N : Nat → Nat} (v : Vn N) {w : Nat} (hw : w ≤ 6) {P : Nat → Bool} (hP : anyP P = true) {W F : Nat → Nat} (bW : ∀ k, k < 6 → W k ≤ 2400000) (bF : sF F 6 ≤ 100) {g p : Nat} (hpg : p + 5 ≤ g) {h : Hp} (a : Pc h p N) (hE : ClE P W F h g) {H : Nat} (hH : H ≤ 60) : ∃ b, f_X0_giveByPrices g p (nI w) (nI H) h = some b ∧ ((sF F 6 ≤ H ∧ b.1 = 1 ∧ ClS N w P W F b.2 g (rnds N w P W (gs0 F) (H - sF F 6))) ∨ (H < sF F 6 ∧ b.1 = 0)) := by
  have bs : ∀ k, k < 6 → F k ≤ 100 := fun k hk => by
    have := sF_le (F := F) hk
    omega
  unfold f_X0_giveByPrices
  refine lp_inv (F := Nat → Nat → Int32 → Int32 → Int32 → Int32 → Hp → Option (Int32 × Hp)) (bot := fun _ _ _ _ _ _ _ => none) (G := f_X0_giveByPrices_6) (fun K i (h : Hp) => K g p (nI w) (nI H) (nI (sF F i)) (nI i) h) 6 (fun i h => ClE P W F h g ∧ Pc h p N ∧ ∀ k, k < i → h.1 (g + 1) k = nI (F k) ∧ h.2 (g + 5) k = lN (pay N w (W k) (F k + 1)) ∧ h.2 (g + 6) k = lN (mrk N w (F k + 1))) _ ?_ ?_ 1000 0 h (by omega) (by omega) ⟨hE, a, fun k hk => by omega⟩
  · rintro K i h hi ⟨⟨c1, c2, c3, c4, c5⟩, a, hk⟩
    have e1 : (sI h (g + 1) i (nI (F i))).1 (g + 4) i = nI (F i) := by rw [sI_row _ _ _ (by omega), c3 i hi]
    have a1 : Pc (sI h (g + 1) i (nI (F i))) p N := a.keep (fun j hj => sI_row _ _ _ (by omega))
    have q := priceNext8 (h := sI h (g + 1) i (nI (F i))) (g := g) (Wk := W i) (sk := F i) a1 v hw hi (by rw [sI1, if_pos rfl, if_pos rfl]) (c2 i hi) (by have := bs i hi; omega)
    refine ⟨sL (sL (sI h (g + 1) i (nI (F i))) (g + 5) i (lN (pay N w (W i) (F i + 1)))) (g + 6) i (lN (mrk N w (F i + 1))), ⟨⟨?_, fun k hk => ?_, fun k hk => ?_, ?_, ?_⟩, ?_, fun k hk2 => ?_⟩, ?_⟩
    · simp [sI1, sL1, c1]
    · simp [sI_2, sL2]
      exact c2 k hk
    · simp [sI1, sL1]
      exact c3 k hk
    · simp [sI1, sL1, c4]
    · simp [sI1, sL1, c5]
    · exact a1
    · simp [sI1, sL1, sI_2, sL2]
      by_cases ek : k = i
      · subst ek
        simp
      · rw [if_neg ek, if_neg ek, if_neg ek]
        exact hk k (by omega)
    · show f_X0_giveByPrices_6 K g p (nI w) (nI H) (nI (sF F i)) (nI i) h = _
      unfold f_X0_giveByPrices_6
      rw [if_neg (ge6 hi), if_pos (ix6 hi), if_pos (ix6 hi), cl6' hi, c3 i hi]
      simp only [lt]
      rw [if_pos (ix6 hi), q, e1]
      simp only [Option.bind_some, nI_1, nI_add]
      rfl
  · rintro K h ⟨⟨c1, c2, c3, c4, c5⟩, a, hk⟩
    show ∃ b, f_X0_giveByPrices_6 K g p (nI w) (nI H) (nI (sF F 6)) (nI 6) h = some b ∧ _
    unfold f_X0_giveByPrices_6
    rw [if_pos (show (6 : Int32) ≤ nI 6 by decide)]
    by_cases hF : sF F 6 ≤ H
    · rw [if_pos (nI_le hF (by omega))]
      have hS : ClS N w P W F h g (gs0 F) := ⟨c1, c2, c3, fun k h6 => (hk k h6).1, fun k h6 => (hk k h6).2.1, fun k h6 => (hk k h6).2.2, c4, fun i hi => absurd (show i < 0 from hi) (by omega), c5⟩
      refine lp_inv (F := Nat → Nat → Int32 → Int32 → Int32 → Hp → Option (Int32 × Hp)) (bot := fun _ _ _ _ _ _ => none) (G := f_X0_giveByPrices_65) (fun K i (h : Hp) => K g p (nI w) (nI H) (nI i) h) H (fun i h => ClS N w P W F h g (rnds N w P W (gs0 F) (i - sF F 6)) ∧ Pc h p N ∧ sF F 6 ≤ i) _ ?_ ?_ 1000 (sF F 6) h hF (by omega) ⟨by rw [Nat.sub_self]; exact hS, a, Nat.le_refl _⟩
      · rintro K i h hi ⟨q1, q2, q3⟩
        obtain ⟨n, rfl⟩ : ∃ n, i = sF F 6 + n := ⟨i - sF F 6, by omega⟩
        have r := rnds_sum (N := N) (w := w) (W := W) hP (gs0 F) n
        rw [show sF F 6 + n - sF F 6 = n by omega] at q1
        have s0 : sF (gs0 F).s 6 = sF F 6 := rfl
        have c0 : (gs0 F).c = 0 := rfl
        obtain ⟨h', ⟨r1, r2⟩, r3⟩ := round8 v hw hP bW hpg q2 q1 (by omega) (by omega) hi (by omega) K
        refine ⟨h', ⟨?_, r2, by omega⟩, r3⟩
        rw [show sF F 6 + n + 1 - sF F 6 = n + 1 by omega]
        exact r1
      · rintro K h ⟨q1, q2, q3⟩
        show ∃ b, f_X0_giveByPrices_65 K g p (nI w) (nI H) (nI H) h = some b ∧ _
        unfold f_X0_giveByPrices_65
        rw [if_pos (nI_le (Nat.le_refl H) (by omega))]
        exact ⟨(1, h), rfl, Or.inl ⟨hF, rfl, q1⟩⟩
    · rw [if_neg (by rw [nI_leI (by omega) (by omega)]; exact hF)]
      exact ⟨(0, h), rfl, Or.inr ⟨by omega, rfl⟩⟩
/-- the reference in the midst of giving by price -/
def RfS (P : Nat → Bool) (W F : Nat → Nat) (h : Hp) (st : GS) : Prop := RfH h P W F st.s ∧ h.1 108 14 = nI st.c ∧ (∀ i, i < st.c → h.1 117 i = nI (st.wt i)) ∧ h.1 108 15 = st.x
theorem tie9 {h : Hp} {N W F s : Nat → Nat} {P : Nat → Bool} (b : Po h 109 N) (v : Vn N) {w : Nat} (hw : w ≤ 6) (r : RfH h P W F s) (bW : ∀ k, k < 6 → W k ≤ 2400000) (bs : ∀ k, k < 6 → s k ≤ 299) {to c : Nat} (ht : to < 6) (h14 : h.1 108 14 = nI c) (hc : c < 60) {L n : Nat} (k45 : Nat → Int32 → Int32 → Int32 → Hp → Option (Int32 × Hp)) (x0 : Int32) : lp (F := Nat → Int32 → Int32 → Int32 → Int32 → Int32 → Hp → Option (Int32 × Hp)) (fun _ _ _ _ _ _ _ => none) (f_X9_givesByPrice_73 k45) 1000 108 (nI w) (nI L) (nI (n + 1)) (nI to) 0 (sI h 108 15 x0) = k45 108 (nI w) (nI L) (nI n) (sI (sI (sI (sI h 108 15 (fu (bitS (tieQ P (cmpK N w W s) to)) 6 x0)) 117 c (nI to)) 108 14 (nI (c + 1))) 116 to (nI (s to + 1))) := by
  refine lp_seq (F := Nat → Int32 → Int32 → Int32 → Int32 → Int32 → Hp → Option (Int32 × Hp)) (bot := fun _ _ _ _ _ _ _ => none) (G := f_X9_givesByPrice_73 k45) (fun K i (x : Int32) => K 108 (nI w) (nI L) (nI (n + 1)) (nI to) (nI i) (sI h 108 15 x)) 6 (fun i => fu (bitS (tieQ P (cmpK N w W s) to)) i x0) _ ?_ ?_ 1000 0 (by omega) (by omega)
  · intro K i hi
    show f_X9_givesByPrice_73 k45 K 108 (nI w) (nI L) (nI (n + 1)) (nI to) (nI i) (sI h 108 15 (fu (bitS (tieQ P (cmpK N w W s) to)) i x0)) = K 108 (nI w) (nI L) (nI (n + 1)) (nI to) (nI (i + 1)) (sI h 108 15 (bitS (tieQ P (cmpK N w W s) to) i (fu (bitS (tieQ P (cmpK N w W s) to)) i x0)))
    generalize fu (bitS (tieQ P (cmpK N w W s) to)) i x0 = x
    obtain ⟨r1, r2, r3, r4⟩ := r i hi
    obtain ⟨q1, q2, q3, q4⟩ := r to ht
    have w1 := bW i hi
    have w2 := bW to ht
    have s1 := bs i hi
    have s2 := bs to ht
    have row : ∀ k, k ≠ 108 → (sI h 108 15 x).1 k = h.1 k := fun k hk => sI_row _ _ _ hk
    have e15 : (sI h 108 15 x).1 108 15 = x := by rw [sI1, if_pos rfl, if_pos rfl]
    have b' : Po (sI h 108 15 x) 109 N := b.keep (row 109 (by decide))
    unfold f_X9_givesByPrice_73 f_X9_givesByPrice_151 f_X9_givesByPrice_152
    rw [if_neg (ge6 hi), cl6' hi, cl6' ht, e15, row (108 + 5) (by decide), row (108 + 6) (by decide), row (108 + 8) (by decide), show h.1 (108 + 5) i = _ from r1, show h.1 (108 + 6) i = _ from r2, show h.1 (108 + 8) i = _ from r4, show h.1 (108 + 6) to = _ from q2, show h.1 (108 + 8) to = _ from q4]
    simp only [lt, nI_1, sI_sI, or0]
    by_cases ei : i = to
    · rw [if_pos (by rw [ei]), bitS_f _ (by unfold tieQ; simp [ei])]
    · rw [if_neg (by rw [nI_eq (by omega) (by omega)]; exact ei), if_pos (ix6 hi)]
      by_cases hP : P i = true
      · rw [if_pos hP, if_neg one_ne, if_pos (ix6 hi), if_pos (ix6 hi), if_pos (ix6 ht), if_pos (ix6 ht), nI_l (by omega), nI_l (by omega), dearer9 b' v hw (by omega) (by omega) (by omega) (by omega) w1 w2]
        simp only [Option.bind_some, sI_sI]
        by_cases hz : cmpK N w W s i to = 0
        · rw [if_pos (show cmpS _ _ _ _ = 0 from hz), bitS_t _ (by unfold tieQ; simp [ei, hP, hz])]
        · rw [if_neg (show ¬ cmpS _ _ _ _ = 0 from hz), bitS_f _ (by unfold tieQ; simp [hz])]
      · rw [if_neg hP, if_pos rfl, bitS_f _ (by unfold tieQ; simp [hP])]
  · intro K
    show f_X9_givesByPrice_73 k45 K 108 (nI w) (nI L) (nI (n + 1)) (nI to) (nI 6) (sI h 108 15 (fu (bitS (tieQ P (cmpK N w W s) to)) 6 x0)) = _
    generalize fu (bitS (tieQ P (cmpK N w W s) to)) 6 x0 = x
    unfold f_X9_givesByPrice_73
    have e14 : (sI h 108 15 x).1 108 14 = nI c := by rw [sI1, if_pos rfl, if_neg (by decide), h14]
    have e14b : (sI (sI h 108 15 x) 117 c (nI to)).1 108 14 = nI c := by rw [sI_row _ _ _ (by decide), e14]
    have e16 : (sI (sI (sI h 108 15 x) 117 c (nI to)) 108 14 (nI (c + 1))).1 116 to = nI (s to) := by rw [sI_row _ _ _ (by decide), sI_row _ _ _ (by decide), sI_row _ _ _ (by decide), (r to ht).2.2.2]
    rw [if_pos (show (6 : Int32) ≤ nI 6 by decide), e14, if_pos (ix_nI hc (by decide)), nI_clamp (by omega)]
    simp only [lt, cl6' ht, ix6 ht, if_true, show 108 + 9 = 117 from rfl, show 108 + 8 = 116 from rfl, e14b, nI_1, e16, pk_m1]
theorem round9 {N : Nat → Nat} (v : Vn N) {w : Nat} (hw : w ≤ 6) {P : Nat → Bool} (hP : anyP P = true) {W F : Nat → Nat} (bW : ∀ k, k < 6 → W k ≤ 2400000) {h : Hp} (b : Po h 109 N) {st : GS} (hS : RfS P W F h st) (hs : sF st.s 6 ≤ 200) (hc : st.c < 60) {L n : Nat} (hn : n < 1000) (K : Nat → Int32 → Int32 → Int32 → Hp → Option (Int32 × Hp)) : ∃ h', (RfS P W F h' (rnd N w P W st) ∧ Po h' 109 N) ∧ f_X9_givesByPrice_45 K 108 (nI w) (nI L) (nI (n + 1)) h = K 108 (nI w) (nI L) (nI n) h' := by
  obtain ⟨r, h14, h17, h15⟩ := hS
  have bs : ∀ k, k < 6 → st.s k ≤ 200 := fun k hk => by
    have := sF_le (F := st.s) hk
    omega
  obtain ⟨t1, t2, t3⟩ := toN_any (N := N) (w := w) (W := W) (s := st.s) hP
  have d := dearest9 b v hw r bW (fun k hk => by have := bs k hk; omega)
  rw [t1] at d
  have ti := tie9 b v hw r bW (fun k hk => by have := bs k hk; omega) t2 h14 hc (L := L) (n := n) K 0
  unfold f_X9_givesByPrice_45
  rw [if_neg (nI_nle (by omega) (by omega)), d]
  simp only [Option.bind_some, lt]
  have hx : bi (some (toN N w P W st.s)) = nI (toN N w P W st.s) := rfl
  rw [hx, if_neg (show ¬ nI (toN N w P W st.s) = -1 from fun z => nI_pos (n := toN N w P W st.s) (by omega) (by rw [z]; decide)), ti]
  refine ⟨_, ⟨?_, ?_⟩, rfl⟩
  · unfold rnd RfS RfH
    simp only [gs_s, gs_c, gs_w, gs_x]
    generalize toN N w P W st.s = to at t2
    refine ⟨fun k hk => ?_, ?_, fun i hi => ?_, ?_⟩
    · obtain ⟨r1, r2, r3, r4⟩ := r k hk
      refine ⟨?_, ?_, ?_, ?_⟩
      · simp [sI1, r1]
      · simp [sI1, r2]
      · simp [sI1, r3]
      · simp [sI1, r4]
        by_cases ek : k = to
        · subst ek
          rw [if_pos rfl, up_self]
        · rw [if_neg ek, up_ne _ _ ek]
    · simp [sI1]
    · simp [sI1]
      by_cases ek : i = st.c
      · subst ek
        rw [if_pos rfl, up_self]
      · rw [if_neg ek, up_ne _ _ ek]
        exact h17 i (by omega)
    · simp [sI1]
  · exact b.keep (by rw [sI_row _ _ _ (by decide), sI_row _ _ _ (by decide), sI_row _ _ _ (by decide), sI_row _ _ _ (by decide)])
