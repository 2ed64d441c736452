theorem C8.y {N : Nat → Nat} {h h' : Hp} (c : C8 N h) (e : ∀ r, r = 56 ∨ r = 57 ∨ r = 67 ∨ r = 77 → h'.1 r = h.1 r) (e0 : h'.1 58 0 = h.1 58 0) (e1 : h'.1 58 1 = h.1 58 1) : C8 N h' := by
  unfold C8
  rw [e 56 (by omega), e 57 (by omega), e 67 (by omega), e 77 (by omega), e0, e1]
  exact c
/-- a part of a ring told -/
def prN (k : Nat) (rw' rp : Nat → Nat) (q : Nat) : Int32 := if q = 0 then nI k else if (q - 1) % 4 < k then (if q ≤ 4 then nI (rw' ((q - 1) % 4)) else nI (rp ((q - 1) % 4))) else -5
theorem part8 {h : Hp} {k : Nat} {rw' rp : Nat → Nat} (hk : k ≤ 4) (r : Rk k rw' rp k h) {q : Nat} (hq : q ≤ 8) : f_X4_partOfRing 58 (nI q) h = some (prN k rw' rp q, h) := by
  unfold f_X4_partOfRing prN
  by_cases z : q = 0
  · rw [if_neg (show ¬ (1 : Int32) ≤ nI q by rw [z]; decide), if_pos z, r.1]
  · have hm := Nat.mod_lt (q - 1) (show 0 < 4 by decide)
    rw [if_pos (show (1 : Int32) ≤ nI q from nI_le (a := 1) (by omega) (by omega)), if_neg (by decide), if_neg z, nI_m1 (by omega), show (4 : Int32) = nI 4 from rfl, pk_rem (by omega) (by decide) (by decide)]
    dsimp only [lt]
    rw [r.1]
    by_cases l : (q - 1) % 4 < k
    · rw [if_pos (nI_lt l (by omega)), if_pos l]
      by_cases q4 : q ≤ 4
      · rw [if_neg (nI_nlt (by omega) (by omega)), if_pos (ix4 hm), nI_clamp (by omega), if_pos q4, show h.1 (58 + 1) ((q - 1) % 4) = _ from r.2.1 _ l]
      · rw [if_pos (nI_lt (by omega) (by omega)), if_pos (ix4 hm), nI_clamp (by omega), if_neg q4, show h.1 (58 + 2) ((q - 1) % 4) = _ from (r.2.2 _ l).1]
    · rw [if_neg (nI_nlt (by omega) (by omega)), if_neg l]
theorem copyOut8 {h : Hp} {r n j : Nat} (hr : r < 4) (hn : n ≤ 40) (hj : j + 24 ≤ n) (e : h.1 106 r = nI n) : ∃ b, f_X6_copyOut 100 (nI r) (nI j) 107 h = some b ∧ (b.1 = 1 ∧ (∀ k, k ≠ 107 → b.2.1 k = h.1 k) ∧ ∀ c, c < 24 → b.2.1 107 c = h.1 (102 + r) (j + c)) := by
  unfold f_X6_copyOut
  rw [if_neg (nI_pos (by omega)), if_pos (ix4 hr), nI_clamp (by omega), show h.1 (100 + 6) r = _ from e, show (24 : Int32) = nI 24 from rfl, pk_sub (by omega), if_pos (nI_le (by omega) (by omega))]
  refine lp_inv (F := Nat → Int32 → Int32 → Nat → Int32 → Hp → Option (Int32 × Hp)) (bot := fun _ _ _ _ _ _ => none) (G := f_X6_copyOut_22) (fun K i (h : Hp) => K 100 (nI r) (nI j) 107 (nI i) h) 24 (fun i h' => (∀ k, k ≠ 107 → h'.1 k = h.1 k) ∧ ∀ c, c < i → h'.1 107 c = h.1 (102 + r) (j + c)) _ ?_ ?_ 1000 0 h (by omega) (by omega) ⟨fun _ _ => rfl, fun c hc => absurd hc (Nat.not_lt_zero c)⟩
  · rintro K c h1 hc ⟨d1, d2⟩
    show ∃ s', _ ∧ f_X6_copyOut_22 K 100 (nI r) (nI j) 107 (nI c) h1 = _
    unfold f_X6_copyOut_22
    rw [if_neg (show ¬ (24 : Int32) ≤ nI c from nI_ge (b := 24) hc (by decide)), if_pos (ix4 hr), nI_add, if_pos (ix_nI (by omega) (by decide)), show ln 107 = 24 from rfl, if_pos (ix24 hc), nI_clamp (show c < 2 ^ 31 by omega), nI_clamp (show r < 2 ^ 31 by omega), nI_clamp (show j + c < 2 ^ 31 by omega), show h1.1 (100 + 1 + 1 + r) (j + c) = h.1 (102 + r) (j + c) by rw [d1 (100 + 1 + 1 + r) (by omega)]]
    dsimp only [lt]
    rw [nI_1]
    refine ⟨_, ⟨fun k hk => by rw [sI_row _ _ _ hk]; exact d1 k hk, fun t ht => ?_⟩, rfl⟩
    rw [sI1, if_pos rfl]
    by_cases et : t = c
    · rw [if_pos et, et]
    · rw [if_neg et]
      exact d2 t (by omega)
  · rintro K h1 ⟨d1, d2⟩
    show ∃ b, f_X6_copyOut_22 K 100 (nI r) (nI j) 107 (nI 24) h1 = some b ∧ _
    unfold f_X6_copyOut_22
    rw [if_pos (show (24 : Int32) ≤ nI 24 by decide), if_pos isB1]
    exact ⟨_, rfl, rfl, d1, d2⟩
/-- the verdict of the rings of told seats -/
def jdN (N s : Nat → Nat) (q : Nat) : Int32 := match fB N s (hasSeat N) (isInN N) with
  | none => -5
  | some (_, none) => -6
  | some (k, some x) => prN k x.1 x.2 q
theorem judge9L {N : Nat → Nat} (v : Vn N) (hc : canP N = true) {h : Hp} (b : Po h 109 N) (l : Ls (hasSeat N) (isInN N) h) (e130 : ∀ p, p < 6 → h.1 130 p = nI (D0 N p)) {r n j q : Nat} (hr : r < 4) (hn : n ≤ 40) (hj : j + 24 ≤ n) (hq : q ≤ 8) : ∃ o, lp (F := Nat → Int32 → Int32 → Int32 → Int32 → Hp → Option (Int32 × Hp)) (fun _ _ _ _ _ _ => none) f_X9_judge_51 1000 108 (nI r) (nI j) (nI q) 0 h = some o ∧ ((TK (fun c => if c < 24 then h.1 134 (40 * r + j + c) else 0) N (D0 N) ∧ o.1 = jdN N (jN (fun c => if c < 24 then h.1 134 (40 * r + j + c) else 0)) q) ∨ (¬ TK (fun c => if c < 24 then h.1 134 (40 * r + j + c) else 0) N (D0 N) ∧ o.1 = -3)) := by
  obtain ⟨hpw, -, -, -⟩ := canP_w hc
  refine lp_inv (F := Nat → Int32 → Int32 → Int32 → Int32 → Hp → Option (Int32 × Hp)) (bot := fun _ _ _ _ _ _ => none) (G := f_X9_judge_51) (fun K i (h : Hp) => K 108 (nI r) (nI j) (nI q) (nI i) h) 24 (fun i h' => (∀ k, k ≠ 136 → h'.1 k = h.1 k) ∧ ∀ c, c < i → h'.1 136 c = h.1 134 (40 * r + j + c)) _ ?_ ?_ 1000 0 h (by omega) (by omega) ⟨fun _ _ => rfl, fun c hc => absurd hc (Nat.not_lt_zero c)⟩
  · rintro K c h1 hc' ⟨d1, d2⟩
    show ∃ s', _ ∧ f_X9_judge_51 K 108 (nI r) (nI j) (nI q) (nI c) h1 = _
    unfold f_X9_judge_51
    rw [if_neg (show ¬ (24 : Int32) ≤ nI c from nI_ge (b := 24) hc' (by decide)), c40, if_pos (ix_nI (by omega) (by decide)), if_pos (ix24 hc'), nI_clamp (show c < 2 ^ 31 by omega), nI_clamp (show 40 * r + j + c < 2 ^ 31 by omega), show h1.1 (108 + 26) (40 * r + j + c) = h.1 134 (40 * r + j + c) by rw [d1 (108 + 26) (by decide)]]
    dsimp only [lt]
    rw [nI_1]
    refine ⟨_, ⟨fun k hk => by rw [sI_row _ _ _ hk]; exact d1 k hk, fun t ht => ?_⟩, rfl⟩
    rw [sI1, if_pos rfl]
    by_cases et : t = c
    · rw [if_pos et, et]
    · rw [if_neg et]
      exact d2 t (by omega)
  · rintro K h1 ⟨d1, d2⟩
    have b1 : Po h1 109 N := b.keep (d1 109 (by decide))
    have l1 : Ls (hasSeat N) (isInN N) h1 := by
      unfold Ls
      rw [d1 108 (by decide), d1 128 (by decide), d1 129 (by decide)]
      exact l
    generalize hJ : (fun c => if c < 24 then h.1 134 (40 * r + j + c) else 0) = J
    have eJ : ∀ c, c < 24 → h1.1 136 c = J c := fun c hc' => by rw [d2 c hc', ← hJ]; exact (if_pos hc').symm
    obtain ⟨x, e1, x2, q1⟩ := planned9 (D := D0 N) v (D0_le v hc) D0_0 b1 (J := J) eJ (fun p hp => by rw [d1 130 (by decide)]; exact e130 p hp)
    show ∃ o, f_X9_judge_51 K 108 (nI r) (nI j) (nI q) (nI 24) h1 = some o ∧ _
    unfold f_X9_judge_51
    rw [if_pos (show (24 : Int32) ≤ nI 24 by decide), e1, Option.bind_some, x2]
    rcases q1 with ⟨t1, t2⟩ | ⟨t1, t2⟩
    · rw [if_neg (by rw [t2]; exact one_ne)]
      have hs : ∀ c, c < 24 → jN J c ≤ 260 := fun c hc' => by
        have q1 := t1.2.1 (c / 6) (by omega)
        have q2 := sF_le (F := fun p => jN J (6 * (c / 6) + p)) (Nat.mod_lt c (show 0 < 6 by decide))
        rw [show 6 * (c / 6) + c % 6 = c by omega] at q2
        have := ws_le v (show c / 6 < 4 by omega)
        omega
      obtain ⟨o, e2, q2⟩ := finds9 (Qw := hasSeat N) (Qp := isInN N) v hpw (s := jN J) hs (a := 136) (by decide) (by decide) (by decide) rfl l1 b1 (fun c hc' => by rw [eJ c hc']; exact (jN_eq (t1.1 c hc')).1)
      rw [show f_X9_finds 108 (108 + 28) h1 = some o from e2, Option.bind_some]
      unfold jdN
      cases hf : fB N (jN J) (hasSeat N) (isInN N) with
      | none =>
        rw [hf] at q2
        rw [if_pos (show o.2.1 108 38 = 0 from q2.2), if_pos (show o.1 = 0 from q2.1)]
        exact ⟨_, rfl, Or.inl ⟨t1, rfl⟩⟩
      | some y =>
        obtain ⟨k, y⟩ := y
        rw [hf] at q2
        cases y with
        | none =>
          rw [if_neg (by rw [show o.2.1 108 38 = 1 from q2.2]; exact one_ne)]
          exact ⟨_, rfl, Or.inl ⟨t1, rfl⟩⟩
        | some z =>
          have u1 : o.1 = 1 := q2.1
          have u2 : o.2.1 108 38 = 0 := q2.2.1
          have qk : Qk k z.1 z.2 k o.2 := q2.2.2
          obtain ⟨g1, g2, -, -⟩ := fB_gd hf
          rw [if_pos u2, if_neg (by rw [u1]; exact one_ne)]
          by_cases z0 : q = 0
          · rw [if_pos (by rw [z0]; rfl), qk.1]
            exact ⟨_, rfl, Or.inl ⟨t1, show nI k = prN k z.1 z.2 q by unfold prN; rw [if_pos z0]⟩⟩
          · have hm := Nat.mod_lt (q - 1) (show 0 < 4 by decide)
            rw [if_neg (nI_ne0 (by omega) (by omega)), if_neg (by decide), nI_m1 (by omega), show (4 : Int32) = nI 4 from rfl, pk_rem (by omega) (by decide) (by decide)]
            dsimp only [lt]
            rw [qk.1]
            by_cases l4 : (q - 1) % 4 < k
            · rw [if_pos (nI_lt l4 (by omega))]
              by_cases q4 : q ≤ 4
              · rw [if_neg (nI_nlt (by omega) (by omega)), if_pos (ix4 hm), nI_clamp (by omega), show o.2.1 (108 + 24) ((q - 1) % 4) = _ from qk.2.1 _ l4]
                exact ⟨_, rfl, Or.inl ⟨t1, show nI (z.1 ((q - 1) % 4)) = prN k z.1 z.2 q by unfold prN; rw [if_neg z0, if_pos l4, if_pos q4]⟩⟩
              · rw [if_pos (nI_lt (by omega) (by omega)), if_pos (ix4 hm), nI_clamp (by omega), show o.2.1 (108 + 25) ((q - 1) % 4) = _ from qk.2.2 _ l4]
                exact ⟨_, rfl, Or.inl ⟨t1, show nI (z.2 ((q - 1) % 4)) = prN k z.1 z.2 q by unfold prN; rw [if_neg z0, if_pos l4, if_neg q4]⟩⟩
            · rw [if_neg (nI_nlt (by omega) (by omega))]
              exact ⟨_, rfl, Or.inl ⟨t1, show (-5 : Int32) = prN k z.1 z.2 q by unfold prN; rw [if_neg z0, if_neg l4]⟩⟩
    · rw [if_pos t2]
      exact ⟨_, rfl, Or.inr ⟨t1, rfl⟩⟩
abbrev JR : List Nat := [113, 114, 115, 116, 117, 118, 119, 120, 121, 122, 123, 124, 125, 128, 129, 130, 132, 133, 136]
abbrev JC : List Nat := [14, 15, 24, 25, 31, 32, 35, 38]
/-- the reference's judging keeps the relation -/
theorem judgeK {N : Nat → Nat} {h o : Hp} {x : Int32} {z1 z2 z3 : Int32} (hR : RelN PKd N h) (e : f_X9_judge 108 z1 z2 z3 h = some (x, o)) : RelN PKd N o := hR.keep PKd_ok (Keep.ofFx (mf_X9_judge e : Fx JR JC h o) (by decide) (by decide))
/-- the class's judging up to the told seats -/
theorem judge8 {N : Nat → Nat} {h : Hp} (hR : RelN PKd N h) {r n j q : Nat} (hr : r ≤ 3) (hn : n ≤ 40) (hj : j + 24 ≤ n) (hq : q ≤ 8) (e106 : h.1 106 r = nI n) : ∃ x b, f_X8_judge 0 (nI r) (nI j) (nI q) h = some (x, b) ∧ RelN PKd N b ∧ ((canP N = false ∧ x = -3) ∨ (canP N = true ∧ ((TK (fun c => if c < 24 then h.1 (102 + r) (j + c) else 0) N (D0 N) ∧ x = jdN N (jN (fun c => if c < 24 then h.1 (102 + r) (j + c) else 0)) q) ∨ (¬ TK (fun c => if c < 24 then h.1 (102 + r) (j + c) else 0) N (D0 N) ∧ x = -3)))) := by
  have v := hR.1
  obtain ⟨⟨x0, b0⟩, e0, y0, d1, d2⟩ := copyOut8 (show r < 4 by omega) hn hj e106
  dsimp only at y0 d1 d2
  subst y0
  have k0 : Keep h b0 := by
    have z1 : ∀ k ∈ keepRows, k ≠ 107 := by decide
    have z2 : ∀ q ∈ keepCells, q.1 ≠ 107 := by decide
    exact ⟨fun k hk => d1 k (z1 k hk), fun q hq => by rw [d1 q.1 (z2 q hq)]⟩
  have R0 := hR.keep PKd_ok k0
  obtain ⟨b, e, c, R1⟩ := settleR R0
  have fs := mf_X2_settle e
  dsimp only at fs
  generalize hJ : (fun c => if c < 24 then h.1 (102 + r) (j + c) else 0) = J
  have eJ : ∀ c, c < 24 → b.1 107 c = J c := fun c hc => by rw [(fs 107 (by omega) (by simp)).1, d2 c hc, ← hJ]; exact (if_pos hc).symm
  have pre : ∀ y, f_X8_judge 0 (nI r) (nI j) (nI q) h = y ↔ (if ocN N = ((-3)) then (some ((-3), b)) else ((f_X2_takes 56 1 107 b).bind (fun q5 => if q5.1 = 0 then (some ((-3), q5.2)) else ((f_X4_firstBetter 58 1 107 q5.2).bind (fun q6 => if 0 ≤ q6.1 then (if q6.1 = 0 then (some ((-5), q6.2)) else ((f_X4_partOfRing 58 (nI q) q6.2).bind (fun q7 => some (q7.1, q7.2)))) else (some (q6.1, q6.2))))))) = y := fun y => by
    unfold f_X8_judge
    rw [w8i_3 _ hr, Option.bind_some, if_neg one_ne, w8i_8 _ hq, Option.bind_some, if_neg one_ne, show f_X6_copyOut (0 + 100) (nI r) (nI j) (0 + 107) h = _ from e0, Option.bind_some, if_neg one_ne, show f_X2_settle (0 + 56) (0 + 1) b0 = _ from e, Option.bind_some]
  cases hc : canP N with
  | false =>
    have eo : ocN N = -3 := by unfold ocN; rw [if_neg (by rw [hc]; decide)]
    exact ⟨-3, b, (pre _).mpr (if_pos eo), R1, Or.inl ⟨rfl, rfl⟩⟩
  | true =>
    have neo : ¬ ocN N = -3 := by
      rcases oc_cases v with ⟨-, q2⟩ | ⟨q1, -⟩ | ⟨-, e', he', q2⟩
      · rw [hc] at q2
        cases q2
      · rw [q1]
        decide
      · rw [q2]
        exact fun z => nI_pos (n := e') (by omega) (by rw [z]; decide)
    obtain ⟨hpw, -, -, -⟩ := canP_w hc
    obtain ⟨c67, c77, c580, c581, c57⟩ := c.2.2 hc
    obtain ⟨⟨x, bx⟩, e1, x2, q1⟩ := takes8 (D := D0 N) v (D0_le v hc) R1.2.1 (J := J) eJ c77
    dsimp only at x2 q1
    subst x2
    rcases q1 with ⟨t1, t2⟩ | ⟨t1, t2⟩
    · subst t2
      have hs : ∀ c, c < 24 → jN J c ≤ 260 := fun c hc' => by
        have q1 := t1.2.1 (c / 6) (by omega)
        have q2 := sF_le (F := fun p => jN J (6 * (c / 6) + p)) (Nat.mod_lt c (show 0 < 6 by decide))
        rw [show 6 * (c / 6) + c % 6 = c by omega] at q2
        have := ws_le v (show c / 6 < 4 by omega)
        omega
      obtain ⟨⟨y, b2⟩, e2, ⟨k1, k2⟩, q2⟩ := first8 (Qw := hasSeat N) (Qp := isInN N) v hpw (s := jN J) hs R1.2.1 (x := 107) (Or.inr (by decide)) rfl (fun c hc' => by rw [eJ c hc']; exact (jN_eq (t1.1 c hc')).1) c580 c581
      have f2 := mf_X4_firstBetter e2
      dsimp only at k1 k2 f2
      have kk : Keep bx b2 := by
        have z1 : ∀ k ∈ keepRows, k < 58 ∨ 67 ≤ k := by decide
        have z2 : ∀ q ∈ keepCells, (q.1 < 58 ∨ 67 ≤ q.1) ∨ q = (58, 0) ∨ q = (58, 1) := by decide
        refine ⟨fun k hk => (f2 k (z1 k hk) (by simp)).1, fun q hq => ?_⟩
        rcases z2 q hq with w | w | w
        · rw [(f2 q.1 w (by simp)).1]
        · rw [w]
          exact k1
        · rw [w]
          exact k2
      have R2 := R1.keep PKd_ok kk
      have out : ∀ y' b', ((if 0 ≤ y then (if y = 0 then (some ((-5 : Int32), b2)) else ((f_X4_partOfRing 58 (nI q) b2).bind (fun q7 => some (q7.1, q7.2)))) else (some (y, b2))) = some (y', b')) → f_X8_judge 0 (nI r) (nI j) (nI q) h = some (y', b') := fun y' b' hh => (pre _).mpr (by
        rw [if_neg neo, e1, Option.bind_some, if_neg one_ne, e2, Option.bind_some]
        exact hh)
      unfold jdN
      cases hf : fB N (jN J) (hasSeat N) (isInN N) with
      | none =>
        rw [hf] at q2
        have u : y = 0 := q2
        exact ⟨-5, b2, out _ _ (by rw [if_pos (by rw [u]; decide), if_pos u]), R2, Or.inr ⟨rfl, Or.inl ⟨t1, rfl⟩⟩⟩
      | some w =>
        obtain ⟨k, w⟩ := w
        rw [hf] at q2
        cases w with
        | none =>
          have u : y = -6 := q2
          exact ⟨-6, b2, out _ _ (by rw [if_neg (by rw [u]; decide), u]), R2, Or.inr ⟨rfl, Or.inl ⟨t1, rfl⟩⟩⟩
        | some w =>
          have u : y = 1 := q2.1
          obtain ⟨g1, g2, -, -⟩ := fB_gd hf
          exact ⟨_, b2, out _ _ (by rw [if_pos (by rw [u]; decide), if_neg (by rw [u]; exact one_ne), part8 g2 q2.2 hq, Option.bind_some]), R2, Or.inr ⟨rfl, Or.inl ⟨t1, rfl⟩⟩⟩
    · subst t2
      exact ⟨-3, bx, (pre _).mpr (by rw [if_neg neo, e1, Option.bind_some, if_pos rfl]), R1, Or.inr ⟨rfl, Or.inr ⟨t1, rfl⟩⟩⟩
theorem judge9 {N : Nat → Nat} {h : Hp} (hR : RelN PKd N h) {r n j q : Nat} (hr : r ≤ 3) (hn : n ≤ 40) (hj : j + 24 ≤ n) (hq : q ≤ 8) (e135 : h.1 135 r = nI n) : ∃ x b, f_X9_judge 108 (nI r) (nI j) (nI q) h = some (x, b) ∧ ((canP N = false ∧ x = -3) ∨ (canP N = true ∧ ((TK (fun c => if c < 24 then h.1 134 (40 * r + j + c) else 0) N (D0 N) ∧ x = jdN N (jN (fun c => if c < 24 then h.1 134 (40 * r + j + c) else 0)) q) ∨ (¬ TK (fun c => if c < 24 then h.1 134 (40 * r + j + c) else 0) N (D0 N) ∧ x = -3)))) := by
  have v := hR.1
  obtain ⟨o, e, q1⟩ := plans9 v hR.2.2.1
  have f1 := mf_X9_plans e
  have e134 : o.2.1 134 = h.1 134 := f1.1 134 (by decide) (by decide)
  rcases q1 with ⟨hc, p1, p2, p3⟩ | ⟨hc, p1⟩
  · obtain ⟨⟨x, o2⟩, e2, q2⟩ := judge9L v hc (h := o.2) (f1.po hR.2.2.1 (by decide)) p2 p3 (show r < 4 by omega) hn hj hq
    rw [e134] at q2
    refine ⟨x, o2, ?_, Or.inr ⟨hc, q2⟩⟩
    generalize hl : lp (F := Nat → Int32 → Int32 → Int32 → Int32 → Hp → Option (Int32 × Hp)) (fun _ _ _ _ _ _ => none) f_X9_judge_51 1000 = LL at e2
    unfold f_X9_judge
    rw [hl, isRowi _ hr, Option.bind_some, if_neg one_ne, w9i_0_8 _ (Nat.zero_le q) hq, Option.bind_some, if_neg one_ne, if_neg (nI_pos (by omega)), if_pos (ix4 (by omega)), nI_clamp (by omega), show h.1 (108 + 27) r = _ from e135, show (24 : Int32) = nI 24 from rfl, pk_sub (by omega), if_neg (nI_nlt (by omega) (by omega)), e, Option.bind_some, if_neg (by rw [p1]; exact one_ne)]
    exact e2
  · refine ⟨-3, o.2, ?_, Or.inl ⟨hc, rfl⟩⟩
    unfold f_X9_judge
    rw [isRowi _ hr, Option.bind_some, if_neg one_ne, w9i_0_8 _ (Nat.zero_le q) hq, Option.bind_some, if_neg one_ne, if_neg (nI_pos (by omega)), if_pos (ix4 (by omega)), nI_clamp (by omega), show h.1 (108 + 27) r = _ from e135, show (24 : Int32) = nI 24 from rfl, pk_sub (by omega), if_neg (nI_nlt (by omega) (by omega)), e, Option.bind_some, if_pos p1]
/-- no 24 from there on -/
theorem judge0 {h : Hp} {r q : Nat} {z x : Int32} (hr : r ≤ 3) (hq : q ≤ 8) (e1 : h.1 106 r = x) (e2 : h.1 135 r = x) (hz : z < 0 ∨ x - 24 < z) : f_X8_judge 0 (nI r) z (nI q) h = some (-3, h) ∧ f_X9_judge 108 (nI r) z (nI q) h = some (-3, h) := by
  constructor
  · unfold f_X8_judge f_X6_copyOut
    rw [w8i_3 _ hr, Option.bind_some, if_neg one_ne, w8i_8 _ hq, Option.bind_some, if_neg one_ne]
    dsimp only
    by_cases n : z < 0
    · rw [if_pos n, if_pos isB0, Option.bind_some, if_pos rfl]
    · rw [if_neg n, if_pos (ix4 (by omega)), nI_clamp (by omega), show h.1 (0 + 100 + 6) r = _ from e1, if_neg (Int32.not_le.mpr (hz.resolve_left n)), if_pos isB0, Option.bind_some, if_pos rfl]
  · unfold f_X9_judge
    rw [isRowi _ hr, Option.bind_some, if_neg one_ne, w9i_0_8 _ (Nat.zero_le q) hq, Option.bind_some, if_neg one_ne]
    dsimp only
    by_cases n : z < 0
    · rw [if_pos n]
    · rw [if_neg n, if_pos (ix4 (by omega)), nI_clamp (by omega), show h.1 (108 + 27) r = _ from e2, if_pos (hz.resolve_left n)]
theorem op_judge (z1 z2 z3 : Int32) : Op (Rel PKd) (fun h => f_X8_judge 0 z1 z2 z3 h) (fun h => f_X9_judge 108 z1 z2 z3 h) := by
  intro h ⟨N, hR⟩
  have v := hR.1
  rcases rng z1 3 (by decide) with ⟨r, hr, rfl⟩ | o1
  · rcases rng z3 8 (by decide) with ⟨q, hq, rfl⟩ | o3
    · rcases hR.2.2.2.2.2.2.1 r (by omega) with ⟨b1, b2⟩ | ⟨n, hn, b1, b2, b3⟩
      · have j0 := judge0 (z := z2) hr hq b1 b2 (by
          by_cases n : z2 < 0
          · exact Or.inl n
          · exact Or.inr (Int32.lt_of_lt_of_le (show (-1 : Int32) - 24 < 0 by decide) (Int32.not_lt.mp n)))
        exact same_op (r := -3) ⟨N, hR⟩ j0.1 j0.2
      · by_cases hj : ∃ j, j + 24 ≤ n ∧ z2 = nI j
        · obtain ⟨j, hj, rfl⟩ := hj
          obtain ⟨x, b, e1, R1, q1⟩ := judge8 hR hr hn hj hq b1
          have e135 : b.1 135 r = nI n := by
            rcases R1.2.2.2.2.2.2.1 r (by omega) with ⟨c1, c2⟩ | ⟨m, m1, m2, m3, m4⟩
            · exfalso
              have f8 := mf_X8_judge e1
              have e : b.1 135 = h.1 135 := (f8 135 (by omega) (by simp)).1
              rw [e, b2] at c2
              exact nI_pos (n := n) (by omega) (by rw [c2]; decide)
            · have f8 := mf_X8_judge e1
              have e : b.1 135 = h.1 135 := (f8 135 (by omega) (by simp)).1
              rw [e]
              exact b2
          obtain ⟨y, o, e2, q2⟩ := judge9 R1 hr hn hj hq e135
          have f8 := mf_X8_judge e1
          have e134 : b.1 134 = h.1 134 := (f8 134 (by omega) (by simp)).1
          rw [e134] at q2
          have eJ : ∀ c, c < 24 → h.1 (102 + r) (j + c) = h.1 134 (40 * r + j + c) := fun c hc => by rw [b3 (j + c) (by omega), Nat.add_assoc]
          have EJ : (fun c => if c < 24 then h.1 (102 + r) (j + c) else 0) = (fun c => if c < 24 then h.1 134 (40 * r + j + c) else 0) := by
            funext c
            by_cases hc : c < 24
            · rw [if_pos hc, if_pos hc]
              exact eJ c hc
            · rw [if_neg hc, if_neg hc]
          rw [EJ] at q1
          have exy : x = y := by
            rcases q1 with ⟨k1, k2⟩ | ⟨k1, k2⟩
            · rcases q2 with ⟨k3, k4⟩ | ⟨k3, k4⟩
              · rw [k2, k4]
              · rw [k1] at k3
                cases k3
            · rcases q2 with ⟨k3, k4⟩ | ⟨k3, k4⟩
              · rw [k1] at k3
                cases k3
              · rcases k2 with ⟨t1, t2⟩ | ⟨t1, t2⟩ <;> rcases k4 with ⟨t3, t4⟩ | ⟨t3, t4⟩
                · rw [t2, t4]
                · exact absurd t1 t3
                · exact absurd t3 t1
                · rw [t2, t4]
          subst exy
          exact ⟨x, b, o, e1, e2, ⟨N, judgeK R1 e2⟩⟩
        · have j0 := judge0 (z := z2) hr hq b1 b2 (by
            by_cases n0 : z2 < 0
            · exact Or.inl n0
            · right
              obtain ⟨j, hj2, rfl⟩ := nI_of n0
              by_cases hl : 24 ≤ n
              · rw [show (24 : Int32) = nI 24 from rfl, pk_sub hl]
                refine nI_lt ?_ hj2
                rcases Nat.lt_or_ge (n - 24) j with w | w
                · exact w
                · exact absurd ⟨j, by omega, rfl⟩ hj
              · exact Int32.lt_of_lt_of_le (pk_sneg (a := n) (b := 24) (by decide) (by omega)) (nI_pos' hj2))
          exact same_op (r := -3) ⟨N, hR⟩ j0.1 j0.2
    · refine same_op (r := -1) ⟨N, hR⟩ ?_ ?_
      · unfold f_X8_judge
        rw [w8i_3 _ hr, Option.bind_some, if_neg one_ne, w8o_8 _ o3, Option.bind_some, if_pos rfl]
      · unfold f_X9_judge
        rw [isRowi _ hr, Option.bind_some, if_neg one_ne, w9o_0_8 _ o3, Option.bind_some, if_pos rfl]
  · refine same_op (r := -1) ⟨N, hR⟩ ?_ ?_
    · unfold f_X8_judge
      rw [w8o_3 _ o1, Option.bind_some, if_pos rfl]
    · unfold f_X9_judge
      rw [isRowo _ o1, Option.bind_some, if_pos rfl]
