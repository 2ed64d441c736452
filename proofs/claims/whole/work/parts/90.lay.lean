/-- put into a row of the class -/
theorem put8r {h : Hp} {r n j : Nat} {z x : Int32} (hr : r < 4) (hn : n ≤ 40) (e : h.1 106 r = nI n) : f_X6_put 100 (nI r) z x h = some (if ix z n = true then 1 else 0, if ix z n = true then sI h (102 + r) (Int32.toNatClampNeg z) x else h) := by
  unfold f_X6_put
  rw [hasPlace8 h hr hn e, Option.bind_some]
  dsimp only
  by_cases hx : ix z n = true
  · obtain ⟨t, ht, rfl⟩ := (ix_iff (by omega)).mp hx
    rw [if_neg (by rw [if_pos hx]; exact one_ne), if_pos (ix4 hr), if_pos (ix_nI (by omega) (by decide)), if_pos hx, if_pos hx]
    dsimp only [lt]
    rw [if_pos isB1, nI_clamp (show r < 2 ^ 31 by omega)]
  · rw [if_pos (if_neg hx), if_pos isB0, if_neg hx, if_neg hx]
theorem copyIn8 {h : Hp} {r n j : Nat} {V : Nat → Nat} (hr : r < 4) (hn : n ≤ 40) (hj : j < n) (e6 : h.1 106 r = nI n) (e57 : ∀ c, c < 24 → h.1 57 c = nI (V c)) : ∃ b, f_X6_copyIn 100 (nI r) (nI j) 57 h = some b ∧ (b.1 = (if 24 ≤ n - j then 1 else 0) ∧ (∀ k, k ≠ 102 + r → b.2.1 k = h.1 k) ∧ ∀ i, i < n → b.2.1 (102 + r) i = if j ≤ i ∧ i < j + 24 then nI (V (i - j)) else h.1 (102 + r) i) := by
  unfold f_X6_copyIn
  refine lp_invE (F := Nat → Int32 → Int32 → Nat → Int32 → Hp → Option (Int32 × Hp)) (bot := fun _ _ _ _ _ _ => none) (G := f_X6_copyIn_3) (fun K i (h : Hp) => K 100 (nI r) (nI j) 57 (nI i) h) 24 (fun c h' => j + c ≤ n ∧ (∀ k, k ≠ 102 + r → h'.1 k = h.1 k) ∧ ∀ i, i < n → h'.1 (102 + r) i = if j ≤ i ∧ i < j + c then nI (V (i - j)) else h.1 (102 + r) i) _ ?_ ?_ 1000 0 h (by omega) (by omega) ⟨by omega, fun _ _ => rfl, fun i hi => by rw [if_neg (by omega)]⟩
  · rintro K c h1 hc ⟨d0, d1, d2⟩
    have p := put8r (h := h1) (z := nI (j + c)) (x := nI (V c)) (j := 0) hr hn (by rw [d1 106 (by omega)]; exact e6)
    show (∃ s', _ ∧ f_X6_copyIn_3 K 100 (nI r) (nI j) 57 (nI c) h1 = _) ∨ ∃ b, f_X6_copyIn_3 K 100 (nI r) (nI j) 57 (nI c) h1 = some b ∧ _
    unfold f_X6_copyIn_3
    rw [if_neg (show ¬ (24 : Int32) ≤ nI c from nI_ge (b := 24) hc (by decide)), show ln 57 = 24 from rfl, if_pos (ix24 hc), nI_clamp (by omega), nI_add, d1 57 (by omega), e57 c hc, p, Option.bind_some]
    dsimp only [lt]
    by_cases hlt : j + c < n
    · left
      have hx := ix_nI hlt (show n < 2 ^ 31 by omega)
      rw [if_neg (by rw [if_pos hx]; exact one_ne), if_pos hx, nI_1, nI_clamp (by omega)]
      refine ⟨_, ⟨by omega, fun k hk => by rw [sI_row _ _ _ hk]; exact d1 k hk, fun i hi => ?_⟩, rfl⟩
      rw [sI1, if_pos rfl]
      by_cases ei : i = j + c
      · rw [if_pos ei, if_pos (by omega), ei, show j + c - j = c by omega]
      · rw [if_neg ei, d2 i hi]
        by_cases q : j ≤ i ∧ i < j + c
        · rw [if_pos q, if_pos (by omega)]
        · rw [if_neg q, if_neg (by omega)]
    · right
      have hx : ¬ ix (nI (j + c)) n = true := fun z => by
        obtain ⟨t, t1, t2⟩ := (ix_iff (show n < 2 ^ 31 by omega)).mp z
        rw [nI_eq (by omega) (by omega)] at t2
        omega
      rw [if_pos (if_neg hx), if_pos isB0, if_neg hx]
      refine ⟨_, rfl, by rw [if_neg (by omega)], d1, fun i hi => ?_⟩
      show h1.1 (102 + r) i = _
      rw [d2 i hi]
      by_cases q : j ≤ i ∧ i < j + c
      · rw [if_pos q, if_pos (by omega)]
      · rw [if_neg q, if_neg (by omega)]
  · rintro K h1 ⟨d0, d1, d2⟩
    show ∃ b, f_X6_copyIn_3 K 100 (nI r) (nI j) 57 (nI 24) h1 = some b ∧ _
    unfold f_X6_copyIn_3
    rw [if_pos (show (24 : Int32) ≤ nI 24 by decide), if_pos isB1]
    exact ⟨_, rfl, by rw [if_pos (by omega)], d1, d2⟩
theorem c40 (r i c : Nat) : (40 : Int32) * nI r + nI i + nI c = nI (40 * r + i + c) := by rw [show (40 : Int32) = nI 40 from rfl, pk_mul, nI_add, nI_add]
theorem lay9L {h : Hp} {r n j : Nat} {V : Nat → Nat} (hr : r < 4) (hn : n ≤ 40) (hj : j < n) (e6 : h.1 135 r = nI n) (e131 : ∀ c, c < 24 → h.1 131 c = nI (V c)) : ∃ b, lp (F := Nat → Int32 → Int32 → Int32 → Hp → Option (Int32 × Hp)) (fun _ _ _ _ _ => none) f_X9_lay_36 1000 108 (nI r) (nI j) 0 h = some b ∧ (b.1 = (if 24 ≤ n - j then 24 else -13) ∧ (∀ k, k ≠ 134 → b.2.1 k = h.1 k) ∧ ∀ t, b.2.1 134 t = if 40 * r + j ≤ t ∧ t < 40 * r + j + 24 ∧ t < 40 * r + n then nI (V (t - (40 * r + j))) else h.1 134 t) := by
  refine lp_invE (F := Nat → Int32 → Int32 → Int32 → Hp → Option (Int32 × Hp)) (bot := fun _ _ _ _ _ => none) (G := f_X9_lay_36) (fun K i (h : Hp) => K 108 (nI r) (nI j) (nI i) h) 24 (fun c h' => j + c ≤ n ∧ (∀ k, k ≠ 134 → h'.1 k = h.1 k) ∧ ∀ t, h'.1 134 t = if 40 * r + j ≤ t ∧ t < 40 * r + j + c then nI (V (t - (40 * r + j))) else h.1 134 t) _ ?_ ?_ 1000 0 h (by omega) (by omega) ⟨by omega, fun _ _ => rfl, fun t => by rw [if_neg (by omega)]⟩
  · rintro K c h1 hc ⟨d0, d1, d2⟩
    show (∃ s', _ ∧ f_X9_lay_36 K 108 (nI r) (nI j) (nI c) h1 = _) ∨ ∃ b, f_X9_lay_36 K 108 (nI r) (nI j) (nI c) h1 = some b ∧ _
    unfold f_X9_lay_36 f_X9_lay_87
    rw [if_neg (show ¬ (24 : Int32) ≤ nI c from nI_ge (b := 24) hc (by decide)), if_neg (nI_pos (by omega)), if_pos (ix4 hr), nI_clamp (show r < 2 ^ 31 by omega), show h1.1 (108 + 27) r = nI n by rw [d1 (108 + 27) (by decide)]; exact e6, pk_sub (by omega), c40]
    by_cases hlt : j + c < n
    · left
      rw [if_neg (nI_ge (by omega) (by omega)), if_pos (ix24 hc), if_pos (ix_nI (by omega) (by decide)), nI_clamp (by omega), nI_clamp (by omega), show h1.1 (108 + 23) c = nI (V c) by rw [d1 (108 + 23) (by decide)]; exact e131 c hc]
      dsimp only [lt]
      rw [nI_1]
      refine ⟨_, ⟨by omega, fun k hk => by rw [sI_row _ _ _ hk]; exact d1 k hk, fun t => ?_⟩, rfl⟩
      rw [sI1, if_pos rfl]
      by_cases et : t = 40 * r + j + c
      · rw [if_pos et, if_pos (by omega), et, show 40 * r + j + c - (40 * r + j) = c by omega]
      · rw [if_neg et, d2 t]
        by_cases q : 40 * r + j ≤ t ∧ t < 40 * r + j + c
        · rw [if_pos q, if_pos (by omega)]
        · rw [if_neg q, if_neg (by omega)]
    · right
      rw [if_pos (nI_le (by omega) (by omega)), if_neg (by rw [show (24 : Int32) = nI 24 from rfl, nI_eq (by omega) (by omega)]; omega)]
      refine ⟨_, rfl, by rw [if_neg (by omega)], d1, fun t => ?_⟩
      show h1.1 134 t = _
      rw [d2 t]
      by_cases q : 40 * r + j ≤ t ∧ t < 40 * r + j + c
      · rw [if_pos q, if_pos (by omega)]
      · rw [if_neg q, if_neg (by omega)]
  · rintro K h1 ⟨d0, d1, d2⟩
    show ∃ b, f_X9_lay_36 K 108 (nI r) (nI j) (nI 24) h1 = some b ∧ _
    unfold f_X9_lay_36 f_X9_lay_87
    rw [if_pos (show (24 : Int32) ≤ nI 24 by decide), if_pos (by decide)]
    refine ⟨_, rfl, by rw [if_pos (by omega)], d1, fun t => ?_⟩
    show h1.1 134 t = _
    rw [d2 t]
    by_cases q : 40 * r + j ≤ t ∧ t < 40 * r + j + 24
    · rw [if_pos q, if_pos (by omega)]
    · rw [if_neg q, if_neg (by omega)]
theorem lay9e {h : Hp} {r n : Nat} {z : Int32} (hr : r < 4) (hn : n ≤ 40) (hz : ¬ ix z n = true) (e6 : h.1 135 r = nI n) : lp (F := Nat → Int32 → Int32 → Int32 → Hp → Option (Int32 × Hp)) (fun _ _ _ _ _ => none) f_X9_lay_36 1000 108 (nI r) z 0 h = some (-13, h) := by
  show f_X9_lay_36 _ 108 (nI r) z 0 h = _
  unfold f_X9_lay_36 f_X9_lay_87
  rw [if_neg (by decide)]
  by_cases hneg : z < 0
  · rw [if_pos hneg, if_neg (by decide)]
  · rw [if_neg hneg, if_pos (ix4 hr), nI_clamp (by omega), show h.1 (108 + 27) r = _ from e6]
    obtain ⟨t, ht, rfl⟩ := nI_of hneg
    have hnt : n ≤ t := by
      rcases Nat.lt_or_ge t n with q | q
      · exact absurd (ix_nI q (by omega)) hz
      · exact q
    rw [if_pos (by rw [show nI n - 0 = nI n from pk_sub (a := n) (b := 0) (Nat.zero_le n)]; exact nI_le hnt ht), if_neg (by decide)]
theorem lay8w {h b o : Hp} {oc : Int32} {r : Nat} {z : Int32} {x : Int32} (hr : r ≤ 3) (ht : ¬ h.1 106 r < 0) (hz : 0 ≤ oc) (e : f_X2_settle 56 1 h = some (oc, b)) (q : f_X6_copyIn 100 (nI r) z 57 b = some (x, o)) : f_X8_lay 0 (nI r) z h = some (if x = 0 then -13 else 24, o) := by
  unfold f_X8_lay f_X6_isThere
  rw [w8i_3 _ hr, Option.bind_some, if_neg one_ne, if_pos (ix4 (by omega)), nI_clamp (by omega), if_neg ht, if_pos isB1, Option.bind_some, if_neg one_ne, show f_X2_settle (0 + 56) (0 + 1) h = _ from e, Option.bind_some, if_pos hz, show f_X6_copyIn (0 + 100) (nI r) z (0 + 56 + 1) b = _ from q, Option.bind_some]
  dsimp only
  by_cases x0 : x = 0
  · rw [if_pos x0, if_pos x0]
  · rw [if_neg x0, if_neg x0]
theorem lay9w {h b o : Hp} {oc : Int32} {r : Nat} {z : Int32} {x : Int32} (hr : r ≤ 3) (ht : ¬ h.1 135 r = -1) (hz : 0 ≤ oc) (e : f_X9_solves 108 h = some (oc, b)) (q : lp (F := Nat → Int32 → Int32 → Int32 → Hp → Option (Int32 × Hp)) (fun _ _ _ _ _ => none) f_X9_lay_36 1000 108 (nI r) z 0 b = some (x, o)) : f_X9_lay 108 (nI r) z h = some (x, o) := by
  generalize hl : lp (F := Nat → Int32 → Int32 → Int32 → Hp → Option (Int32 × Hp)) (fun _ _ _ _ _ => none) f_X9_lay_36 1000 = LL at q
  unfold f_X9_lay
  rw [hl, isRowi _ hr, Option.bind_some, if_neg one_ne, if_pos (ix4 (by omega)), nI_clamp (by omega), if_neg ht, e, Option.bind_some, if_pos hz]
  exact q
theorem op_lay (z1 z2 : Int32) : Op (Rel PKd) (fun h => f_X8_lay 0 z1 z2 h) (fun h => f_X9_lay 108 z1 z2 h) := by
  intro h ⟨N, hR⟩
  have v := hR.1
  rcases rng z1 3 (by decide) with ⟨r, hr, rfl⟩ | o1
  · rcases hR.2.2.2.2.2.2.1 r (by omega) with ⟨b1, b2⟩ | ⟨n, hn, b1, b2, b3⟩
    · refine same_op (r := -11) ⟨N, hR⟩ ?_ ?_
      · unfold f_X8_lay f_X6_isThere
        rw [w8i_3 _ hr, Option.bind_some, if_neg one_ne, if_pos (ix4 (by omega)), nI_clamp (by omega), show h.1 (0 + 100 + 6) r = _ from b1, if_pos (by decide), if_pos isB0, Option.bind_some, if_pos rfl]
      · unfold f_X9_lay
        rw [isRowi _ hr, Option.bind_some, if_neg one_ne, if_pos (ix4 (by omega)), nI_clamp (by omega), show h.1 (108 + 27) r = _ from b2, if_pos rfl]
    · have ht8 : ¬ h.1 106 r < 0 := by rw [b1]; exact nI_pos (by omega)
      have ht9 : ¬ nI n = -1 := fun z => nI_pos (n := n) (by omega) (by rw [z]; decide)
      obtain ⟨b, e, c, R1⟩ := settleR hR
      by_cases hz : 0 ≤ ocN N
      · have hc := oc_pos v hz
        have fs8 := mf_X2_settle e
        dsimp only at fs8
        have e106 : b.1 106 r = nI n := by rw [(fs8 106 (by omega) (by simp)).1]; exact b1
        by_cases hx : ix z2 n = true
        · obtain ⟨j, hj, rfl⟩ := (ix_iff (by omega)).mp hx
          obtain ⟨⟨x, b2'⟩, e2, x2, q2, q3⟩ := copyIn8 (V := (sol N).2) (show r < 4 by omega) hn hj e106 (c.2.2 hc).2.2.2.2
          dsimp only at x2 q2 q3
          have E8 := lay8w hr ht8 hz e e2
          have pk := R1.2.2.2.2.2.2.2.s
          obtain ⟨o1, g, d⟩ := solves9 v (h := b2') (R1.2.2.1.keep (q2 109 (by omega))) (by
            unfold C9
            rw [q2 108 (by omega), q2 131 (by omega)]
            exact pk.2)
          have fs : Fx SR SC b2' o1 := mf_X9_solves g
          have e135b : b2'.1 135 r = nI n := by rw [q2 135 (by omega), (fs8 135 (by omega) (by simp)).1]; exact b2
          have e135 : o1.1 135 r = nI n := by rw [fs.1 135 (by decide) (by decide)]; exact e135b
          obtain ⟨⟨x9, o2⟩, e4, x4, q4, q5⟩ := lay9L (V := (sol N).2) (show r < 4 by omega) hn hj e135 (d.2.2 hc)
          dsimp only at x4 q4 q5
          have E9 := lay9w hr (by rw [e135b]; exact ht9) hz g e4
          have ex : (if x = 0 then (-13 : Int32) else 24) = x9 := by
            rw [x2, x4]
            by_cases q : 24 ≤ n - j
            · rw [if_pos q, if_pos q, if_neg one_ne]
            · rw [if_neg q, if_neg q, if_pos rfl]
          rw [ex] at E8
          have fr : ∀ k, k ≠ 102 + r → k ∉ SR → k ≠ 134 → k ≠ 108 → o2.1 k = b.1 k := fun k h1 h2 h3 h4 => by rw [q4 k h3, fs.1 k h2 h4, q2 k h1]
          have f8 : ∀ i, i ∉ SC → o2.1 108 i = b.1 108 i := fun i hi => by rw [q4 108 (by decide), fs.2.2 i hi, q2 108 (by omega)]
          have k0 : KeepL A0 C0 b o2 := ⟨fun k hk => by
            have z : ∀ k ∈ A0, (k < 102 ∨ 106 ≤ k) ∧ k ∉ SR ∧ k ≠ 134 ∧ k ≠ 108 := by decide
            obtain ⟨z1, z2, z3, z4⟩ := z k hk
            exact fr k (by omega) z2 z3 z4, fun q hq => by
            have z : ∀ q ∈ C0, (q.1 = 108 ∧ q.2 ∉ SC) ∨ ((q.1 < 102 ∨ 106 ≤ q.1) ∧ q.1 ∉ SR ∧ q.1 ≠ 134 ∧ q.1 ≠ 108) := by decide
            rcases z q hq with ⟨z1, z2⟩ | ⟨z1, z2, z3, z4⟩
            · rw [z1]
              exact f8 _ z2
            · rw [fr q.1 (by omega) z2 z3 z4]⟩
          have k1 : KeepL A1 C1 b o2 := ⟨fun k hk => by
            have z : ∀ k ∈ A1, (k < 102 ∨ 106 ≤ k) ∧ k ∉ SR ∧ k ≠ 134 ∧ k ≠ 108 := by decide
            obtain ⟨z1, z2, z3, z4⟩ := z k hk
            exact fr k (by omega) z2 z3 z4, fun q hq => by
            have z : ∀ q ∈ C1, (q.1 = 108 ∧ q.2 ∉ SC) ∨ ((q.1 < 102 ∨ 106 ≤ q.1) ∧ q.1 ∉ SR ∧ q.1 ≠ 134 ∧ q.1 ≠ 108) := by decide
            rcases z q hq with ⟨z1, z2⟩ | ⟨z1, z2, z3, z4⟩
            · rw [z1]
              exact f8 _ z2
            · rw [fr q.1 (by omega) z2 z3 z4]⟩
          refine ⟨x9, b2', o2, E8, E9, ⟨N, R1.of k0 (R1.2.2.2.2.2.1.l k1) (fun t ht => ?_) (Or.inr ⟨Or.inr (c.x (fun k hk => fr k (by omega) (by rcases hk with rfl | rfl | rfl | rfl | rfl <;> decide) (by omega) (by omega))), Or.inr ?_⟩)⟩⟩
          · have s106 : o2.1 106 = b.1 106 := fr 106 (by omega) (by decide) (by decide) (by decide)
            have s135 : o2.1 135 = b.1 135 := fr 135 (by omega) (by decide) (by decide) (by decide)
            rw [s106, s135]
            rcases R1.2.2.2.2.2.2.1 t ht with q | ⟨m, m1, m2, m3, m4⟩
            · exact Or.inl q
            · refine Or.inr ⟨m, m1, m2, m3, fun i hi => ?_⟩
              rw [q5 (40 * t + i), fs.1 134 (by decide) (by decide), q2 134 (by omega)]
              by_cases et : t = r
              · subst et
                have emn : m = n := by
                  rw [e106, nI_eq (by omega) (by omega)] at m2
                  exact m2.symm
                subst emn
                rw [q4 (102 + t) (by omega), fs.1 (102 + t) (by simp; omega) (by omega), q3 i hi]
                by_cases q : j ≤ i ∧ i < j + 24
                · rw [if_pos q, if_pos (by omega), show 40 * t + i - (40 * t + j) = i - j by omega]
                · rw [if_neg q, if_neg (by omega)]
                  exact m4 i hi
              · rw [fr (102 + t) (by omega) (by simp; omega) (by omega) (by omega), if_neg (by omega)]
                exact m4 i hi
          · unfold C9
            rw [q4 108 (by decide), q4 131 (by decide)]
            exact d
        · have cz : f_X6_copyIn 100 (nI r) z2 57 b = some (0, b) := by
            show f_X6_copyIn_3 _ 100 (nI r) z2 57 0 b = _
            unfold f_X6_copyIn_3
            have e0 : z2 + 0 = z2 := Int32.add_zero z2
            rw [if_neg (by decide), if_pos (by decide), e0, put8r (j := 0) (show r < 4 by omega) hn e106, Option.bind_some]
            dsimp only
            rw [if_pos (if_neg hx), if_pos isB0, if_neg hx]
          have E8 := lay8w hr ht8 hz e cz
          obtain ⟨o, g, d, R2, -⟩ := solvesR R1
          have fs : Fx SR SC b o := mf_X9_solves g
          have e135b : b.1 135 r = nI n := by rw [(fs8 135 (by omega) (by simp)).1]; exact b2
          have E9 := lay9w hr (by rw [e135b]; exact ht9) hz g (lay9e (z := z2) (show r < 4 by omega) hn hx (by rw [fs.1 135 (by decide) (by decide)]; exact e135b))
          exact ⟨-13, b, o, E8, E9, ⟨N, R2⟩⟩
      · obtain ⟨o, g, d, R2, -⟩ := solvesR R1
        have fs8 := mf_X2_settle e
        dsimp only at fs8
        refine ⟨ocN N, b, o, ?_, ?_, ⟨N, R2⟩⟩
        · dsimp only
          unfold f_X8_lay f_X6_isThere
          rw [w8i_3 _ hr, Option.bind_some, if_neg one_ne, if_pos (ix4 (by omega)), nI_clamp (by omega), if_neg ht8, if_pos isB1, Option.bind_some, if_neg one_ne, show f_X2_settle (0 + 56) (0 + 1) h = _ from e, Option.bind_some, if_neg hz]
        · dsimp only
          unfold f_X9_lay
          rw [isRowi _ hr, Option.bind_some, if_neg one_ne, if_pos (ix4 (by omega)), nI_clamp (by omega), show b.1 (108 + 27) r = nI n by rw [(fs8 (108 + 27) (by omega) (by simp)).1]; exact b2, if_neg ht9, g, Option.bind_some, if_neg hz]
  · refine same_op (r := -1) ⟨N, hR⟩ ?_ ?_
    · unfold f_X8_lay
      rw [w8o_3 _ o1, Option.bind_some, if_pos rfl]
    · unfold f_X9_lay
      rw [isRowo _ o1, Option.bind_some, if_pos rfl]
