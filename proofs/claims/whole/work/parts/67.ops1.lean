def okHb (N : Nat → Nat) (w H : Nat) : Bool := (lgv N w H).isSome && ((mgv N w H 0).isSome && ((mgv N w H 1).isSome && ((mgv N w H 2).isSome && ((mgv N w H 3).isSome && ((mgv N w H 4).isSome && (mgv N w H 5).isSome)))))
theorem okHb_iff (N : Nat → Nat) (w H : Nat) : okHb N w H = true ↔ okH N w H := by
  unfold okHb okH
  simp only [Bool.and_eq_true]
  constructor
  · rintro ⟨h, h0, h1, h2, h3, h4, h5⟩
    refine ⟨h, fun l hl => ?_⟩
    rcases (show l = 0 ∨ l = 1 ∨ l = 2 ∨ l = 3 ∨ l = 4 ∨ l = 5 by omega) with rfl | rfl | rfl | rfl | rfl | rfl <;> assumption
  · rintro ⟨h, k⟩
    exact ⟨h, k 0 (by decide), k 1 (by decide), k 2 (by decide), k 3 (by decide), k 4 (by decide), k 5 (by decide)⟩
theorem fillB8 {N : Nat → Nat} (v : Vn N) {w : Nat} (hw : w ≤ 6) {G p : Nat} (hpg : p + 5 ≤ G) (hl : HsL G) {h : Hp} (a : Pc h p N) {H : Nat} (hH : H ≤ 60) : ∃ b, f_X1_fill G p (nI w) (nI H) h = some (if okHb N w H = true then 1 else 0, b) ∧ Fc G (G + 20) [] h b ∧ (okHb N w H = true → ClH N w H b G) := by
  obtain ⟨⟨x, b⟩, e, c⟩ := fillH8 v hw hpg hl a hH
  have f := mf_X1_fill e
  rcases c with ⟨c1, c2, c3⟩ | ⟨c1, c2⟩
  · have ok := (okHb_iff N w H).mpr c1
    dsimp only at c2
    subst c2
    exact ⟨b, by rw [e, if_pos ok], f, fun _ => c3⟩
  · have ok : ¬ okHb N w H = true := fun z => c1 ((okHb_iff N w H).mp z)
    dsimp only at c2
    subst c2
    exact ⟨b, by rw [e, if_neg ok], f, fun z => absurd z ok⟩
abbrev HR : List Nat := [113, 114, 115, 116, 117, 118, 119, 120, 121, 122, 123, 124, 125]
theorem hs9 {N : Nat → Nat} {h : Hp} (b : Po h 109 N) (v : Vn N) {w : Nat} (hw : w ≤ 6) {H : Nat} (hH : H ≤ 60) : ∃ o, f_X9_houses 108 (nI w) (nI H) h = some (if okHb N w H = true then 1 else 0, o) ∧ Fx HR [14, 15, 24, 25] h o ∧ (okHb N w H = true → RfHs N w H o) := by
  obtain ⟨⟨x, o⟩, e, c⟩ := houses9 v hw b hH
  have f := mf_X9_houses e
  rcases c with ⟨c1, c2, c3⟩ | ⟨c1, c2⟩
  · have ok := (okHb_iff N w H).mpr c1
    dsimp only at c2
    subst c2
    exact ⟨o, by rw [e, if_pos ok], f, fun _ => c3⟩
  · have ok : ¬ okHb N w H = true := fun z => c1 ((okHb_iff N w H).mp z)
    dsimp only at c2
    subst c2
    exact ⟨o, by rw [e, if_neg ok], f, fun z => absurd z ok⟩
theorem hs16 : HsL 16 := ⟨⟨rfl, rfl, rfl⟩, ⟨rfl, rfl, rfl⟩, rfl⟩
theorem hs36 : HsL 36 := ⟨⟨rfl, rfl, rfl⟩, ⟨rfl, rfl, rfl⟩, rfl⟩
theorem hs67 : HsL 67 := ⟨⟨rfl, rfl, rfl⟩, ⟨rfl, rfl, rfl⟩, rfl⟩
theorem kpA {h h' : Hp} (f : Fc 16 36 [] h h') : Keep h h' := Keep.ofFc f (by decide) (by decide)
theorem kpB {h h' : Hp} (f : Fc 36 56 [] h h') : Keep h h' := Keep.ofFc f (by decide) (by decide)
theorem kp9 {h h' : Hp} (f : Fx HR [14, 15, 24, 25] h h') : Keep h h' := Keep.ofFx f (by decide) (by decide)
theorem kp9h {h h' : Hp} (f : Fx [126] [] h h') : Keep h h' := Keep.ofFx f (by decide) (by decide)
theorem fillNow8 {N : Nat → Nat} {h : Hp} (a : Pc h 1 N) (v : Vn N) {H : Nat} (hH : H ≤ 60) : ∃ b, f_X8_fillNow 0 (nI H) h = some (if okHb N (N 41) H = true then 0 else -3, b) ∧ Fc 16 36 [] h b ∧ (okHb N (N 41) H = true → ClH N (N 41) H b 16) := by
  have ew : h.1 (0 + 1) 5 = nI (N 41) := a 41 (by decide)
  obtain ⟨b, e, f, c⟩ := fillB8 v v.w (G := 16) (p := 1) (by decide) hs16 a hH
  refine ⟨b, ?_, f, c⟩
  unfold f_X8_fillNow
  simp only [w8i_60 _ hH, Option.bind_some, one_ne, if_false, ew]
  rw [e]
  simp only [Option.bind_some]
  by_cases ok : okHb N (N 41) H = true
  · rw [if_pos ok, if_neg one_ne, if_pos ok]
  · rw [if_neg ok, if_pos rfl, if_neg ok]
theorem fillNow8o {z : Int32} (h : Hp) (o : z < 0 ∨ nI 60 < z) : f_X8_fillNow 0 z h = some (-2, h) := by
  unfold f_X8_fillNow
  simp only [w8o_60 _ o, Option.bind_some, if_true]
theorem fillBP8 {N : Nat → Nat} {h : Hp} (a : Pc h 1 N) (v : Vn N) (h6 : ¬ N 41 = 6) {H : Nat} (hH : H ≤ 60) : ∃ b, f_X8_fillByPrices 0 (nI H) h = some (if okHb N (N 41) H = true then 0 else -3, b) ∧ Fc 16 36 [] h b ∧ (okHb N (N 41) H = true → ClH N (N 41) H b 16) := by
  have hw := v.w
  have ew : h.1 (0 + 1) 5 = nI (N 41) := a 41 (by decide)
  have n6 : ¬ nI (N 41) = 6 := by rw [show (6 : Int32) = nI 6 from rfl, nI_eq (by omega) (by omega)]; exact h6
  obtain ⟨b, e, f, c⟩ := fillB8 v v.w (G := 16) (p := 1) (by decide) hs16 a hH
  refine ⟨b, ?_, f, c⟩
  unfold f_X8_fillByPrices
  simp only [w8i_60 _ hH, Option.bind_some, one_ne, if_false, ew, n6]
  rw [e]
  simp only [Option.bind_some]
  by_cases ok : okHb N (N 41) H = true
  · rw [if_pos ok, if_neg one_ne, if_pos ok]
  · rw [if_neg ok, if_pos rfl, if_neg ok]
theorem fillBP8r {N : Nat → Nat} {h : Hp} (a : Pc h 1 N) (h6 : N 41 = 6) {H : Nat} (hH : H ≤ 60) : f_X8_fillByPrices 0 (nI H) h = some (-3, h) := by
  have ew : h.1 (0 + 1) 5 = nI (N 41) := a 41 (by decide)
  unfold f_X8_fillByPrices
  simp only [w8i_60 _ hH, Option.bind_some, one_ne, if_false, ew, h6]
  rfl
theorem fillBP8o {z : Int32} (h : Hp) (o : z < 0 ∨ nI 60 < z) : f_X8_fillByPrices 0 z h = some (-2, h) := by
  unfold f_X8_fillByPrices
  simp only [w8o_60 _ o, Option.bind_some, if_true]
theorem ordR9 {N : Nat → Nat} {h : Hp} (b : Po h 109 N) (v : Vn N) (h6 : ¬ N 41 = 6) {H : Nat} (hH : H ≤ 60) : ∃ o, f_X9_orderRefusal 108 (nI H) h = some (if okHb N (N 41) H = true then 0 else -3, o) ∧ Fx HR [14, 15, 24, 25] h o ∧ (okHb N (N 41) H = true → RfHs N (N 41) H o) := by
  have hw := v.w
  have n6 : ¬ nI (N 41) = 6 := by rw [show (6 : Int32) = nI 6 from rfl, nI_eq (by omega) (by omega)]; exact h6
  obtain ⟨o, e, f, c⟩ := hs9 b v hw hH
  refine ⟨o, ?_, f, c⟩
  unfold f_X9_orderRefusal f_X9_orderRefusal_31
  simp only [isHousei _ hH, Option.bind_some, one_ne, if_false, wayNow9 b, n6]
  rw [e]
  simp only [Option.bind_some]
  by_cases ok : okHb N (N 41) H = true
  · rw [if_pos ok, if_neg one_ne, if_pos ok]
  · rw [if_neg ok, if_pos rfl, if_neg ok]
theorem ordR9r {N : Nat → Nat} {h : Hp} (b : Po h 109 N) (h6 : N 41 = 6) {H : Nat} (hH : H ≤ 60) : f_X9_orderRefusal 108 (nI H) h = some (-3, h) := by
  unfold f_X9_orderRefusal f_X9_orderRefusal_31
  simp only [isHousei _ hH, Option.bind_some, one_ne, if_false, wayNow9 b, h6]
  rfl
theorem ordR9o {z : Int32} (h : Hp) (o : z < 0 ∨ nI 60 < z) : f_X9_orderRefusal 108 z h = some (-2, h) := by
  unfold f_X9_orderRefusal
  simp only [isHouseo _ o, Option.bind_some, if_true]
theorem m3_ne : ¬ ((-3 : Int32) = 0) := by decide
theorem m2_ne : ¬ ((-2 : Int32) = 0) := by decide
theorem m3_neg : ¬ (0 ≤ (-3 : Int32)) := by decide
theorem m2_neg : ¬ (0 ≤ (-2 : Int32)) := by decide
section OPS1
variable {PK : (Nat → Nat) → Hp → Prop}
theorem op_house (hPK : PKok PK) (z1 z2 : Int32) : Op (Rel PK) (fun h => f_X8_house 0 z1 z2 h) (fun h => f_X9_house 108 z1 z2 h) := by
  intro h ⟨N, hR⟩
  rcases rng z2 5 (by decide) with ⟨q, hq, rfl⟩ | o2
  · rcases rng z1 60 (by decide) with ⟨H, hH, rfl⟩ | o1
    · obtain ⟨b, e, ef, ec⟩ := fillNow8 hR.2.1 hR.1 hH
      have R1 := hR.keep hPK (kpA ef)
      obtain ⟨c, g, gf, gc⟩ := hs9 R1.2.2.1 R1.1 R1.1.w hH
      have R2 := R1.keep hPK (kp9 gf)
      have hq6 : q < 6 := by omega
      by_cases ok : okHb N (N 41) H = true
      · refine ⟨nI (pS N (N 41) H q), b, c, ?_, ?_, ⟨N, R2⟩⟩
        · try dsimp only
          unfold f_X8_house
          simp only [w8i_5 _ hq, Option.bind_some, one_ne, if_false, e, if_pos ok, if_true, ix6 hq6, cl6' hq6]
          rw [show b.1 (0 + 16 + 10) q = _ from (ec ok).2.2 q hq6]
        · try dsimp only
          unfold f_X9_house
          simp only [isPartyi _ hq, isHousei _ hH, wayNow9 R1.2.2.1, Option.bind_some, one_ne, if_false, g, if_pos ok, ix6 hq6, if_true, cl6' hq6]
          rw [show c.1 (108 + 16) q = _ from (gc ok).2.1 q hq6]
      · refine ⟨-3, b, c, ?_, ?_, ⟨N, R2⟩⟩
        · try dsimp only
          unfold f_X8_house
          simp only [w8i_5 _ hq, Option.bind_some, one_ne, if_false, e, if_neg ok, m3_ne]
        · try dsimp only
          unfold f_X9_house
          simp only [isPartyi _ hq, isHousei _ hH, wayNow9 R1.2.2.1, Option.bind_some, one_ne, if_false, g, if_neg ok, if_true]
    · refine same_op (r := -2) ⟨N, hR⟩ ?_ ?_
      · try dsimp only
        unfold f_X8_house
        simp only [w8i_5 _ hq, Option.bind_some, one_ne, if_false, fillNow8o _ o1, m2_ne]
      · try dsimp only
        unfold f_X9_house
        simp only [isPartyi _ hq, isHouseo _ o1, Option.bind_some, one_ne, if_false, if_true]
  · refine same_op (r := -1) ⟨N, hR⟩ ?_ ?_
    · try dsimp only
      unfold f_X8_house
      simp only [w8o_5 _ o2, Option.bind_some, if_true]
    · try dsimp only
      unfold f_X9_house
      simp only [isPartyo _ o2, Option.bind_some, if_true]
theorem op_list (hPK : PKok PK) (z1 z2 : Int32) : Op (Rel PK) (fun h => f_X8_list 0 z1 z2 h) (fun h => f_X9_list 108 z1 z2 h) := by
  intro h ⟨N, hR⟩
  rcases rng z2 5 (by decide) with ⟨q, hq, rfl⟩ | o2
  · rcases rng z1 60 (by decide) with ⟨H, hH, rfl⟩ | o1
    · obtain ⟨b, e, ef, ec⟩ := fillNow8 hR.2.1 hR.1 hH
      have R1 := hR.keep hPK (kpA ef)
      obtain ⟨c, g, gf, gc⟩ := hs9 R1.2.2.1 R1.1 R1.1.w hH
      have R2 := R1.keep hPK (kp9 gf)
      have hq6 : q < 6 := by omega
      by_cases ok : okHb N (N 41) H = true
      · refine ⟨nI ((lst N (N 41) H).s q), b, c, ?_, ?_, ⟨N, R2⟩⟩
        · try dsimp only
          unfold f_X8_list
          simp only [w8i_5 _ hq, Option.bind_some, one_ne, if_false, e, if_pos ok, if_true, ix6 hq6, cl6' hq6]
          rw [show b.1 (0 + 16 + 1 + 1) q = _ from (ec ok).2.1.2.2.2.1 q hq6]
        · try dsimp only
          unfold f_X9_list
          simp only [isPartyi _ hq, isHousei _ hH, wayNow9 R1.2.2.1, Option.bind_some, one_ne, if_false, g, if_pos ok, ix6 hq6, if_true, cl6' hq6]
          rw [show c.1 (108 + 15) q = _ from ((gc ok).1 q hq6).2.2.2]
      · refine ⟨-3, b, c, ?_, ?_, ⟨N, R2⟩⟩
        · try dsimp only
          unfold f_X8_list
          simp only [w8i_5 _ hq, Option.bind_some, one_ne, if_false, e, if_neg ok, m3_ne]
        · try dsimp only
          unfold f_X9_list
          simp only [isPartyi _ hq, isHousei _ hH, wayNow9 R1.2.2.1, Option.bind_some, one_ne, if_false, g, if_neg ok, if_true]
    · refine same_op (r := -2) ⟨N, hR⟩ ?_ ?_
      · try dsimp only
        unfold f_X8_list
        simp only [w8i_5 _ hq, Option.bind_some, one_ne, if_false, fillNow8o _ o1, m2_ne]
      · try dsimp only
        unfold f_X9_list
        simp only [isPartyi _ hq, isHouseo _ o1, Option.bind_some, one_ne, if_false, if_true]
  · refine same_op (r := -1) ⟨N, hR⟩ ?_ ?_
    · try dsimp only
      unfold f_X8_list
      simp only [w8o_5 _ o2, Option.bind_some, if_true]
    · try dsimp only
      unfold f_X9_list
      simp only [isPartyo _ o2, Option.bind_some, if_true]
theorem op_tie (hPK : PKok PK) (z1 : Int32) : Op (Rel PK) (fun h => f_X8_tie 0 z1 h) (fun h => f_X9_tie 108 z1 h) := by
  intro h ⟨N, hR⟩
  rcases rng z1 60 (by decide) with ⟨H, hH, rfl⟩ | o1
  · by_cases h6 : N 41 = 6
    · refine same_op (r := -3) ⟨N, hR⟩ ?_ ?_
      · try dsimp only
        unfold f_X8_tie
        simp only [fillBP8r hR.2.1 h6 hH, Option.bind_some, m3_ne, if_false]
      · try dsimp only
        unfold f_X9_tie
        simp only [ordR9r hR.2.2.1 h6 hH, Option.bind_some, m3_neg, if_false]
    · obtain ⟨b, e, ef, ec⟩ := fillBP8 hR.2.1 hR.1 h6 hH
      have R1 := hR.keep hPK (kpA ef)
      obtain ⟨c, g, gf, gc⟩ := ordR9 R1.2.2.1 R1.1 h6 hH
      have R2 := R1.keep hPK (kp9 gf)
      by_cases ok : okHb N (N 41) H = true
      · refine ⟨(lst N (N 41) H).x, b, c, ?_, ?_, ⟨N, R2⟩⟩
        · try dsimp only
          unfold f_X8_tie
          simp only [Option.bind_some, e, if_pos ok, if_true]
          rw [show b.1 (0 + 16 + 1) 3 = _ from (ec ok).2.1.2.2.2.2.2.2]
        · try dsimp only
          unfold f_X9_tie
          simp only [Option.bind_some, g, if_pos ok]
          rw [if_pos (by decide), (gc ok).2.2.2.1]
      · refine ⟨-3, b, c, ?_, ?_, ⟨N, R2⟩⟩
        · try dsimp only
          unfold f_X8_tie
          simp only [Option.bind_some, e, if_neg ok, m3_ne, if_false]
        · try dsimp only
          unfold f_X9_tie
          simp only [Option.bind_some, g, if_neg ok, m3_neg, if_false]
  · refine same_op (r := -2) ⟨N, hR⟩ ?_ ?_
    · try dsimp only
      unfold f_X8_tie
      simp only [fillBP8o _ o1, Option.bind_some, m2_ne, if_false]
    · try dsimp only
      unfold f_X9_tie
      simp only [ordR9o _ o1, Option.bind_some, m2_neg, if_false]
theorem lst_c {N : Nat → Nat} {w H : Nat} (ok : okHb N w H = true) : (lst N w H).c ≤ H := by
  have q := ((okHb_iff N w H).mp ok).1
  obtain ⟨st, e⟩ := Option.isSome_iff_exists.mp q
  exact (lst_ok e).2.2.1
theorem op_given (hPK : PKok PK) (z1 z2 : Int32) : Op (Rel PK) (fun h => f_X8_given 0 z1 z2 h) (fun h => f_X9_given 108 z1 z2 h) := by
  intro h ⟨N, hR⟩
  rcases rng z1 60 (by decide) with ⟨H, hH, rfl⟩ | o1
  · by_cases h6 : N 41 = 6
    · refine same_op (r := -3) ⟨N, hR⟩ ?_ ?_
      · try dsimp only
        unfold f_X8_given
        simp only [fillBP8r hR.2.1 h6 hH, Option.bind_some, m3_ne, if_false]
      · try dsimp only
        unfold f_X9_given
        simp only [ordR9r hR.2.2.1 h6 hH, Option.bind_some, m3_neg, if_false]
    · obtain ⟨b, e, ef, ec⟩ := fillBP8 hR.2.1 hR.1 h6 hH
      have R1 := hR.keep hPK (kpA ef)
      obtain ⟨c, g, gf, gc⟩ := ordR9 R1.2.2.1 R1.1 h6 hH
      have R2 := R1.keep hPK (kp9 gf)
      by_cases ok : okHb N (N 41) H = true
      · have hc := lst_c ok
        obtain ⟨-, ⟨-, -, -, -, c2, c3, -⟩, -⟩ := ec ok
        obtain ⟨-, -, d2, -, d3⟩ := gc ok
        by_cases hx : ix z2 (lst N (N 41) H).c = true
        · obtain ⟨j, hj, rfl⟩ := (ix_iff (by omega)).mp hx
          refine ⟨nI ((lst N (N 41) H).wt j), b, c, ?_, ?_, ⟨N, R2⟩⟩
          · try dsimp only
            unfold f_X8_given
            simp only [Option.bind_some, e, if_pos ok, if_true]
            rw [if_neg (nI_pos (by omega)), show b.1 (0 + 16 + 1) 2 = _ from c2, if_pos (nI_lt hj (by omega)), if_pos (ix_nI (by omega) (by decide)), nI_clamp (by omega), show b.1 (0 + 16 + 1 + 2) j = _ from c3 j hj]
          · try dsimp only
            unfold f_X9_given
            simp only [Option.bind_some, g, if_pos ok]
            rw [if_pos (by decide), d2, w9_sub c (by omega), hx]
            simp only [Option.bind_some, if_true, one_ne, if_false, ix_nI (show j < 60 by omega) (by decide : 60 < 2 ^ 31), nI_clamp (show j < 2 ^ 31 by omega)]
            rw [show c.1 (108 + 17) j = _ from d3 j hj]
        · refine ⟨-1, b, c, ?_, ?_, ⟨N, R2⟩⟩
          · try dsimp only
            unfold f_X8_given
            simp only [Option.bind_some, e, if_pos ok, if_true]
            by_cases n1 : z2 < 0
            · rw [if_pos n1]
            · rw [if_neg n1, show b.1 (0 + 16 + 1) 2 = _ from c2, if_neg]
              intro n2
              obtain ⟨j, hj, rfl⟩ := nI_of n1
              rw [nI_ltI hj (by omega)] at n2
              exact hx (ix_nI n2 (by omega))
          · try dsimp only
            unfold f_X9_given
            simp only [Option.bind_some, g, if_pos ok]
            rw [if_pos (by decide), d2, w9_sub c (by omega), if_neg hx]
            simp only [Option.bind_some, if_true]
      · refine ⟨-3, b, c, ?_, ?_, ⟨N, R2⟩⟩
        · try dsimp only
          unfold f_X8_given
          simp only [Option.bind_some, e, if_neg ok, m3_ne, if_false]
        · try dsimp only
          unfold f_X9_given
          simp only [Option.bind_some, g, if_neg ok, m3_neg, if_false]
  · refine same_op (r := -2) ⟨N, hR⟩ ?_ ?_
    · try dsimp only
      unfold f_X8_given
      simp only [fillBP8o _ o1, Option.bind_some, m2_ne, if_false]
    · try dsimp only
      unfold f_X9_given
      simp only [ordR9o _ o1, Option.bind_some, m2_neg, if_false]
end OPS1
