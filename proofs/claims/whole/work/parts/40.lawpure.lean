theorem lg_self (x : Int64) : lg_cmp x x = 0 := by
  unfold lg_cmp
  rw [if_neg (by simp), if_pos rfl]
theorem ix_nI {i n : Nat} (h : i < n) (hn : n < 2 ^ 31) : ix (nI i) n = true := by
  unfold ix
  have h1 : ¬ nI i < 0 := nI_pos (by omega)
  have h2 : (nI i).toNatClampNeg < n := by rw [nI_clamp (by omega)]; exact h
  simp only [h1, h2, decide_true, decide_false, Bool.not_false, Bool.and_true]
/-- on related numbers both answer, and answer alike, and leave related numbers -/
def Op {α : Type} (Rel : Hp → Prop) (F G : Hp → Option (α × Hp)) : Prop := ∀ h, Rel h → ∃ r h1 h2, F h = some (r, h1) ∧ G h1 = some (r, h2) ∧ Rel h2
section LP
variable {Rel : Hp → Prop} {xs : Nat → Int32} {L : Nat}
theorem law_c0 (hop : ∀ z1 z2 z3, Op Rel (fun h => f_X8_vote 0 z1 z2 z3 h) (fun h => f_X9_vote 108 z1 z2 z3 h)) {x3 : Int32} (i1 : ix (x3 + 1) L = true) (i2 : ix (x3 + 2) L = true) (i3 : ix (x3 + 3) L = true) {h : Hp} (hR : Rel h) : ∃ h2, Rel h2 ∧ ∀ K : Int32 → Hp → Option Unit, f_law_c0 xs L K x3 h = K (x3 + 5) h2 := by
  obtain ⟨r, h1, h2, e1, e2, hR2⟩ := hop (xs (Int32.toNatClampNeg (x3 + 1))) (xs (Int32.toNatClampNeg (x3 + 2))) (xs (Int32.toNatClampNeg (x3 + 3))) h hR
  refine ⟨h2, hR2, fun K => ?_⟩
  dsimp only at e1 e2
  unfold f_law_c0
  simp only [i1, i2, i3, e1, e2, Option.bind_some, if_true, lg_self, lt]
theorem law_c1 (hop : ∀ z1 z2, Op Rel (fun h => f_X8_votes 0 z1 z2 h) (fun h => f_X9_votes 108 z1 z2 h)) {x3 : Int32} (i1 : ix (x3 + 1) L = true) (i2 : ix (x3 + 2) L = true) {h : Hp} (hR : Rel h) : ∃ h2, Rel h2 ∧ ∀ K : Int32 → Hp → Option Unit, f_law_c1 xs L K x3 h = K (x3 + 5) h2 := by
  obtain ⟨r, h1, h2, e1, e2, hR2⟩ := hop (xs (Int32.toNatClampNeg (x3 + 1))) (xs (Int32.toNatClampNeg (x3 + 2))) h hR
  refine ⟨h2, hR2, fun K => ?_⟩
  dsimp only at e1 e2
  unfold f_law_c1
  simp only [i1, i2, e1, e2, Option.bind_some, if_true, lg_self, lt]
theorem law_c2 (hop : ∀ z1 z2, Op Rel (fun h => f_X8_seats 0 z1 z2 h) (fun h => f_X9_seats 108 z1 z2 h)) {x3 : Int32} (i1 : ix (x3 + 1) L = true) (i2 : ix (x3 + 2) L = true) {h : Hp} (hR : Rel h) : ∃ h2, Rel h2 ∧ ∀ K : Int32 → Hp → Option Unit, f_law_c2 xs L K x3 h = K (x3 + 5) h2 := by
  obtain ⟨r, h1, h2, e1, e2, hR2⟩ := hop (xs (Int32.toNatClampNeg (x3 + 1))) (xs (Int32.toNatClampNeg (x3 + 2))) h hR
  refine ⟨h2, hR2, fun K => ?_⟩
  dsimp only at e1 e2
  unfold f_law_c2
  simp only [i1, i2, e1, e2, Option.bind_some, if_true, lg_self, lt]
theorem law_c3 (hop : ∀ z1 z2, Op Rel (fun h => f_X8_least 0 z1 z2 h) (fun h => f_X9_least 108 z1 z2 h)) {x3 : Int32} (i1 : ix (x3 + 1) L = true) (i2 : ix (x3 + 2) L = true) {h : Hp} (hR : Rel h) : ∃ h2, Rel h2 ∧ ∀ K : Int32 → Hp → Option Unit, f_law_c3 xs L K x3 h = K (x3 + 5) h2 := by
  obtain ⟨r, h1, h2, e1, e2, hR2⟩ := hop (xs (Int32.toNatClampNeg (x3 + 1))) (xs (Int32.toNatClampNeg (x3 + 2))) h hR
  refine ⟨h2, hR2, fun K => ?_⟩
  dsimp only at e1 e2
  unfold f_law_c3
  simp only [i1, i2, e1, e2, Option.bind_some, if_true, lg_self, lt]
theorem law_c4 (hop : ∀ z1 z2, Op Rel (fun h => f_X8_join 0 z1 z2 h) (fun h => f_X9_join 108 z1 z2 h)) {x3 : Int32} (i1 : ix (x3 + 1) L = true) (i2 : ix (x3 + 2) L = true) {h : Hp} (hR : Rel h) : ∃ h2, Rel h2 ∧ ∀ K : Int32 → Hp → Option Unit, f_law_c4 xs L K x3 h = K (x3 + 5) h2 := by
  obtain ⟨r, h1, h2, e1, e2, hR2⟩ := hop (xs (Int32.toNatClampNeg (x3 + 1))) (xs (Int32.toNatClampNeg (x3 + 2))) h hR
  refine ⟨h2, hR2, fun K => ?_⟩
  dsimp only at e1 e2
  unfold f_law_c4
  simp only [i1, i2, e1, e2, Option.bind_some, if_true, lg_self, lt]
theorem law_c5 (hop : ∀ z1, Op Rel (fun h => f_X8_bar 0 z1 h) (fun h => f_X9_bar 108 z1 h)) {x3 : Int32} (i1 : ix (x3 + 1) L = true) {h : Hp} (hR : Rel h) : ∃ h2, Rel h2 ∧ ∀ K : Int32 → Hp → Option Unit, f_law_c5 xs L K x3 h = K (x3 + 5) h2 := by
  obtain ⟨r, h1, h2, e1, e2, hR2⟩ := hop (xs (Int32.toNatClampNeg (x3 + 1))) h hR
  refine ⟨h2, hR2, fun K => ?_⟩
  dsimp only at e1 e2
  unfold f_law_c5
  simp only [i1, e1, e2, Option.bind_some, if_true, lg_self, lt]
theorem law_c6 (hop : ∀ z1, Op Rel (fun h => f_X8_way 0 z1 h) (fun h => f_X9_way 108 z1 h)) {x3 : Int32} (i1 : ix (x3 + 1) L = true) {h : Hp} (hR : Rel h) : ∃ h2, Rel h2 ∧ ∀ K : Int32 → Hp → Option Unit, f_law_c6 xs L K x3 h = K (x3 + 5) h2 := by
  obtain ⟨r, h1, h2, e1, e2, hR2⟩ := hop (xs (Int32.toNatClampNeg (x3 + 1))) h hR
  refine ⟨h2, hR2, fun K => ?_⟩
  dsimp only at e1 e2
  unfold f_law_c6
  simp only [i1, e1, e2, Option.bind_some, if_true, lg_self, lt]
theorem law_c7 (hop : ∀ z1 z2, Op Rel (fun h => f_X8_tell 0 z1 z2 h) (fun h => f_X9_tell 108 z1 z2 h)) {x3 : Int32} (i1 : ix (x3 + 1) L = true) (i2 : ix (x3 + 2) L = true) {h : Hp} (hR : Rel h) : ∃ h2, Rel h2 ∧ ∀ K : Int32 → Hp → Option Unit, f_law_c7 xs L K x3 h = K (x3 + 5) h2 := by
  obtain ⟨r, h1, h2, e1, e2, hR2⟩ := hop (xs (Int32.toNatClampNeg (x3 + 1))) (xs (Int32.toNatClampNeg (x3 + 2))) h hR
  refine ⟨h2, hR2, fun K => ?_⟩
  dsimp only at e1 e2
  unfold f_law_c7
  simp only [i1, i2, e1, e2, Option.bind_some, if_true, lg_self, lt]
theorem law_c8 (hop : ∀ z1, Op Rel (fun h => f_X8_feed 0 z1 h) (fun h => f_X9_feed 108 z1 h)) {x3 : Int32} (i1 : ix (x3 + 1) L = true) {h : Hp} (hR : Rel h) : ∃ h2, Rel h2 ∧ ∀ K : Int32 → Hp → Option Unit, f_law_c8 xs L K x3 h = K (x3 + 5) h2 := by
  obtain ⟨r, h1, h2, e1, e2, hR2⟩ := hop (xs (Int32.toNatClampNeg (x3 + 1))) h hR
  refine ⟨h2, hR2, fun K => ?_⟩
  dsimp only at e1 e2
  unfold f_law_c8
  simp only [i1, e1, e2, Option.bind_some, if_true, lg_self, lt]
theorem law_c9 (hop : Op Rel (fun h => f_X8_clear 0  h) (fun h => f_X9_clear 108  h)) {x3 : Int32}  {h : Hp} (hR : Rel h) : ∃ h2, Rel h2 ∧ ∀ K : Int32 → Hp → Option Unit, f_law_c9 xs L K x3 h = K (x3 + 5) h2 := by
  obtain ⟨r, h1, h2, e1, e2, hR2⟩ := hop h hR
  refine ⟨h2, hR2, fun K => ?_⟩
  dsimp only at e1 e2
  unfold f_law_c9
  simp only [e1, e2, Option.bind_some, if_true, lg_self, lt]
theorem law_c10 (hop : ∀ z1, Op Rel (fun h => f_X8_read 0 z1 h) (fun h => f_X9_read 108 z1 h)) {x3 : Int32} (i1 : ix (x3 + 1) L = true) {h : Hp} (hR : Rel h) : ∃ h2, Rel h2 ∧ ∀ K : Int32 → Hp → Option Unit, f_law_c10 xs L K x3 h = K (x3 + 5) h2 := by
  obtain ⟨r, h1, h2, e1, e2, hR2⟩ := hop (xs (Int32.toNatClampNeg (x3 + 1))) h hR
  refine ⟨h2, hR2, fun K => ?_⟩
  dsimp only at e1 e2
  unfold f_law_c10
  simp only [i1, e1, e2, Option.bind_some, if_true, lg_self, lt]
theorem law_c11 (hop : Op Rel (fun h => f_X8_in 0  h) (fun h => f_X9_in 108  h)) {x3 : Int32}  {h : Hp} (hR : Rel h) : ∃ h2, Rel h2 ∧ ∀ K : Int32 → Hp → Option Unit, f_law_c11 xs L K x3 h = K (x3 + 5) h2 := by
  obtain ⟨r, h1, h2, e1, e2, hR2⟩ := hop h hR
  refine ⟨h2, hR2, fun K => ?_⟩
  dsimp only at e1 e2
  unfold f_law_c11
  simp only [e1, e2, Option.bind_some, if_true, lg_self, lt]
theorem law_c12 (hop : ∀ z1 z2, Op Rel (fun h => f_X8_house 0 z1 z2 h) (fun h => f_X9_house 108 z1 z2 h)) {x3 : Int32} (i1 : ix (x3 + 1) L = true) (i2 : ix (x3 + 2) L = true) {h : Hp} (hR : Rel h) : ∃ h2, Rel h2 ∧ ∀ K : Int32 → Hp → Option Unit, f_law_c12 xs L K x3 h = K (x3 + 5) h2 := by
  obtain ⟨r, h1, h2, e1, e2, hR2⟩ := hop (xs (Int32.toNatClampNeg (x3 + 1))) (xs (Int32.toNatClampNeg (x3 + 2))) h hR
  refine ⟨h2, hR2, fun K => ?_⟩
  dsimp only at e1 e2
  unfold f_law_c12
  simp only [i1, i2, e1, e2, Option.bind_some, if_true, lg_self, lt]
theorem law_c13 (hop : ∀ z1 z2, Op Rel (fun h => f_X8_list 0 z1 z2 h) (fun h => f_X9_list 108 z1 z2 h)) {x3 : Int32} (i1 : ix (x3 + 1) L = true) (i2 : ix (x3 + 2) L = true) {h : Hp} (hR : Rel h) : ∃ h2, Rel h2 ∧ ∀ K : Int32 → Hp → Option Unit, f_law_c13 xs L K x3 h = K (x3 + 5) h2 := by
  obtain ⟨r, h1, h2, e1, e2, hR2⟩ := hop (xs (Int32.toNatClampNeg (x3 + 1))) (xs (Int32.toNatClampNeg (x3 + 2))) h hR
  refine ⟨h2, hR2, fun K => ?_⟩
  dsimp only at e1 e2
  unfold f_law_c13
  simp only [i1, i2, e1, e2, Option.bind_some, if_true, lg_self, lt]
theorem law_c14 (hop : ∀ z1 z2, Op Rel (fun h => f_X8_given 0 z1 z2 h) (fun h => f_X9_given 108 z1 z2 h)) {x3 : Int32} (i1 : ix (x3 + 1) L = true) (i2 : ix (x3 + 2) L = true) {h : Hp} (hR : Rel h) : ∃ h2, Rel h2 ∧ ∀ K : Int32 → Hp → Option Unit, f_law_c14 xs L K x3 h = K (x3 + 5) h2 := by
  obtain ⟨r, h1, h2, e1, e2, hR2⟩ := hop (xs (Int32.toNatClampNeg (x3 + 1))) (xs (Int32.toNatClampNeg (x3 + 2))) h hR
  refine ⟨h2, hR2, fun K => ?_⟩
  dsimp only at e1 e2
  unfold f_law_c14
  simp only [i1, i2, e1, e2, Option.bind_some, if_true, lg_self, lt]
theorem law_c15 (hop : ∀ z1, Op Rel (fun h => f_X8_tie 0 z1 h) (fun h => f_X9_tie 108 z1 h)) {x3 : Int32} (i1 : ix (x3 + 1) L = true) {h : Hp} (hR : Rel h) : ∃ h2, Rel h2 ∧ ∀ K : Int32 → Hp → Option Unit, f_law_c15 xs L K x3 h = K (x3 + 5) h2 := by
  obtain ⟨r, h1, h2, e1, e2, hR2⟩ := hop (xs (Int32.toNatClampNeg (x3 + 1))) h hR
  refine ⟨h2, hR2, fun K => ?_⟩
  dsimp only at e1 e2
  unfold f_law_c15
  simp only [i1, e1, e2, Option.bind_some, if_true, lg_self, lt]
theorem law_c16 (hop : ∀ z1 z2 z3, Op Rel (fun h => f_X8_differ 0 z1 z2 z3 h) (fun h => f_X9_differ 108 z1 z2 z3 h)) {x3 : Int32} (i1 : ix (x3 + 1) L = true) (i2 : ix (x3 + 2) L = true) (i3 : ix (x3 + 3) L = true) {h : Hp} (hR : Rel h) : ∃ h2, Rel h2 ∧ ∀ K : Int32 → Hp → Option Unit, f_law_c16 xs L K x3 h = K (x3 + 5) h2 := by
  obtain ⟨r, h1, h2, e1, e2, hR2⟩ := hop (xs (Int32.toNatClampNeg (x3 + 1))) (xs (Int32.toNatClampNeg (x3 + 2))) (xs (Int32.toNatClampNeg (x3 + 3))) h hR
  refine ⟨h2, hR2, fun K => ?_⟩
  dsimp only at e1 e2
  unfold f_law_c16
  simp only [i1, i2, i3, e1, e2, Option.bind_some, if_true, lg_self, lt]
theorem law_c17 (hop : ∀ z1 z2, Op Rel (fun h => f_X8_loses 0 z1 z2 h) (fun h => f_X9_loses 108 z1 z2 h)) {x3 : Int32} (i1 : ix (x3 + 1) L = true) (i2 : ix (x3 + 2) L = true) {h : Hp} (hR : Rel h) : ∃ h2, Rel h2 ∧ ∀ K : Int32 → Hp → Option Unit, f_law_c17 xs L K x3 h = K (x3 + 5) h2 := by
  obtain ⟨r, h1, h2, e1, e2, hR2⟩ := hop (xs (Int32.toNatClampNeg (x3 + 1))) (xs (Int32.toNatClampNeg (x3 + 2))) h hR
  refine ⟨h2, hR2, fun K => ?_⟩
  dsimp only at e1 e2
  unfold f_law_c17
  simp only [i1, i2, e1, e2, Option.bind_some, if_true, lg_self, lt]
theorem law_c18 (hop : ∀ z1, Op Rel (fun h => f_X8_loser 0 z1 h) (fun h => f_X9_loser 108 z1 h)) {x3 : Int32} (i1 : ix (x3 + 1) L = true) {h : Hp} (hR : Rel h) : ∃ h2, Rel h2 ∧ ∀ K : Int32 → Hp → Option Unit, f_law_c18 xs L K x3 h = K (x3 + 5) h2 := by
  obtain ⟨r, h1, h2, e1, e2, hR2⟩ := hop (xs (Int32.toNatClampNeg (x3 + 1))) h hR
  refine ⟨h2, hR2, fun K => ?_⟩
  dsimp only at e1 e2
  unfold f_law_c18
  simp only [i1, e1, e2, Option.bind_some, if_true, lg_self, lt]
theorem law_c19 (hop : ∀ z1 z2 z3, Op Rel (fun h => f_X8_price 0 z1 z2 z3 h) (fun h => f_X9_price 108 z1 z2 z3 h)) {x3 : Int32} (i1 : ix (x3 + 1) L = true) (i2 : ix (x3 + 2) L = true) (i3 : ix (x3 + 3) L = true) {h : Hp} (hR : Rel h) : ∃ h2, Rel h2 ∧ ∀ K : Int32 → Hp → Option Unit, f_law_c19 xs L K x3 h = K (x3 + 5) h2 := by
  obtain ⟨r, h1, h2, e1, e2, hR2⟩ := hop (xs (Int32.toNatClampNeg (x3 + 1))) (xs (Int32.toNatClampNeg (x3 + 2))) (xs (Int32.toNatClampNeg (x3 + 3))) h hR
  refine ⟨h2, hR2, fun K => ?_⟩
  dsimp only at e1 e2
  unfold f_law_c19
  simp only [i1, i2, i3, e1, e2, Option.bind_some, if_true, lg_self, lt]
theorem law_c20 (hop : ∀ z1 z2 z3, Op Rel (fun h => f_X8_span 0 z1 z2 z3 h) (fun h => f_X9_span 108 z1 z2 z3 h)) {x3 : Int32} (i1 : ix (x3 + 1) L = true) (i2 : ix (x3 + 2) L = true) (i3 : ix (x3 + 3) L = true) {h : Hp} (hR : Rel h) : ∃ h2, Rel h2 ∧ ∀ K : Int32 → Hp → Option Unit, f_law_c20 xs L K x3 h = K (x3 + 5) h2 := by
  obtain ⟨r, h1, h2, e1, e2, hR2⟩ := hop (xs (Int32.toNatClampNeg (x3 + 1))) (xs (Int32.toNatClampNeg (x3 + 2))) (xs (Int32.toNatClampNeg (x3 + 3))) h hR
  refine ⟨h2, hR2, fun K => ?_⟩
  dsimp only at e1 e2
  unfold f_law_c20
  simp only [i1, i2, i3, e1, e2, Option.bind_some, if_true, lg_self, lt]
theorem law_c21 (hop : ∀ z1, Op Rel (fun h => f_X8_quota 0 z1 h) (fun h => f_X9_quota 108 z1 h)) {x3 : Int32} (i1 : ix (x3 + 1) L = true) {h : Hp} (hR : Rel h) : ∃ h2, Rel h2 ∧ ∀ K : Int32 → Hp → Option Unit, f_law_c21 xs L K x3 h = K (x3 + 5) h2 := by
  obtain ⟨r, h1, h2, e1, e2, hR2⟩ := hop (xs (Int32.toNatClampNeg (x3 + 1))) h hR
  refine ⟨h2, hR2, fun K => ?_⟩
  dsimp only at e1 e2
  unfold f_law_c21
  simp only [i1, e1, e2, Option.bind_some, if_true, lg_self, lt]
theorem law_c22 (hop : ∀ z1, Op Rel (fun h => f_X8_alike 0 z1 h) (fun h => f_X9_alike 108 z1 h)) {x3 : Int32} (i1 : ix (x3 + 1) L = true) {h : Hp} (hR : Rel h) : ∃ h2, Rel h2 ∧ ∀ K : Int32 → Hp → Option Unit, f_law_c22 xs L K x3 h = K (x3 + 5) h2 := by
  obtain ⟨r, h1, h2, e1, e2, hR2⟩ := hop (xs (Int32.toNatClampNeg (x3 + 1))) h hR
  refine ⟨h2, hR2, fun K => ?_⟩
  dsimp only at e1 e2
  unfold f_law_c22
  simp only [i1, e1, e2, Option.bind_some, if_true, lg_self, lt]
theorem law_c23 (hop : ∀ z1 z2 z3 z4, Op Rel (fun h => f_X8_would 0 z1 z2 z3 z4 h) (fun h => f_X9_would 108 z1 z2 z3 z4 h)) {x3 : Int32} (i1 : ix (x3 + 1) L = true) (i2 : ix (x3 + 2) L = true) (i3 : ix (x3 + 3) L = true) (i4 : ix (x3 + 4) L = true) {h : Hp} (hR : Rel h) : ∃ h2, Rel h2 ∧ ∀ K : Int32 → Hp → Option Unit, f_law_c23 xs L K x3 h = K (x3 + 5) h2 := by
  obtain ⟨r, h1, h2, e1, e2, hR2⟩ := hop (xs (Int32.toNatClampNeg (x3 + 1))) (xs (Int32.toNatClampNeg (x3 + 2))) (xs (Int32.toNatClampNeg (x3 + 3))) (xs (Int32.toNatClampNeg (x3 + 4))) h hR
  refine ⟨h2, hR2, fun K => ?_⟩
  dsimp only at e1 e2
  unfold f_law_c23
  simp only [i1, i2, i3, i4, e1, e2, Option.bind_some, if_true, lg_self, lt]
theorem law_c24 (hop : ∀ z1 z2 z3, Op Rel (fun h => f_X8_needs 0 z1 z2 z3 h) (fun h => f_X9_needs 108 z1 z2 z3 h)) {x3 : Int32} (i1 : ix (x3 + 1) L = true) (i2 : ix (x3 + 2) L = true) (i3 : ix (x3 + 3) L = true) {h : Hp} (hR : Rel h) : ∃ h2, Rel h2 ∧ ∀ K : Int32 → Hp → Option Unit, f_law_c24 xs L K x3 h = K (x3 + 5) h2 := by
  obtain ⟨r, h1, h2, e1, e2, hR2⟩ := hop (xs (Int32.toNatClampNeg (x3 + 1))) (xs (Int32.toNatClampNeg (x3 + 2))) (xs (Int32.toNatClampNeg (x3 + 3))) h hR
  refine ⟨h2, hR2, fun K => ?_⟩
  dsimp only at e1 e2
  unfold f_law_c24
  simp only [i1, i2, i3, e1, e2, Option.bind_some, if_true, lg_self, lt]
theorem law_c25 (hop : ∀ z1, Op Rel (fun h => f_X8_spell 0 z1 h) (fun h => f_X9_spell 108 z1 h)) {x3 : Int32} (i1 : ix (x3 + 1) L = true) {h : Hp} (hR : Rel h) : ∃ h2, Rel h2 ∧ ∀ K : Int32 → Hp → Option Unit, f_law_c25 xs L K x3 h = K (x3 + 5) h2 := by
  obtain ⟨r, h1, h2, e1, e2, hR2⟩ := hop (xs (Int32.toNatClampNeg (x3 + 1))) h hR
  refine ⟨h2, hR2, fun K => ?_⟩
  dsimp only at e1 e2
  unfold f_law_c25
  simp only [i1, e1, e2, Option.bind_some, if_true, lg_self, lt]
theorem law_c26 (hop : ∀ z1, Op Rel (fun h => f_X8_paper 0 z1 h) (fun h => f_X9_paper 108 z1 h)) {x3 : Int32} (i1 : ix (x3 + 1) L = true) {h : Hp} (hR : Rel h) : ∃ h2, Rel h2 ∧ ∀ K : Int32 → Hp → Option Unit, f_law_c26 xs L K x3 h = K (x3 + 5) h2 := by
  obtain ⟨r, h1, h2, e1, e2, hR2⟩ := hop (xs (Int32.toNatClampNeg (x3 + 1))) h hR
  refine ⟨h2, hR2, fun K => ?_⟩
  dsimp only at e1 e2
  unfold f_law_c26
  simp only [i1, e1, e2, Option.bind_some, if_true, lg_self, lt]
theorem law_c27 (hop : Op Rel (fun h => f_X8_solve 0  h) (fun h => f_X9_solve 108  h)) {x3 : Int32}  {h : Hp} (hR : Rel h) : ∃ h2, Rel h2 ∧ ∀ K : Int32 → Hp → Option Unit, f_law_c27 xs L K x3 h = K (x3 + 5) h2 := by
  obtain ⟨r, h1, h2, e1, e2, hR2⟩ := hop h hR
  refine ⟨h2, hR2, fun K => ?_⟩
  dsimp only at e1 e2
  unfold f_law_c27
  simp only [e1, e2, Option.bind_some, if_true, lg_self, lt]
theorem law_c28 (hop : ∀ z1 z2, Op Rel (fun h => f_X8_cell 0 z1 z2 h) (fun h => f_X9_cell 108 z1 z2 h)) {x3 : Int32} (i1 : ix (x3 + 1) L = true) (i2 : ix (x3 + 2) L = true) {h : Hp} (hR : Rel h) : ∃ h2, Rel h2 ∧ ∀ K : Int32 → Hp → Option Unit, f_law_c28 xs L K x3 h = K (x3 + 5) h2 := by
  obtain ⟨r, h1, h2, e1, e2, hR2⟩ := hop (xs (Int32.toNatClampNeg (x3 + 1))) (xs (Int32.toNatClampNeg (x3 + 2))) h hR
  refine ⟨h2, hR2, fun K => ?_⟩
  dsimp only at e1 e2
  unfold f_law_c28
  simp only [i1, i2, e1, e2, Option.bind_some, if_true, lg_self, lt]
theorem law_c29 (hop : ∀ z1 z2 z3, Op Rel (fun h => f_X8_bound 0 z1 z2 z3 h) (fun h => f_X9_bound 108 z1 z2 z3 h)) {x3 : Int32} (i1 : ix (x3 + 1) L = true) (i2 : ix (x3 + 2) L = true) (i3 : ix (x3 + 3) L = true) {h : Hp} (hR : Rel h) : ∃ h2, Rel h2 ∧ ∀ K : Int32 → Hp → Option Unit, f_law_c29 xs L K x3 h = K (x3 + 5) h2 := by
  obtain ⟨r, h1, h2, e1, e2, hR2⟩ := hop (xs (Int32.toNatClampNeg (x3 + 1))) (xs (Int32.toNatClampNeg (x3 + 2))) (xs (Int32.toNatClampNeg (x3 + 3))) h hR
  refine ⟨h2, hR2, fun K => ?_⟩
  dsimp only at e1 e2
  unfold f_law_c29
  simp only [i1, i2, i3, e1, e2, Option.bind_some, if_true, lg_self, lt]
theorem law_c30 (hop : ∀ z1 z2 z3, Op Rel (fun h => f_X8_judge 0 z1 z2 z3 h) (fun h => f_X9_judge 108 z1 z2 z3 h)) {x3 : Int32} (i1 : ix (x3 + 1) L = true) (i2 : ix (x3 + 2) L = true) (i3 : ix (x3 + 3) L = true) {h : Hp} (hR : Rel h) : ∃ h2, Rel h2 ∧ ∀ K : Int32 → Hp → Option Unit, f_law_c30 xs L K x3 h = K (x3 + 5) h2 := by
  obtain ⟨r, h1, h2, e1, e2, hR2⟩ := hop (xs (Int32.toNatClampNeg (x3 + 1))) (xs (Int32.toNatClampNeg (x3 + 2))) (xs (Int32.toNatClampNeg (x3 + 3))) h hR
  refine ⟨h2, hR2, fun K => ?_⟩
  dsimp only at e1 e2
  unfold f_law_c30
  simp only [i1, i2, i3, e1, e2, Option.bind_some, if_true, lg_self, lt]
theorem law_c31 (hop : Op Rel (fun h => f_X8_moved 0  h) (fun h => f_X9_moved 108  h)) {x3 : Int32}  {h : Hp} (hR : Rel h) : ∃ h2, Rel h2 ∧ ∀ K : Int32 → Hp → Option Unit, f_law_c31 xs L K x3 h = K (x3 + 5) h2 := by
  obtain ⟨r, h1, h2, e1, e2, hR2⟩ := hop h hR
  refine ⟨h2, hR2, fun K => ?_⟩
  dsimp only at e1 e2
  unfold f_law_c31
  simp only [e1, e2, Option.bind_some, if_true, lg_self, lt]
theorem law_c32 (hop : Op Rel (fun h => f_X8_spellPlan 0  h) (fun h => f_X9_spellPlan 108  h)) {x3 : Int32}  {h : Hp} (hR : Rel h) : ∃ h2, Rel h2 ∧ ∀ K : Int32 → Hp → Option Unit, f_law_c32 xs L K x3 h = K (x3 + 5) h2 := by
  obtain ⟨r, h1, h2, e1, e2, hR2⟩ := hop h hR
  refine ⟨h2, hR2, fun K => ?_⟩
  dsimp only at e1 e2
  unfold f_law_c32
  simp only [e1, e2, Option.bind_some, if_true, lg_self, lt]
theorem law_c33 (hop : ∀ z1, Op Rel (fun h => f_X8_told 0 z1 h) (fun h => f_X9_told 108 z1 h)) {x3 : Int32} (i1 : ix (x3 + 1) L = true) {h : Hp} (hR : Rel h) : ∃ h2, Rel h2 ∧ ∀ K : Int32 → Hp → Option Unit, f_law_c33 xs L K x3 h = K (x3 + 5) h2 := by
  obtain ⟨r, h1, h2, e1, e2, hR2⟩ := hop (xs (Int32.toNatClampNeg (x3 + 1))) h hR
  refine ⟨h2, hR2, fun K => ?_⟩
  dsimp only at e1 e2
  unfold f_law_c33
  simp only [i1, e1, e2, Option.bind_some, if_true, lg_self, lt]
theorem law_c34 (hop : ∀ z1 z2, Op Rel (fun h => f_X8_row 0 z1 z2 h) (fun h => f_X9_row 108 z1 z2 h)) {x3 : Int32} (i1 : ix (x3 + 1) L = true) (i2 : ix (x3 + 2) L = true) {h : Hp} (hR : Rel h) : ∃ h2, Rel h2 ∧ ∀ K : Int32 → Hp → Option Unit, f_law_c34 xs L K x3 h = K (x3 + 5) h2 := by
  obtain ⟨r, h1, h2, e1, e2, hR2⟩ := hop (xs (Int32.toNatClampNeg (x3 + 1))) (xs (Int32.toNatClampNeg (x3 + 2))) h hR
  refine ⟨h2, hR2, fun K => ?_⟩
  dsimp only at e1 e2
  unfold f_law_c34
  simp only [i1, i2, e1, e2, Option.bind_some, if_true, lg_self, lt]
theorem law_c35 (hop : ∀ z1 z2 z3, Op Rel (fun h => f_X8_set 0 z1 z2 z3 h) (fun h => f_X9_set 108 z1 z2 z3 h)) {x3 : Int32} (i1 : ix (x3 + 1) L = true) (i2 : ix (x3 + 2) L = true) (i3 : ix (x3 + 3) L = true) {h : Hp} (hR : Rel h) : ∃ h2, Rel h2 ∧ ∀ K : Int32 → Hp → Option Unit, f_law_c35 xs L K x3 h = K (x3 + 5) h2 := by
  obtain ⟨r, h1, h2, e1, e2, hR2⟩ := hop (xs (Int32.toNatClampNeg (x3 + 1))) (xs (Int32.toNatClampNeg (x3 + 2))) (xs (Int32.toNatClampNeg (x3 + 3))) h hR
  refine ⟨h2, hR2, fun K => ?_⟩
  dsimp only at e1 e2
  unfold f_law_c35
  simp only [i1, i2, i3, e1, e2, Option.bind_some, if_true, lg_self, lt]
theorem law_c36 (hop : ∀ z1 z2, Op Rel (fun h => f_X8_get 0 z1 z2 h) (fun h => f_X9_get 108 z1 z2 h)) {x3 : Int32} (i1 : ix (x3 + 1) L = true) (i2 : ix (x3 + 2) L = true) {h : Hp} (hR : Rel h) : ∃ h2, Rel h2 ∧ ∀ K : Int32 → Hp → Option Unit, f_law_c36 xs L K x3 h = K (x3 + 5) h2 := by
  obtain ⟨r, h1, h2, e1, e2, hR2⟩ := hop (xs (Int32.toNatClampNeg (x3 + 1))) (xs (Int32.toNatClampNeg (x3 + 2))) h hR
  refine ⟨h2, hR2, fun K => ?_⟩
  dsimp only at e1 e2
  unfold f_law_c36
  simp only [i1, i2, e1, e2, Option.bind_some, if_true, lg_self, lt]
theorem law_c37 (hop : ∀ z1 z2, Op Rel (fun h => f_X8_lay 0 z1 z2 h) (fun h => f_X9_lay 108 z1 z2 h)) {x3 : Int32} (i1 : ix (x3 + 1) L = true) (i2 : ix (x3 + 2) L = true) {h : Hp} (hR : Rel h) : ∃ h2, Rel h2 ∧ ∀ K : Int32 → Hp → Option Unit, f_law_c37 xs L K x3 h = K (x3 + 5) h2 := by
  obtain ⟨r, h1, h2, e1, e2, hR2⟩ := hop (xs (Int32.toNatClampNeg (x3 + 1))) (xs (Int32.toNatClampNeg (x3 + 2))) h hR
  refine ⟨h2, hR2, fun K => ?_⟩
  dsimp only at e1 e2
  unfold f_law_c37
  simp only [i1, i2, e1, e2, Option.bind_some, if_true, lg_self, lt]
theorem law_c38 (hop : Op Rel (fun h => f_X8_image 0  h) (fun h => f_X9_image 108  h)) {x3 : Int32}  {h : Hp} (hR : Rel h) : ∃ h2, Rel h2 ∧ ∀ K : Int32 → Hp → Option Unit, f_law_c38 xs L K x3 h = K (x3 + 5) h2 := by
  obtain ⟨r, h1, h2, e1, e2, hR2⟩ := hop h hR
  refine ⟨h2, hR2, fun K => ?_⟩
  dsimp only at e1 e2
  unfold f_law_c38
  simp only [e1, e2, Option.bind_some, if_true, lg_self, lt]
theorem law_c39 (hop : Op Rel (fun h => f_X8_undo 0  h) (fun h => f_X9_undo 108  h)) {x3 : Int32}  {h : Hp} (hR : Rel h) : ∃ h2, Rel h2 ∧ ∀ K : Int32 → Hp → Option Unit, f_law_c39 xs L K x3 h = K (x3 + 5) h2 := by
  obtain ⟨r, h1, h2, e1, e2, hR2⟩ := hop h hR
  refine ⟨h2, hR2, fun K => ?_⟩
  dsimp only at e1 e2
  unfold f_law_c39
  simp only [e1, e2, Option.bind_some, if_true, lg_self, lt]
end LP
theorem law_pure_open {Rel : Hp → Prop} (hR0 : Rel h0) (op0 : ∀ z1 z2 z3, Op Rel (fun h => f_X8_vote 0 z1 z2 z3 h) (fun h => f_X9_vote 108 z1 z2 z3 h)) (op1 : ∀ z1 z2, Op Rel (fun h => f_X8_votes 0 z1 z2 h) (fun h => f_X9_votes 108 z1 z2 h)) (op2 : ∀ z1 z2, Op Rel (fun h => f_X8_seats 0 z1 z2 h) (fun h => f_X9_seats 108 z1 z2 h)) (op3 : ∀ z1 z2, Op Rel (fun h => f_X8_least 0 z1 z2 h) (fun h => f_X9_least 108 z1 z2 h)) (op4 : ∀ z1 z2, Op Rel (fun h => f_X8_join 0 z1 z2 h) (fun h => f_X9_join 108 z1 z2 h)) (op5 : ∀ z1, Op Rel (fun h => f_X8_bar 0 z1 h) (fun h => f_X9_bar 108 z1 h)) (op6 : ∀ z1, Op Rel (fun h => f_X8_way 0 z1 h) (fun h => f_X9_way 108 z1 h)) (op7 : ∀ z1 z2, Op Rel (fun h => f_X8_tell 0 z1 z2 h) (fun h => f_X9_tell 108 z1 z2 h)) (op8 : ∀ z1, Op Rel (fun h => f_X8_feed 0 z1 h) (fun h => f_X9_feed 108 z1 h)) (op9 : Op Rel (fun h => f_X8_clear 0  h) (fun h => f_X9_clear 108  h)) (op10 : ∀ z1, Op Rel (fun h => f_X8_read 0 z1 h) (fun h => f_X9_read 108 z1 h)) (op11 : Op Rel (fun h => f_X8_in 0  h) (fun h => f_X9_in 108  h)) (op12 : ∀ z1 z2, Op Rel (fun h => f_X8_house 0 z1 z2 h) (fun h => f_X9_house 108 z1 z2 h)) (op13 : ∀ z1 z2, Op Rel (fun h => f_X8_list 0 z1 z2 h) (fun h => f_X9_list 108 z1 z2 h)) (op14 : ∀ z1 z2, Op Rel (fun h => f_X8_given 0 z1 z2 h) (fun h => f_X9_given 108 z1 z2 h)) (op15 : ∀ z1, Op Rel (fun h => f_X8_tie 0 z1 h) (fun h => f_X9_tie 108 z1 h)) (op16 : ∀ z1 z2 z3, Op Rel (fun h => f_X8_differ 0 z1 z2 z3 h) (fun h => f_X9_differ 108 z1 z2 z3 h)) (op17 : ∀ z1 z2, Op Rel (fun h => f_X8_loses 0 z1 z2 h) (fun h => f_X9_loses 108 z1 z2 h)) (op18 : ∀ z1, Op Rel (fun h => f_X8_loser 0 z1 h) (fun h => f_X9_loser 108 z1 h)) (op19 : ∀ z1 z2 z3, Op Rel (fun h => f_X8_price 0 z1 z2 z3 h) (fun h => f_X9_price 108 z1 z2 z3 h)) (op20 : ∀ z1 z2 z3, Op Rel (fun h => f_X8_span 0 z1 z2 z3 h) (fun h => f_X9_span 108 z1 z2 z3 h)) (op21 : ∀ z1, Op Rel (fun h => f_X8_quota 0 z1 h) (fun h => f_X9_quota 108 z1 h)) (op22 : ∀ z1, Op Rel (fun h => f_X8_alike 0 z1 h) (fun h => f_X9_alike 108 z1 h)) (op23 : ∀ z1 z2 z3 z4, Op Rel (fun h => f_X8_would 0 z1 z2 z3 z4 h) (fun h => f_X9_would 108 z1 z2 z3 z4 h)) (op24 : ∀ z1 z2 z3, Op Rel (fun h => f_X8_needs 0 z1 z2 z3 h) (fun h => f_X9_needs 108 z1 z2 z3 h)) (op25 : ∀ z1, Op Rel (fun h => f_X8_spell 0 z1 h) (fun h => f_X9_spell 108 z1 h)) (op26 : ∀ z1, Op Rel (fun h => f_X8_paper 0 z1 h) (fun h => f_X9_paper 108 z1 h)) (op27 : Op Rel (fun h => f_X8_solve 0  h) (fun h => f_X9_solve 108  h)) (op28 : ∀ z1 z2, Op Rel (fun h => f_X8_cell 0 z1 z2 h) (fun h => f_X9_cell 108 z1 z2 h)) (op29 : ∀ z1 z2 z3, Op Rel (fun h => f_X8_bound 0 z1 z2 z3 h) (fun h => f_X9_bound 108 z1 z2 z3 h)) (op30 : ∀ z1 z2 z3, Op Rel (fun h => f_X8_judge 0 z1 z2 z3 h) (fun h => f_X9_judge 108 z1 z2 z3 h)) (op31 : Op Rel (fun h => f_X8_moved 0  h) (fun h => f_X9_moved 108  h)) (op32 : Op Rel (fun h => f_X8_spellPlan 0  h) (fun h => f_X9_spellPlan 108  h)) (op33 : ∀ z1, Op Rel (fun h => f_X8_told 0 z1 h) (fun h => f_X9_told 108 z1 h)) (op34 : ∀ z1 z2, Op Rel (fun h => f_X8_row 0 z1 z2 h) (fun h => f_X9_row 108 z1 z2 h)) (op35 : ∀ z1 z2 z3, Op Rel (fun h => f_X8_set 0 z1 z2 z3 h) (fun h => f_X9_set 108 z1 z2 z3 h)) (op36 : ∀ z1 z2, Op Rel (fun h => f_X8_get 0 z1 z2 h) (fun h => f_X9_get 108 z1 z2 h)) (op37 : ∀ z1 z2, Op Rel (fun h => f_X8_lay 0 z1 z2 h) (fun h => f_X9_lay 108 z1 z2 h)) (op38 : Op Rel (fun h => f_X8_image 0  h) (fun h => f_X9_image 108  h)) (op39 : Op Rel (fun h => f_X8_undo 0  h) (fun h => f_X9_undo 108  h)) (xs : Nat → Int32) (L : Nat) (hL : L ≤ 2560) : lp (F := Int32 → Hp → Option Unit) (fun _ _ => none) (f_law_18 xs L) 1000 0 h0 = some () := by
  have key : ∀ (n i : Nat) (h : Hp), Rel h → 5 * i ≤ L + 4 → L + 5 ≤ 5 * i + 5 * n → lp (F := Int32 → Hp → Option Unit) (fun _ _ => none) (f_law_18 xs L) n (nI (5 * i)) h = some () := by
    intro n
    induction n with
    | zero => intro i h hR h1 h2; omega
    | succ n ih =>
      intro i h hR h1 h2
      show f_law_18 xs L (lp (F := Int32 → Hp → Option Unit) (fun _ _ => none) (f_law_18 xs L) n) (nI (5 * i)) h = some ()
      generalize lp (F := Int32 → Hp → Option Unit) (fun _ _ => none) (f_law_18 xs L) n = KK at ih ⊢
      unfold f_law_18
      have hsub : (nI L - nI 5).toInt = (L : Int) - 5 := pk_sub_toInt (by omega) (by omega)
      have h5 : (5 : Int32) = nI 5 := rfl
      by_cases hend : 5 * i + 5 ≤ L
      · have hc : ¬ (Int32.ofNat L - 5 < nI (5 * i)) := by
          show ¬ (nI L - 5 < nI (5 * i))
          rw [h5, Int32.lt_iff_toInt_lt, hsub, nI_toInt (by omega)]
          omega
        rw [if_neg hc]
        have hk : ∀ k : Nat, k < 5 → ix (nI (5 * i) + nI k) L = true := fun k hk => by
          rw [nI_add]
          exact ix_nI (by omega) (by omega)
        have i0 : ix (nI (5 * i)) L = true := ix_nI (by omega) (by omega)
        have i1 : ix (nI (5 * i) + 1) L = true := hk 1 (by omega)
        have i2 : ix (nI (5 * i) + 2) L = true := hk 2 (by omega)
        have i3 : ix (nI (5 * i) + 3) L = true := hk 3 (by omega)
        have i4 : ix (nI (5 * i) + 4) L = true := hk 4 (by omega)
        have hn5 : nI (5 * i) + 5 = nI (5 * (i + 1)) := by
          rw [h5, nI_add]
          congr 1
        have go : ∀ h2, Rel h2 → KK (nI (5 * i) + 5) h2 = some () := fun h2 hR2 => by
          rw [hn5]
          exact ih (i + 1) h2 hR2 (by omega) (by omega)
        rw [if_pos i0]
        unfold lt
        generalize xs (Int32.toNatClampNeg (nI (5 * i))) &&& 63 = w
        dsimp only
        by_cases w0 : w = 0
        · rw [if_pos w0]
          obtain ⟨h2, hR2, e⟩ := law_c0 (xs := xs) (L := L) op0 i1 i2 i3 hR
          rw [e]
          exact go h2 hR2
        rw [if_neg w0]
        by_cases w1 : w = 1
        · rw [if_pos w1]
          obtain ⟨h2, hR2, e⟩ := law_c1 (xs := xs) (L := L) op1 i1 i2 hR
          rw [e]
          exact go h2 hR2
        rw [if_neg w1]
        by_cases w2 : w = 2
        · rw [if_pos w2]
          obtain ⟨h2, hR2, e⟩ := law_c2 (xs := xs) (L := L) op2 i1 i2 hR
          rw [e]
          exact go h2 hR2
        rw [if_neg w2]
        by_cases w3 : w = 3
        · rw [if_pos w3]
          obtain ⟨h2, hR2, e⟩ := law_c3 (xs := xs) (L := L) op3 i1 i2 hR
          rw [e]
          exact go h2 hR2
        rw [if_neg w3]
        by_cases w4 : w = 4
        · rw [if_pos w4]
          obtain ⟨h2, hR2, e⟩ := law_c4 (xs := xs) (L := L) op4 i1 i2 hR
          rw [e]
          exact go h2 hR2
        rw [if_neg w4]
        by_cases w5 : w = 5
        · rw [if_pos w5]
          obtain ⟨h2, hR2, e⟩ := law_c5 (xs := xs) (L := L) op5 i1 hR
          rw [e]
          exact go h2 hR2
        rw [if_neg w5]
        by_cases w6 : w = 6
        · rw [if_pos w6]
          obtain ⟨h2, hR2, e⟩ := law_c6 (xs := xs) (L := L) op6 i1 hR
          rw [e]
          exact go h2 hR2
        rw [if_neg w6]
        by_cases w7 : w = 7
        · rw [if_pos w7]
          obtain ⟨h2, hR2, e⟩ := law_c7 (xs := xs) (L := L) op7 i1 i2 hR
          rw [e]
          exact go h2 hR2
        rw [if_neg w7]
        by_cases w8 : w = 8
        · rw [if_pos w8]
          obtain ⟨h2, hR2, e⟩ := law_c8 (xs := xs) (L := L) op8 i1 hR
          rw [e]
          exact go h2 hR2
        rw [if_neg w8]
        by_cases w9 : w = 9
        · rw [if_pos w9]
          obtain ⟨h2, hR2, e⟩ := law_c9 (xs := xs) (L := L) op9 hR
          rw [e]
          exact go h2 hR2
        rw [if_neg w9]
        by_cases w10 : w = 10
        · rw [if_pos w10]
          obtain ⟨h2, hR2, e⟩ := law_c10 (xs := xs) (L := L) op10 i1 hR
          rw [e]
          exact go h2 hR2
        rw [if_neg w10]
        by_cases w11 : w = 11
        · rw [if_pos w11]
          obtain ⟨h2, hR2, e⟩ := law_c11 (xs := xs) (L := L) op11 hR
          rw [e]
          exact go h2 hR2
        rw [if_neg w11]
        by_cases w12 : w = 12
        · rw [if_pos w12]
          obtain ⟨h2, hR2, e⟩ := law_c12 (xs := xs) (L := L) op12 i1 i2 hR
          rw [e]
          exact go h2 hR2
        rw [if_neg w12]
        by_cases w13 : w = 13
        · rw [if_pos w13]
          obtain ⟨h2, hR2, e⟩ := law_c13 (xs := xs) (L := L) op13 i1 i2 hR
          rw [e]
          exact go h2 hR2
        rw [if_neg w13]
        by_cases w14 : w = 14
        · rw [if_pos w14]
          obtain ⟨h2, hR2, e⟩ := law_c14 (xs := xs) (L := L) op14 i1 i2 hR
          rw [e]
          exact go h2 hR2
        rw [if_neg w14]
        by_cases w15 : w = 15
        · rw [if_pos w15]
          obtain ⟨h2, hR2, e⟩ := law_c15 (xs := xs) (L := L) op15 i1 hR
          rw [e]
          exact go h2 hR2
        rw [if_neg w15]
        by_cases w16 : w = 16
        · rw [if_pos w16]
          obtain ⟨h2, hR2, e⟩ := law_c16 (xs := xs) (L := L) op16 i1 i2 i3 hR
          rw [e]
          exact go h2 hR2
        rw [if_neg w16]
        by_cases w17 : w = 17
        · rw [if_pos w17]
          obtain ⟨h2, hR2, e⟩ := law_c17 (xs := xs) (L := L) op17 i1 i2 hR
          rw [e]
          exact go h2 hR2
        rw [if_neg w17]
        by_cases w18 : w = 18
        · rw [if_pos w18]
          obtain ⟨h2, hR2, e⟩ := law_c18 (xs := xs) (L := L) op18 i1 hR
          rw [e]
          exact go h2 hR2
        rw [if_neg w18]
        by_cases w19 : w = 19
        · rw [if_pos w19]
          obtain ⟨h2, hR2, e⟩ := law_c19 (xs := xs) (L := L) op19 i1 i2 i3 hR
          rw [e]
          exact go h2 hR2
        rw [if_neg w19]
        by_cases w20 : w = 20
        · rw [if_pos w20]
          obtain ⟨h2, hR2, e⟩ := law_c20 (xs := xs) (L := L) op20 i1 i2 i3 hR
          rw [e]
          exact go h2 hR2
        rw [if_neg w20]
        by_cases w21 : w = 21
        · rw [if_pos w21]
          obtain ⟨h2, hR2, e⟩ := law_c21 (xs := xs) (L := L) op21 i1 hR
          rw [e]
          exact go h2 hR2
        rw [if_neg w21]
        by_cases w22 : w = 22
        · rw [if_pos w22]
          obtain ⟨h2, hR2, e⟩ := law_c22 (xs := xs) (L := L) op22 i1 hR
          rw [e]
          exact go h2 hR2
        rw [if_neg w22]
        by_cases w23 : w = 23
        · rw [if_pos w23]
          obtain ⟨h2, hR2, e⟩ := law_c23 (xs := xs) (L := L) op23 i1 i2 i3 i4 hR
          rw [e]
          exact go h2 hR2
        rw [if_neg w23]
        by_cases w24 : w = 24
        · rw [if_pos w24]
          obtain ⟨h2, hR2, e⟩ := law_c24 (xs := xs) (L := L) op24 i1 i2 i3 hR
          rw [e]
          exact go h2 hR2
        rw [if_neg w24]
        by_cases w25 : w = 25
        · rw [if_pos w25]
          obtain ⟨h2, hR2, e⟩ := law_c25 (xs := xs) (L := L) op25 i1 hR
          rw [e]
          exact go h2 hR2
        rw [if_neg w25]
        by_cases w26 : w = 26
        · rw [if_pos w26]
          obtain ⟨h2, hR2, e⟩ := law_c26 (xs := xs) (L := L) op26 i1 hR
          rw [e]
          exact go h2 hR2
        rw [if_neg w26]
        by_cases w27 : w = 27
        · rw [if_pos w27]
          obtain ⟨h2, hR2, e⟩ := law_c27 (xs := xs) (L := L) op27 hR
          rw [e]
          exact go h2 hR2
        rw [if_neg w27]
        by_cases w28 : w = 28
        · rw [if_pos w28]
          obtain ⟨h2, hR2, e⟩ := law_c28 (xs := xs) (L := L) op28 i1 i2 hR
          rw [e]
          exact go h2 hR2
        rw [if_neg w28]
        by_cases w29 : w = 29
        · rw [if_pos w29]
          obtain ⟨h2, hR2, e⟩ := law_c29 (xs := xs) (L := L) op29 i1 i2 i3 hR
          rw [e]
          exact go h2 hR2
        rw [if_neg w29]
        by_cases w30 : w = 30
        · rw [if_pos w30]
          obtain ⟨h2, hR2, e⟩ := law_c30 (xs := xs) (L := L) op30 i1 i2 i3 hR
          rw [e]
          exact go h2 hR2
        rw [if_neg w30]
        by_cases w31 : w = 31
        · rw [if_pos w31]
          obtain ⟨h2, hR2, e⟩ := law_c31 (xs := xs) (L := L) op31 hR
          rw [e]
          exact go h2 hR2
        rw [if_neg w31]
        by_cases w32 : w = 32
        · rw [if_pos w32]
          obtain ⟨h2, hR2, e⟩ := law_c32 (xs := xs) (L := L) op32 hR
          rw [e]
          exact go h2 hR2
        rw [if_neg w32]
        by_cases w33 : w = 33
        · rw [if_pos w33]
          obtain ⟨h2, hR2, e⟩ := law_c33 (xs := xs) (L := L) op33 i1 hR
          rw [e]
          exact go h2 hR2
        rw [if_neg w33]
        by_cases w34 : w = 34
        · rw [if_pos w34]
          obtain ⟨h2, hR2, e⟩ := law_c34 (xs := xs) (L := L) op34 i1 i2 hR
          rw [e]
          exact go h2 hR2
        rw [if_neg w34]
        by_cases w35 : w = 35
        · rw [if_pos w35]
          obtain ⟨h2, hR2, e⟩ := law_c35 (xs := xs) (L := L) op35 i1 i2 i3 hR
          rw [e]
          exact go h2 hR2
        rw [if_neg w35]
        by_cases w36 : w = 36
        · rw [if_pos w36]
          obtain ⟨h2, hR2, e⟩ := law_c36 (xs := xs) (L := L) op36 i1 i2 hR
          rw [e]
          exact go h2 hR2
        rw [if_neg w36]
        by_cases w37 : w = 37
        · rw [if_pos w37]
          obtain ⟨h2, hR2, e⟩ := law_c37 (xs := xs) (L := L) op37 i1 i2 hR
          rw [e]
          exact go h2 hR2
        rw [if_neg w37]
        by_cases w38 : w = 38
        · rw [if_pos w38]
          obtain ⟨h2, hR2, e⟩ := law_c38 (xs := xs) (L := L) op38 hR
          rw [e]
          exact go h2 hR2
        rw [if_neg w38]
        by_cases w39 : w = 39
        · rw [if_pos w39]
          obtain ⟨h2, hR2, e⟩ := law_c39 (xs := xs) (L := L) op39 hR
          rw [e]
          exact go h2 hR2
        rw [if_neg w39]
        exact go h hR
      · have hc : Int32.ofNat L - 5 < nI (5 * i) := by
          show nI L - 5 < nI (5 * i)
          rw [h5, Int32.lt_iff_toInt_lt, hsub, nI_toInt (by omega)]
          omega
        rw [if_pos hc]
  exact key 1000 0 h0 hR0 (by omega) (by omega)
