def slv (N : Nat → Nat) (Qw Qp : Nat → Bool) : Nat → Nat → (Nat → Nat) → Int32 × (Nat → Nat)
  | 0, d, s => (nI d, s)
  | m + 1, d, s => match fB N s Qw Qp with
    | none => (nI d, s)
    | some (_, none) => (-6, s)
    | some (k, some x) => slv N Qw Qp m (d + 1) (trn k x.1 x.2 s)
theorem slv_n {N s : Nat → Nat} {Qw Qp : Nat → Bool} {m d : Nat} (h : fB N s Qw Qp = none) : slv N Qw Qp (m + 1) d s = (nI d, s) := by
  show (match fB N s Qw Qp with
    | none => (nI d, s)
    | some (_, none) => (-6, s)
    | some (k, some x) => slv N Qw Qp m (d + 1) (trn k x.1 x.2 s)) = _
  rw [h]
theorem slv_o {N s : Nat → Nat} {Qw Qp : Nat → Bool} {m d k : Nat} (h : fB N s Qw Qp = some (k, none)) : slv N Qw Qp (m + 1) d s = (-6, s) := by
  show (match fB N s Qw Qp with
    | none => (nI d, s)
    | some (_, none) => (-6, s)
    | some (k, some x) => slv N Qw Qp m (d + 1) (trn k x.1 x.2 s)) = _
  rw [h]
theorem slv_s {N s : Nat → Nat} {Qw Qp : Nat → Bool} {m d k : Nat} {x : (Nat → Nat) × (Nat → Nat)} (h : fB N s Qw Qp = some (k, some x)) : slv N Qw Qp (m + 1) d s = slv N Qw Qp m (d + 1) (trn k x.1 x.2 s) := by
  show (match fB N s Qw Qp with
    | none => (nI d, s)
    | some (_, none) => (-6, s)
    | some (k, some x) => slv N Qw Qp m (d + 1) (trn k x.1 x.2 s)) = _
  rw [h]
theorem trn_fin {Qw Qp : Nat → Bool} {N s : Nat → Nat} {k : Nat} {x : (Nat → Nat) × (Nat → Nat)} (h : fB N s Qw Qp = some (k, some x)) (z : Zr Qw Qp s) : (∀ c, trn k x.1 x.2 s c ≤ s c + 1) ∧ Zr Qw Qp (trn k x.1 x.2 s) := by
  obtain ⟨h1, h2, h3, h4⟩ := fB_gd h
  exact (trn_ok h1 h3 h4 z k (Nat.le_refl k)).2
theorem slv_ok {N : Nat → Nat} {Qw Qp : Nat → Bool} : ∀ m d s, d + m = 200 → (∀ c, s c ≤ 30 + d) → Zr Qw Qp s → ((slv N Qw Qp m d s).1 = -6 ∨ ∃ e, e ≤ 200 ∧ (slv N Qw Qp m d s).1 = nI e) ∧ (∀ c, (slv N Qw Qp m d s).2 c ≤ 260) ∧ Zr Qw Qp (slv N Qw Qp m d s).2 := by
  intro m
  induction m with
  | zero => exact fun d s hd hs z => ⟨Or.inr ⟨d, by omega, rfl⟩, fun c => by have := hs c; show s c ≤ 260; omega, z⟩
  | succ m ih =>
    intro d s hd hs z
    cases hf : fB N s Qw Qp with
    | none =>
      rw [slv_n hf]
      exact ⟨Or.inr ⟨d, by omega, rfl⟩, fun c => by have := hs c; show s c ≤ 260; omega, z⟩
    | some y =>
      obtain ⟨k, y⟩ := y
      cases y with
      | none =>
        rw [slv_o hf]
        exact ⟨Or.inl rfl, fun c => by have := hs c; show s c ≤ 260; omega, z⟩
      | some x =>
        rw [slv_s hf]
        have t := trn_fin hf z
        exact ih (d + 1) _ (by omega) (fun c => by have := hs c; have := t.1 c; omega) t.2
theorem solve8L {N : Nat → Nat} (v : Vn N) (hpw : planW (N 41)) {Qw Qp : Nat → Bool} : ∀ m n d s h, m < n → d + m = 200 → Pc h 1 N → (∀ c, c < 24 → h.1 57 c = nI (s c)) → h.1 58 0 = bits4 Qw → h.1 58 1 = bits6 Qp → (∀ c, s c ≤ 30 + d) → Zr Qw Qp s → ∃ b, lp (F := Nat → Nat → Int32 → Hp → Option (Int32 × Hp)) (fun _ _ _ _ => none) f_X2_solveFrom_25 n 56 1 (nI d) h = some b ∧ b.1 = (slv N Qw Qp m d s).1 ∧ (∀ c, c < 24 → b.2.1 57 c = nI ((slv N Qw Qp m d s).2 c)) ∧ (b.2.1 58 0 = bits4 Qw ∧ b.2.1 58 1 = bits6 Qp) ∧ ∀ r, (r < 57 ∨ 67 ≤ r) → b.2.1 r = h.1 r := by
  intro m
  induction m with
  | zero =>
    intro n d s h hn hd a es h0 h1 hs z
    obtain ⟨n, rfl⟩ : ∃ k, n = k + 1 := ⟨n - 1, by omega⟩
    have ed : d = 200 := by omega
    subst ed
    show ∃ b, f_X2_solveFrom_25 _ 56 1 (nI 200) h = some b ∧ _
    unfold f_X2_solveFrom_25
    rw [if_pos (show (200 : Int32) ≤ nI 200 by decide)]
    exact ⟨_, rfl, rfl, es, ⟨h0, h1⟩, fun _ _ => rfl⟩
  | succ m ih =>
    intro n d s h hn hd a es h0 h1 hs z
    obtain ⟨n, rfl⟩ : ∃ k, n = k + 1 := ⟨n - 1, by omega⟩
    obtain ⟨b, e1, ⟨k0, k1⟩, q⟩ := first8 (Qw := Qw) (Qp := Qp) v hpw (s := s) (fun c _ => by have := hs c; omega) a (x := 57) (Or.inl (by decide)) rfl es h0 h1
    have f1 := mf_X4_firstBetter e1
    have e57 : ∀ c, c < 24 → b.2.1 57 c = nI (s c) := fun c hc => by rw [(f1 57 (by omega) (by simp)).1]; exact es c hc
    have fr : ∀ r, (r < 57 ∨ 67 ≤ r) → b.2.1 r = h.1 r := fun r hr => (f1 r (by omega) (by simp)).1
    rw [h0] at k0
    rw [h1] at k1
    show ∃ b, f_X2_solveFrom_25 (lp (F := Nat → Nat → Int32 → Hp → Option (Int32 × Hp)) (fun _ _ _ _ => none) f_X2_solveFrom_25 n) 56 1 (nI d) h = some b ∧ _
    have ih2 := fun s h => ih n (d + 1) s h (by omega) (by omega)
    generalize lp (F := Nat → Nat → Int32 → Hp → Option (Int32 × Hp)) (fun _ _ _ _ => none) f_X2_solveFrom_25 n = K at ih2
    unfold f_X2_solveFrom_25
    rw [if_neg (show ¬ (200 : Int32) ≤ nI d from nI_ge (b := 200) (by omega) (by decide)), show f_X4_firstBetter (56 + 2) 1 (56 + 1) h = some b from e1, Option.bind_some]
    cases hf : fB N s Qw Qp with
    | none =>
      rw [hf] at q
      rw [slv_n hf, if_pos (by rw [show b.1 = 0 from q]; decide), if_pos (show b.1 = 0 from q)]
      exact ⟨_, rfl, rfl, e57, ⟨k0, k1⟩, fr⟩
    | some y =>
      obtain ⟨k, y⟩ := y
      rw [hf] at q
      cases y with
      | none =>
        rw [slv_o hf, if_neg (by rw [show b.1 = -6 from q]; decide)]
        exact ⟨b, rfl, q, e57, ⟨k0, k1⟩, fr⟩
      | some x =>
        have q1 : b.1 = 1 := q.1
        obtain ⟨g1, g2, g3, g4⟩ := fB_gd hf
        obtain ⟨b2, e2, t1, t2⟩ := turn8 g1 g2 g3 g4 z q.2 e57
        have tf := trn_fin hf z
        rw [slv_s hf, if_pos (by rw [q1]; decide), if_neg (by rw [q1]; exact one_ne), show f_X4_turn (56 + 2) (56 + 1) b.2 = some b2 from e2, Option.bind_some]
        dsimp only [lt]
        rw [nI_1]
        obtain ⟨b3, e3, c1, c2, c3, c4⟩ := ih2 (trn k x.1 x.2 s) b2.2 (a.keep (fun j hj => by rw [t1 _ (by omega)]; exact fr _ (by omega))) t2 (by rw [t1 58 (by decide)]; exact k0) (by rw [t1 58 (by decide)]; exact k1) (fun c => by have := hs c; have := tf.1 c; omega) tf.2
        exact ⟨b3, e3, c1, c2, c3, fun r hr => by rw [c4 r hr, t1 r (by omega)]; exact fr r hr⟩
theorem solve9L {N : Nat → Nat} (v : Vn N) (hpw : planW (N 41)) {Qw Qp : Nat → Bool} : ∀ m n d s h, m < n → d + m = 200 → Po h 109 N → Ls Qw Qp h → (∀ c, c < 24 → h.1 131 c = nI (s c)) → (∀ c, s c ≤ 30 + d) → Zr Qw Qp s → ∃ b, lp (F := Nat → Int32 → Hp → Option (Int32 × Hp)) (fun _ _ _ => none) f_X9_solvesAnew_16 n 108 (nI d) h = some b ∧ b.1 = (slv N Qw Qp m d s).1 ∧ (∀ c, c < 24 → b.2.1 131 c = nI ((slv N Qw Qp m d s).2 c)) := by
  intro m
  induction m with
  | zero =>
    intro n d s h hn hd a l es hs z
    obtain ⟨n, rfl⟩ : ∃ k, n = k + 1 := ⟨n - 1, by omega⟩
    have ed : d = 200 := by omega
    subst ed
    show ∃ b, f_X9_solvesAnew_16 _ 108 (nI 200) h = some b ∧ _
    unfold f_X9_solvesAnew_16
    rw [if_pos (show (200 : Int32) ≤ nI 200 by decide)]
    exact ⟨_, rfl, rfl, es⟩
  | succ m ih =>
    intro n d s h hn hd a l es hs z
    obtain ⟨n, rfl⟩ : ∃ k, n = k + 1 := ⟨n - 1, by omega⟩
    obtain ⟨b, e1, q⟩ := finds9 (Qw := Qw) (Qp := Qp) v hpw (s := s) (fun c _ => by have := hs c; omega) (a := 131) (by decide) (by decide) (by decide) rfl l a es
    have f1 := mf_X9_finds e1
    have e131 : ∀ c, c < 24 → b.2.1 131 c = nI (s c) := fun c hc => by rw [f1.1 131 (by decide) (by decide)]; exact es c hc
    have l1 : Ls Qw Qp b.2 := by
      unfold Ls
      rw [f1.2.2 31 (by decide), f1.2.2 32 (by decide), f1.1 128 (by decide) (by decide), f1.1 129 (by decide) (by decide)]
      exact l
    show ∃ b, f_X9_solvesAnew_16 (lp (F := Nat → Int32 → Hp → Option (Int32 × Hp)) (fun _ _ _ => none) f_X9_solvesAnew_16 n) 108 (nI d) h = some b ∧ _
    have ih2 := fun s h => ih n (d + 1) s h (by omega) (by omega)
    generalize lp (F := Nat → Int32 → Hp → Option (Int32 × Hp)) (fun _ _ _ => none) f_X9_solvesAnew_16 n = K at ih2
    unfold f_X9_solvesAnew_16
    rw [if_neg (show ¬ (200 : Int32) ≤ nI d from nI_ge (b := 200) (by omega) (by decide)), show f_X9_finds 108 (108 + 23) h = some b from e1, Option.bind_some]
    cases hf : fB N s Qw Qp with
    | none =>
      rw [hf] at q
      rw [slv_n hf, if_pos (show b.1 = 0 from q.1)]
      exact ⟨_, rfl, rfl, e131⟩
    | some y =>
      obtain ⟨k, y⟩ := y
      rw [hf] at q
      cases y with
      | none =>
        rw [slv_o hf, if_neg (by rw [show b.1 = 1 from q.1]; exact one_ne), if_neg (by rw [show b.2.1 108 38 = 1 from q.2]; exact one_ne)]
        exact ⟨_, rfl, rfl, e131⟩
      | some x =>
        have q1 : b.1 = 1 := q.1
        have q2 : b.2.1 108 38 = 0 := q.2.1
        obtain ⟨g1, g2, g3, g4⟩ := fB_gd hf
        obtain ⟨h2, ⟨t1, t2⟩, e2⟩ := turn9 g1 g2 g3 g4 z q.2.2 e131 K d
        have tf := trn_fin hf z
        rw [slv_s hf, if_neg (by rw [q1]; exact one_ne), if_pos q2, e2]
        obtain ⟨b3, e3, c1, c2⟩ := ih2 (trn k x.1 x.2 s) h2 (a.keep (by rw [t1 109 (by decide)]; exact f1.1 109 (by decide) (by decide))) (by
          unfold Ls
          rw [t1 108 (by decide), t1 128 (by decide), t1 129 (by decide)]
          exact l1) t2 (fun c => by have := hs c; have := tf.1 c; omega) tf.2
        exact ⟨b3, e3, c1, c2⟩
def D0 (N : Nat → Nat) : Nat → Nat := pS N (N 41) (seatsA N)
def sol (N : Nat → Nat) : Int32 × (Nat → Nat) := slv N (hasSeat N) (isInN N) 200 0 (s0N N (D0 N))
def ocN (N : Nat → Nat) : Int32 := if canP N = true then (sol N).1 else -3
theorem D0_le {N : Nat → Nat} (v : Vn N) (h : canP N = true) : ∀ p, p < 6 → D0 N p ≤ 60 := fun p hp => by
  obtain ⟨-, -, h1, h2⟩ := canP_w h
  have := pS_le v h2 hp
  unfold D0
  omega
theorem hs_0 {N : Nat → Nat} : ∀ w, w < 4 → hasSeat N w = false → N (24 + w) = 0 := fun w _ h => by
  unfold hasSeat at h
  simp at h
  exact h
theorem D0_0 {N : Nat → Nat} : ∀ p, p < 6 → isInN N p = false → D0 N p = 0 := fun p _ h => by
  unfold D0 pS
  rw [h]
  rfl
theorem s0_ok {N : Nat → Nat} (v : Vn N) : (∀ c, s0N N (D0 N) c ≤ 30 + 0) ∧ Zr (hasSeat N) (isInN N) (s0N N (D0 N)) := by
  have q := bgi_cell (N := N) (D := D0 N) (Qw := hasSeat N) (Qp := isInN N) hs_0 D0_0 (fun w hw => ws_le v hw) 4 (Nat.le_refl 4)
  exact ⟨fun c => q.2 c, fun w p hw hp h => q.1 w p hw hp h⟩
theorem sol_ok {N : Nat → Nat} (v : Vn N) : ((sol N).1 = -6 ∨ ∃ e, e ≤ 200 ∧ (sol N).1 = nI e) ∧ (∀ c, (sol N).2 c ≤ 260) ∧ Zr (hasSeat N) (isInN N) (sol N).2 := slv_ok 200 0 _ rfl (s0_ok v).1 (s0_ok v).2
theorem solveF8 {N : Nat → Nat} (v : Vn N) (hc : canP N = true) {h : Hp} (a : Pc h 1 N) (h67 : h.1 67 2 = bits6 (isInN N)) (e77 : ∀ p, p < 6 → h.1 77 p = nI (D0 N p)) : ∃ b, f_X2_solveFrom 56 1 h = some b ∧ b.1 = (sol N).1 ∧ (∀ c, c < 24 → b.2.1 57 c = nI ((sol N).2 c)) ∧ (b.2.1 58 0 = bits4 (hasSeat N) ∧ b.2.1 58 1 = bits6 (isInN N)) ∧ ∀ r, (r < 57 ∨ 67 ≤ r) → b.2.1 r = h.1 r := by
  obtain ⟨hpw, -, -, -⟩ := canP_w hc
  have f1 : ∀ r, r ≠ 58 → (sI (sI h 58 0 (bits4 (hasSeat N))) 58 1 (bits6 (isInN N))).1 r = h.1 r := fun r hr => by rw [sI_row _ _ _ hr, sI_row _ _ _ hr]
  obtain ⟨b1, e1, t1, t2⟩ := begin8 (D := D0 N) v (D0_le v hc) (h := sI (sI h 58 0 (bits4 (hasSeat N))) 58 1 (bits6 (isInN N))) (a.keep (fun j hj => f1 _ (by omega))) (fun p hp => by rw [f1 77 (by decide)]; exact e77 p hp)
  have fr : ∀ r, (r < 57 ∨ 67 ≤ r) → b1.2.1 r = h.1 r := fun r hr => by rw [t1 r (by omega), f1 r (by omega)]
  obtain ⟨b2, e2, c1, c2, c3, c4⟩ := solve8L (Qw := hasSeat N) (Qp := isInN N) v hpw 200 1000 0 (s0N N (D0 N)) b1.2 (by decide) rfl (a.keep (fun j hj => fr _ (by omega))) t2 (by rw [t1 58 (by decide), sI1, if_pos rfl, if_neg (by decide), sI1, if_pos rfl, if_pos rfl]) (by rw [t1 58 (by decide), sI1, if_pos rfl, if_pos rfl]) (s0_ok v).1 (s0_ok v).2
  refine ⟨b2, ?_, c1, c2, c3, fun r hr => by rw [c4 r hr]; exact fr r hr⟩
  generalize hl : lp (F := Nat → Nat → Int32 → Hp → Option (Int32 × Hp)) (fun _ _ _ _ => none) f_X2_solveFrom_25 1000 = LL at e2
  unfold f_X2_solveFrom f_X4_layOut
  rw [hl, wardBits8 v a, Option.bind_some]
  dsimp only [lt]
  rw [show h.1 (56 + 11) 2 = _ from h67, Option.bind_some]
  dsimp only
  rw [show f_X2_begin 56 1 (sI (sI h (56 + 2) 0 (bits4 (hasSeat N))) (56 + 2) 1 (bits6 (isInN N))) = some b1 from e1, Option.bind_some]
  exact e2
theorem solveF9 {N : Nat → Nat} (v : Vn N) {h : Hp} (b : Po h 109 N) : ∃ o, f_X9_solvesAnew 108 h = some o ∧ o.1 = ocN N ∧ (canP N = true → ∀ c, c < 24 → o.2.1 131 c = nI ((sol N).2 c)) := by
  obtain ⟨o1, e1, q⟩ := plans9 v b
  have f1 := mf_X9_plans e1
  rcases q with ⟨hc, q1, q2, q3⟩ | ⟨hc, q1⟩
  · obtain ⟨hpw, -, -, -⟩ := canP_w hc
    have b1 := f1.po b (by decide)
    obtain ⟨o2, e2, q4⟩ := begins9 (D := D0 N) v (D0_le v hc) hs_0 D0_0 q2 b1 q3
    have f2 := mf_X9_begins e2
    obtain ⟨o3, e3, c1, c2⟩ := solve9L (Qw := hasSeat N) (Qp := isInN N) v hpw 200 1000 0 (s0N N (D0 N)) o2.2 (by decide) rfl (f2.po b1 (by decide)) (by
      unfold Ls
      rw [f2.2.2 31 (by decide), f2.2.2 32 (by decide), f2.1 128 (by decide) (by decide), f2.1 129 (by decide) (by decide)]
      exact q2) q4 (s0_ok v).1 (s0_ok v).2
    refine ⟨o3, ?_, by unfold ocN; rw [if_pos hc]; exact c1, fun _ => c2⟩
    generalize hl : lp (F := Nat → Int32 → Hp → Option (Int32 × Hp)) (fun _ _ _ => none) f_X9_solvesAnew_16 1000 = LL at e3
    unfold f_X9_solvesAnew
    rw [hl, e1, Option.bind_some, if_neg (by rw [q1]; exact one_ne), e2, Option.bind_some]
    exact e3
  · refine ⟨(-3, o1.2), ?_, by unfold ocN; rw [if_neg (by rw [hc]; decide)], fun z => by rw [hc] at z; cases z⟩
    unfold f_X9_solvesAnew
    rw [e1, Option.bind_some, if_pos q1]
