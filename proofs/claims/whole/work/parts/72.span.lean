/-! the span -/
section SPAN
variable (N : Nat → Nat) (w : Nat) (P : Nat → Bool) (W F s : Nat → Nat) (nx : Bool)
def eP (k : Nat) : Bool := P k && (nx || decide (F k < s k))
def eN (k : Nat) : Nat := if nx = true then s k + 1 else s k
def eA (k : Nat) : Nat := pay N w (W k) (eN s nx k)
def eB (k : Nat) : Nat := mrk N w (eN s nx k)
def eC (k j : Nat) : Int32 := if nx = true then cmpS (eA N w W s nx k) (eB N w s nx k) (eA N w W s nx j) (eB N w s nx j) else (if 0 ≤ cmpS (eA N w W s nx k) (eB N w s nx k) (eA N w W s nx j) (eB N w s nx j) then 0 else 1)
def eBest (i : Nat) : Option Nat := fu (bstS (eP P F s nx) (eC N w W s nx)) i none
def vA : Option Nat → Nat
  | none => 0
  | some k => eA N w W s nx k
def vB : Option Nat → Nat
  | none => 0
  | some k => eB N w s nx k
end SPAN
def vF : Option Nat → Int32
  | none => 0
  | some _ => 1
def eX (N : Nat → Nat) (w : Nat) (W s : Nat → Nat) (nx : Bool) (part : Int32) : Option Nat → Int64
  | none => -9223372036854775808
  | some k => if eB N w s nx k = 0 then -9223372036854775808 else lN (lowN (eA N w W s nx k) (eB N w s nx k) part)
theorem eBest_lt {N : Nat → Nat} {w : Nat} {P : Nat → Bool} {W F s : Nat → Nat} {nx : Bool} {i k : Nat} (h : eBest N w P W F s nx i = some k) : k < i ∧ P k = true ∧ (nx = false → F k < s k) := by
  obtain ⟨h1, h2⟩ := bst_some h
  unfold eP at h2
  rw [Bool.and_eq_true, Bool.or_eq_true] at h2
  refine ⟨h1, h2.1, fun z => ?_⟩
  rcases h2.2 with q | q
  · rw [z] at q
    cases q
  · simpa using q
theorem edge8 {N : Nat → Nat} {h : Hp} {g p : Nat} (a : Pc h p N) (v : Vn N) {w : Nat} (hw : w ≤ 6) {P : Nat → Bool} {W F : Nat → Nat} {st : GS} (cl : ClR P W F h g st) (bW : ∀ k, k < 6 → W k ≤ 2400000) (bs : ∀ k, k < 6 → st.s k ≤ 60) (bF : ∀ k, k < 6 → F k ≤ 100) (nx : Bool) (part : Int32) : f_X0_edge g p (nI w) (if nx = true then 1 else 0) part h = some (eX N w W st.s nx part (eBest N w P W F st.s nx 6), h) := by
  obtain ⟨c1, c2, c3, c4, -⟩ := cl
  have bN : ∀ k, k < 6 → eN st.s nx k ≤ 61 := fun k hk => by
    have := bs k hk
    unfold eN
    split <;> omega
  have bA : ∀ k, k < 6 → eA N w W st.s nx k ≤ 5760000000000 := fun k hk => pay_le v (bW k hk) (by have := bN k hk; omega)
  have bB : ∀ k, k < 6 → eB N w st.s nx k ≤ 180000 := fun k hk => mrk_le v (by have := bN k hk; omega)
  have bvA : ∀ o : Option Nat, (∀ k, o = some k → k < 6) → vA N w W st.s nx o ≤ 5760000000000 ∧ vB N w st.s nx o ≤ 180000 := fun o ho => by
    cases o with
    | none => exact ⟨Nat.zero_le _, Nat.zero_le _⟩
    | some k => exact ⟨bA k (ho k rfl), bB k (ho k rfl)⟩
  unfold f_X0_edge
  refine lp_seq (F := Nat → Nat → Int32 → Int32 → Int32 → Int64 → Int64 → Int32 → Int32 → Hp → Option (Int64 × Hp)) (bot := fun _ _ _ _ _ _ _ _ _ _ => none) (G := f_X0_edge_12) (fun K i (o : Option Nat) => K g p (nI w) (if nx = true then 1 else 0) part (lN (vA N w W st.s nx o)) (lN (vB N w st.s nx o)) (vF o) (nI i) h) 6 (fun i => eBest N w P W F st.s nx i) _ ?_ ?_ 1000 0 (by omega) (by omega)
  · intro K i hi
    have hlt : ∀ k, eBest N w P W F st.s nx i = some k → k < 6 := fun k hk => by
      have := (eBest_lt hk).1
      omega
    show f_X0_edge_12 K g p (nI w) (if nx = true then 1 else 0) part (lN (vA N w W st.s nx (eBest N w P W F st.s nx i))) (lN (vB N w st.s nx (eBest N w P W F st.s nx i))) (vF (eBest N w P W F st.s nx i)) (nI i) h = K g p (nI w) (if nx = true then 1 else 0) part (lN (vA N w W st.s nx (bstS (eP P F st.s nx) (eC N w W st.s nx) i (eBest N w P W F st.s nx i)))) (lN (vB N w st.s nx (bstS (eP P F st.s nx) (eC N w W st.s nx) i (eBest N w P W F st.s nx i)))) (vF (bstS (eP P F st.s nx) (eC N w W st.s nx) i (eBest N w P W F st.s nx i))) (nI (i + 1)) h
    generalize eBest N w P W F st.s nx i = o at hlt
    have hv := bvA o hlt
    have hFi := bF i hi
    have hsi := bs i hi
    have hAi := bA i hi
    have hBi := bB i hi
    -- what is done when it counts
    have c78 : eP P F st.s nx i = true → f_X0_edge_78 K g p (nI w) (if nx = true then 1 else 0) part (lN (vA N w W st.s nx o)) (lN (vB N w st.s nx o)) (vF o) (nI i) (nI (eN st.s nx i)) h = K g p (nI w) (if nx = true then 1 else 0) part (lN (vA N w W st.s nx (bstS (eP P F st.s nx) (eC N w W st.s nx) i o))) (lN (vB N w st.s nx (bstS (eP P F st.s nx) (eC N w W st.s nx) i o))) (vF (bstS (eP P F st.s nx) (eC N w W st.s nx) i o)) (nI (i + 1)) h := fun hp => by
      have hn1 : 1 ≤ eN st.s nx i := by
        unfold eP at hp
        unfold eN
        cases nx with
        | true => simp
        | false =>
          simp at hp ⊢
          omega
      have hn2 := bN i hi
      have t1 : eA N w W st.s nx i * vB N w st.s nx o ≤ 5760000000000 * 180000 := Nat.mul_le_mul hAi hv.2
      have t2 : vA N w W st.s nx o * eB N w st.s nx i ≤ 5760000000000 * 180000 := Nat.mul_le_mul hv.1 hBi
      unfold f_X0_edge_78 f_X0_edge_140 f_X0_edge_151
      rw [if_pos (ix6 hi), cl6' hi, c2 i hi, pay8 a v hw hn1 (by omega)]
      simp only [Option.bind_some]
      rw [mark8 a v hw hn1 (by omega)]
      simp only [Option.bind_some, lt, nI_1]
      rw [show pay N w (W i) (eN st.s nx i) = eA N w W st.s nx i from rfl, show mrk N w (eN st.s nx i) = eB N w st.s nx i from rfl, cmp8 h (by omega) (by omega) (by omega) (by omega) (by omega) (by omega)]
      simp only [Option.bind_some]
      unfold bstS
      rw [if_pos hp]
      cases o with
      | none =>
        dsimp only
        rw [if_pos (show vF none = 0 from rfl)]
        rfl
      | some j =>
        dsimp only
        rw [if_neg (show ¬ vF (some j) = 0 from one_ne)]
        show (if (if nx = true then (1 : Int32) else 0) = 0 then _ else _) = _
        unfold eC
        cases nx with
        | true =>
          rw [if_neg (show ¬ (if true = true then (1 : Int32) else 0) = 0 by decide)]
          simp only [if_true]
          show (if cmpS (eA N w W st.s true i) (eB N w st.s true i) (eA N w W st.s true j) (eB N w st.s true j) ≤ 0 then _ else _) = _
          by_cases z : cmpS (eA N w W st.s true i) (eB N w st.s true i) (eA N w W st.s true j) (eB N w st.s true j) ≤ 0
          · rw [if_pos z, if_pos z]
          · rw [if_neg z, if_neg z]
            rfl
        | false =>
          rw [if_pos (show (if false = true then (1 : Int32) else 0) = 0 by decide)]
          show (if 0 ≤ cmpS (eA N w W st.s false i) (eB N w st.s false i) (eA N w W st.s false j) (eB N w st.s false j) then _ else _) = _
          by_cases z : 0 ≤ cmpS (eA N w W st.s false i) (eB N w st.s false i) (eA N w W st.s false j) (eB N w st.s false j)
          · rw [if_pos z]
            simp [z]
          · rw [if_neg z]
            simp [z]
            rfl
    unfold f_X0_edge_12
    rw [if_neg (ge6 hi), c1, holds6 _ hi]
    simp only [Option.bind_some]
    have skip : ¬ eP P F st.s nx i = true → f_X0_edge_151 K g p (nI w) (if nx = true then 1 else 0) part (lN (vA N w W st.s nx o)) (lN (vB N w st.s nx o)) (vF o) (nI i) h = K g p (nI w) (if nx = true then 1 else 0) part (lN (vA N w W st.s nx (bstS (eP P F st.s nx) (eC N w W st.s nx) i o))) (lN (vB N w st.s nx (bstS (eP P F st.s nx) (eC N w W st.s nx) i o))) (vF (bstS (eP P F st.s nx) (eC N w W st.s nx) i o)) (nI (i + 1)) h := fun hp => by
      unfold f_X0_edge_151 bstS
      rw [if_neg hp]
      simp only [lt, nI_1]
    by_cases hP : P i = true
    · rw [if_pos hP, if_neg one_ne]
      cases nx with
      | true =>
        rw [if_neg (show ¬ (if true = true then (1 : Int32) else 0) = 0 by decide)]
        have q := c78 (by unfold eP; simp [hP])
        unfold f_X0_edge_55
        rw [if_neg (show ¬ (if true = true then (1 : Int32) else 0) = 0 by decide), if_pos (ix6 hi), cl6' hi, c4 i hi, nI_1]
        exact q
      | false =>
        rw [if_pos (show (if false = true then (1 : Int32) else 0) = 0 by decide), if_pos (ix6 hi), if_pos (ix6 hi), cl6' hi, c3 i hi, c4 i hi]
        by_cases hlt2 : F i < st.s i
        · rw [if_pos (nI_lt hlt2 (by omega))]
          have q := c78 (by unfold eP; simp [hP, hlt2])
          unfold f_X0_edge_55
          rw [if_pos (show (if false = true then (1 : Int32) else 0) = 0 by decide), if_pos (ix6 hi), cl6' hi, c4 i hi]
          exact q
        · rw [if_neg (nI_nlt (by omega) (by omega))]
          exact skip (by unfold eP; simp [hlt2])
    · rw [if_neg hP, if_pos rfl]
      exact skip (by unfold eP; simp [hP])
  · intro K
    show f_X0_edge_12 K g p (nI w) (if nx = true then 1 else 0) part (lN (vA N w W st.s nx (eBest N w P W F st.s nx 6))) (lN (vB N w st.s nx (eBest N w P W F st.s nx 6))) (vF (eBest N w P W F st.s nx 6)) (nI 6) h = _
    unfold f_X0_edge_12
    rw [if_pos (show (6 : Int32) ≤ nI 6 by decide)]
    cases hb : eBest N w P W F st.s nx 6 with
    | none =>
      rw [if_pos (show vF none = 0 from rfl)]
      rfl
    | some k =>
      have hk := (eBest_lt hb).1
      have hA := bA k hk
      have hB := bB k hk
      rw [if_neg (show ¬ vF (some k) = 0 from one_ne)]
      show (f_X8_lowest (lN (eA N w W st.s nx k)) (lN (eB N w st.s nx k)) part h).bind _ = some ((if eB N w st.s nx k = 0 then -9223372036854775808 else lN (lowN (eA N w W st.s nx k) (eB N w st.s nx k) part)), h)
      by_cases z : eB N w st.s nx k = 0
      · rw [if_pos z, z, lowest8_0 h (by omega)]
        rfl
      · rw [if_neg z, lowest8 h (by omega) (by omega) (by omega)]
        rfl
theorem nI_side (n : Nat) (nx : Bool) (h : nx = false → 1 ≤ n) : nI n + 1 - (if nx = true then (0 : Int32) else 1) = nI (if nx = true then n + 1 else n) := by
  cases nx with
  | true =>
    simp only [if_true]
    rw [nI_1]
    exact pk_sub (a := n + 1) (b := 0) (Nat.zero_le _)
  | false =>
    rw [nI_1]
    exact nI_pred n
theorem edge9 {N : Nat → Nat} {h : Hp} (b : Po h 109 N) (v : Vn N) {P : Nat → Bool} {W F s : Nat → Nat} (r : ∀ k, k < 6 → h.1 120 k = (if P k = true then 1 else 0) ∧ h.1 121 k = nI (W k) ∧ h.1 122 k = nI (F k) ∧ h.1 123 k = nI (s k)) (bW : ∀ k, k < 6 → W k ≤ 2400000) (bs : ∀ k, k < 6 → s k ≤ 60) (bF : ∀ k, k < 6 → F k ≤ 100) (nx : Bool) : f_X9_edge 108 (if nx = true then 0 else 1) h = some (bi (eBest N (N 41) P W F s nx 6), h) := by
  have bN : ∀ k, k < 6 → eN s nx k ≤ 61 := fun k hk => by
    have := bs k hk
    unfold eN
    split <;> omega
  unfold f_X9_edge
  refine lp_seq (F := Nat → Int32 → Int32 → Int32 → Hp → Option (Int32 × Hp)) (bot := fun _ _ _ _ _ => none) (G := f_X9_edge_4) (fun K i (o : Option Nat) => K 108 (if nx = true then 0 else 1) (bi o) (nI i) h) 6 (fun i => eBest N (N 41) P W F s nx i) _ ?_ ?_ 1000 0 (by omega) (by omega)
  · intro K i hi
    have hlt : ∀ k, eBest N (N 41) P W F s nx i = some k → k < i ∧ P k = true ∧ (nx = false → F k < s k) := fun k hk => eBest_lt hk
    show f_X9_edge_4 K 108 (if nx = true then 0 else 1) (bi (eBest N (N 41) P W F s nx i)) (nI i) h = K 108 (if nx = true then 0 else 1) (bi (bstS (eP P F s nx) (eC N (N 41) W s nx) i (eBest N (N 41) P W F s nx i))) (nI (i + 1)) h
    generalize eBest N (N 41) P W F s nx i = o at hlt
    have hFi := bF i hi
    have hsi := bs i hi
    have hWi := bW i hi
    obtain ⟨r1, r2, r3, r4⟩ := r i hi
    have c42 : eP P F s nx i = true → f_X9_edge_42 K 108 (if nx = true then 0 else 1) (bi o) (nI i) h = K 108 (if nx = true then 0 else 1) (bi (bstS (eP P F s nx) (eC N (N 41) W s nx) i o)) (nI (i + 1)) h := fun hp => by
      have hn0 : nx = false → F i < s i := fun z => by
        unfold eP at hp
        rw [z] at hp
        simp at hp
        exact hp.2
      have hn1 : 1 ≤ eN s nx i := by
        unfold eN
        cases nx with
        | true => simp
        | false =>
          have := hn0 rfl
          simp
          omega
      have hn2 := bN i hi
      unfold bstS
      rw [if_pos hp]
      unfold f_X9_edge_42 f_X9_edge_93 f_X9_edge_117 f_X9_edge_119
      cases o with
      | none =>
        rw [if_pos (show bi none = -1 from rfl), if_pos (show bi none = -1 from rfl)]
        simp only [lt, nI_1]
        rfl
      | some j =>
        obtain ⟨j1, j2, j3⟩ := hlt j rfl
        have hj : j < 6 := by omega
        have hnj1 : 1 ≤ eN s nx j := by
          unfold eN
          cases nx with
          | true => simp
          | false =>
            have := j3 rfl
            simp
            omega
        have hnj2 := bN j hj
        have hWj := bW j hj
        obtain ⟨q1, q2, q3, q4⟩ := r j hj
        have hbi : bi (some j) = nI j := rfl
        have nm : ¬ nI j = -1 := fun z => nI_pos (n := j) (by omega) (by rw [z]; decide)
        rw [hbi, if_neg nm, wayNow9 b]
        simp only [Option.bind_some, ix6 hi, ix6 hj, if_true, cl6' hi, cl6' hj, lt, nI_1]
        rw [show h.1 (108 + 13) i = _ from r2, show h.1 (108 + 13) j = _ from q2, show h.1 (108 + 15) i = _ from r4, show h.1 (108 + 15) j = _ from q4]
        have ei : nI (s i) + 1 - (if nx = true then (0 : Int32) else 1) = nI (eN s nx i) := nI_side (s i) nx (fun z => by have := hn0 z; omega)
        have ej : nI (s j) + 1 - (if nx = true then (0 : Int32) else 1) = nI (eN s nx j) := nI_side (s j) nx (fun z => by have := j3 z; omega)
        rw [ei, ej, nI_l (by omega), nI_l (by omega), dearer9 b v v.w hn1 (by omega) hnj1 (by omega) hWi hWj]
        simp only [Option.bind_some]
        rw [if_neg nm]
        show _ = K 108 _ (bi (if eC N (N 41) W s nx i j ≤ 0 then some j else some i)) (nI (i + 1)) h
        unfold eC eA eB
        cases nx with
        | true =>
          rw [if_pos (show (if true = true then (0 : Int32) else 1) = 0 by decide)]
          simp only [if_true]
          by_cases z : cmpS (pay N (N 41) (W i) (eN s true i)) (mrk N (N 41) (eN s true i)) (pay N (N 41) (W j) (eN s true j)) (mrk N (N 41) (eN s true j)) ≤ 0
          · rw [if_pos z, if_pos z]
            rfl
          · rw [if_neg z, if_neg z]
            rfl
        | false =>
          rw [if_neg (show ¬ (if false = true then (0 : Int32) else 1) = 0 by decide)]
          by_cases z : 0 ≤ cmpS (pay N (N 41) (W i) (eN s false i)) (mrk N (N 41) (eN s false i)) (pay N (N 41) (W j) (eN s false j)) (mrk N (N 41) (eN s false j))
          · rw [if_pos z]
            simp [z]
            rfl
          · rw [if_neg z]
            simp [z]
            rfl
    have skip : ¬ eP P F s nx i = true → f_X9_edge_119 K 108 (if nx = true then 0 else 1) (bi o) (nI i) h = K 108 (if nx = true then 0 else 1) (bi (bstS (eP P F s nx) (eC N (N 41) W s nx) i o)) (nI (i + 1)) h := fun hp => by
      unfold f_X9_edge_119 bstS
      rw [if_neg hp]
      simp only [lt, nI_1]
    unfold f_X9_edge_4
    rw [if_neg (ge6 hi), if_pos (ix6 hi), cl6' hi, show h.1 (108 + 12) i = _ from r1]
    by_cases hP : P i = true
    · rw [if_pos hP, if_neg one_ne]
      cases nx with
      | true =>
        rw [if_neg (show ¬ (if true = true then (0 : Int32) else 1) = 1 by decide)]
        exact c42 (by unfold eP; simp [hP])
      | false =>
        rw [if_pos (show (if false = true then (0 : Int32) else 1) = 1 by decide), if_pos (ix6 hi), if_pos (ix6 hi), show h.1 (108 + 14) i = _ from r3, show h.1 (108 + 15) i = _ from r4]
        by_cases hlt2 : F i < s i
        · rw [if_pos (nI_lt hlt2 (by omega))]
          exact c42 (by unfold eP; simp [hP, hlt2])
        · rw [if_neg (nI_nlt (by omega) (by omega))]
          exact skip (by unfold eP; simp [hlt2])
    · rw [if_neg hP, if_pos rfl]
      exact skip (by unfold eP; simp [hP])
  · intro K
    show f_X9_edge_4 K 108 (if nx = true then 0 else 1) (bi (eBest N (N 41) P W F s nx 6)) (nI 6) h = _
    unfold f_X9_edge_4
    rw [if_pos (show (6 : Int32) ≤ nI 6 by decide)]
theorem lst_s60 {N : Nat → Nat} {w H : Nat} (ok : okHb N w H = true) (hH : H ≤ 60) {k : Nat} (hk : k < 6) : (lst N w H).s k ≤ 60 := by
  obtain ⟨st, e⟩ := Option.isSome_iff_exists.mp ((okHb_iff N w H).mp ok).1
  have := (lst_ok e).2.1
  have := sF_le (F := (lst N w H).s) hk
  omega
theorem PL_F1 {N : Nat → Nat} (v : Vn N) {k : Nat} (hk : k < 6) : (PL N 6).2.2 k ≤ 100 := by
  have := PL_F v
  have := sF_le (F := (PL N 6).2.2) hk
  omega
/-- the reference's span, when there is a house -/
theorem spn9 {N : Nat → Nat} {h : Hp} (b : Po h 109 N) (v : Vn N) (h3 : ¬ N 41 = 3) (h6 : ¬ N 41 = 6) {H : Nat} (hH : H ≤ 60) (nx : Bool) {part : Int32} (hp : part = 0 ∨ part = 1) {c : Hp} (g : f_X9_houses 108 (nI (N 41)) (nI H) h = some (1, c)) (bc : Po c 109 N) (ok : okHb N (N 41) H = true) (rc : RfHs N (N 41) H c) : f_X9_span 108 (nI H) (if nx = true then 0 else 1) part h = some (eX N (N 41) (PL N 6).2.1 (lst N (N 41) H).s nx part (eBest N (N 41) (PL N 6).1 (PL N 6).2.1 (PL N 6).2.2 (lst N (N 41) H).s nx 6), c) := by
  have hw := v.w
  have n3 : ¬ nI (N 41) = 3 := by rw [show (3 : Int32) = nI 3 from rfl, nI_eq (by omega) (by omega)]; exact h3
  have n6 : ¬ nI (N 41) = 6 := by rw [show (6 : Int32) = nI 6 from rfl, nI_eq (by omega) (by omega)]; exact h6
  have hs : (if nx = true then (0 : Int32) else 1) = 0 ∨ (if nx = true then (0 : Int32) else 1) = 1 := by
    cases nx
    · exact Or.inr rfl
    · exact Or.inl rfl
  have e9 := edge9 bc v rc.1 (PL_W v) (fun k hk => lst_s60 ok hH hk) (fun k hk => PL_F1 v hk) nx
  unfold f_X9_span
  rw [isHousei _ hH, Option.bind_some, if_neg one_ne, (isPart_in h hs).1, Option.bind_some, if_neg one_ne, (isPart_in h hp).1, Option.bind_some, if_neg one_ne, wayNow9 b, Option.bind_some, if_neg n3]
  dsimp only
  rw [wayNow9 b, Option.bind_some, if_neg n6]
  dsimp only
  rw [wayNow9 b, Option.bind_some]
  dsimp only
  rw [g, Option.bind_some, if_neg one_ne]
  dsimp only
  rw [e9, Option.bind_some]
  dsimp only
  cases hb : eBest N (N 41) (PL N 6).1 (PL N 6).2.1 (PL N 6).2.2 (lst N (N 41) H).s nx 6 with
  | none =>
    rw [if_pos (show bi none = -1 from rfl)]
    rfl
  | some k =>
    obtain ⟨k1, k2, k3⟩ := eBest_lt hb
    obtain ⟨r1, r2, r3, r4⟩ := rc.1 k k1
    have hbi : bi (some k) = nI k := rfl
    have s60 := lst_s60 ok hH k1
    have bWk := PL_W v k k1
    have hn1 : 1 ≤ eN (lst N (N 41) H).s nx k := by
      unfold eN
      cases nx with
      | true => simp
      | false =>
        have := k3 rfl
        simp
        omega
    have hn2 : eN (lst N (N 41) H).s nx k ≤ 61 := by
      unfold eN
      split <;> omega
    have hA := pay_le (N := N) (w := N 41) (n := eN (lst N (N 41) H).s nx k) v bWk (by omega)
    have hB := mrk_le (N := N) (w := N 41) (n := eN (lst N (N 41) H).s nx k) v (by omega)
    rw [hbi, if_neg (show ¬ nI k = -1 from fun z => nI_pos (n := k) (by omega) (by rw [z]; decide)), if_pos (ix6 k1)]
    simp only [lt]
    rw [cl6' k1, show c.1 (108 + 15) k = _ from r4, nI_side _ nx (fun z => by have := k3 z; omega), show (if nx = true then (lst N (N 41) H).s k + 1 else (lst N (N 41) H).s k) = eN (lst N (N 41) H).s nx k from rfl, wayNow9 bc, Option.bind_some]
    dsimp only
    rw [above9 bc hw hn1, Option.bind_some]
    dsimp only
    show _ = some ((if eB N (N 41) (lst N (N 41) H).s nx k = 0 then -9223372036854775808 else lN (lowN (eA N (N 41) (PL N 6).2.1 (lst N (N 41) H).s nx k) (eB N (N 41) (lst N (N 41) H).s nx k) part)), c)
    by_cases z : eB N (N 41) (lst N (N 41) H).s nx k = 0
    · rw [if_pos (show nI (mrk N (N 41) (eN (lst N (N 41) H).s nx k)) = 0 by rw [show mrk N (N 41) (eN (lst N (N 41) H).s nx k) = 0 from z]; rfl), if_pos z]
    · have z2 : 0 < mrk N (N 41) (eN (lst N (N 41) H).s nx k) := Nat.pos_of_ne_zero z
      rw [if_neg (nI_ne0 z2 (by omega)), if_neg z, wayNow9 bc, Option.bind_some, if_pos (ix6 k1)]
      dsimp only
      rw [show c.1 (108 + 13) k = _ from r2, nI_l (by omega), top9 bc v hw hn1 (by omega), Option.bind_some]
      dsimp only
      rw [nI_l (by omega), lowest9 c (by omega) z2 (by omega), Option.bind_some]
      rfl
