/-! the quota -/
def qAll (N : Nat → Nat) : Nat := sF (fun k => if isInN N k = true then tot N k else 0) 6
def qUp (N : Nat → Nat) (H k : Nat) : Nat := tot N k * H / qAll N + (if tot N k * H % qAll N = 0 then 0 else 1)
def quoQ (N : Nat → Nat) (H : Nat) (S : Nat → Nat) (k : Nat) : Bool := isInN N k && (decide (S k < tot N k * H / qAll N) || decide (qUp N H k < S k))
theorem qAll_le {N : Nat → Nat} (v : Vn N) : qAll N ≤ 2400000 := by
  have := sF_bd (f := fun k => if isInN N k = true then tot N k else 0) (B := 400000) (fun k hk => by
    have := tot_le v hk
    show (if isInN N k = true then tot N k else 0) ≤ 400000
    split <;> omega) 6 (Nat.le_refl 6)
  exact this
theorem qAll_pos {N : Nat → Nat} {k : Nat} (hk : k < 6) (hi : isInN N k = true) : 0 < qAll N := by
  have := sF_le (F := fun k => if isInN N k = true then tot N k else 0) hk
  have q := in_pos hi
  rw [if_pos hi] at this
  unfold qAll
  omega
theorem l64_lt {a : Nat} {x : Int32} (n : Nat) (hx : x = nI a) (ha : a < 2 ^ 31) (hn : n < 2 ^ 63) : (lg_cmp (Int32.toInt64 x) (lN n) < 0 ↔ a < n) ∧ (lg_cmp (Int32.toInt64 x) (lN n) ≤ 0 ↔ a ≤ n) := by
  rw [hx, nI_l ha, lg_lt, lg_le, pk_lLT (by omega) hn, pk_lLT hn (by omega)]
  omega
theorem quota8 {N : Nat → Nat} {h : Hp} (v : Vn N) {G p : Nat} (a : Pc h p N) {H : Nat} (hH : H ≤ 60) {S : Nat → Nat} (hS : ∀ k, k < 6 → S k ≤ 60) (e1 : h.1 G 2 = bits6 (isInN N)) (e2 : ∀ k, k < 6 → h.1 (G + 10) k = nI (S k)) : f_X1_outsideQuota G p (nI H) h = some (fu (bitS (quoQ N H S)) 6 0, h) := by
  have hq := qAll_le v
  unfold f_X1_outsideQuota
  refine lp_seq (F := Nat → Nat → Int32 → Int64 → Int32 → Hp → Option (Int32 × Hp)) (bot := fun _ _ _ _ _ _ => none) (G := f_X1_outsideQuota_5) (fun K i (x : Nat) => K G p (nI H) (lN x) (nI i) h) 6 (fun i => sF (fun k => if isInN N k = true then tot N k else 0) i) _ ?_ ?_ 1000 0 (by omega) (by omega)
  · intro K i hi
    have t := tot_le v hi
    show f_X1_outsideQuota_5 K G p (nI H) _ (nI i) h = K G p (nI H) (lN (sF (fun k => if isInN N k = true then tot N k else 0) i + (if isInN N i = true then tot N i else 0))) (nI (i + 1)) h
    unfold f_X1_outsideQuota_5 f_X1_outsideQuota_34
    rw [if_neg (ge6 hi), e1, holds6 _ hi]
    simp only [Option.bind_some, lt, nI_1]
    by_cases hI : isInN N i = true
    · rw [if_pos hI, if_neg one_ne, tot8 a hi]
      simp only [Option.bind_some]
      rw [nI_l (by omega), lN_add, if_pos hI]
    · rw [if_neg hI, if_pos rfl, if_neg hI]
      rfl
  · intro K
    show f_X1_outsideQuota_5 K G p (nI H) (lN (qAll N)) (nI 6) h = _
    unfold f_X1_outsideQuota_5
    rw [if_pos (show (6 : Int32) ≤ nI 6 by decide)]
    refine lp_seq (F := Nat → Nat → Int32 → Int64 → Int32 → Int32 → Hp → Option (Int32 × Hp)) (bot := fun _ _ _ _ _ _ _ => none) (G := f_X1_outsideQuota_46) (fun K i (x : Int32) => K G p (nI H) (lN (qAll N)) x (nI i) h) 6 (fun i => fu (bitS (quoQ N H S)) i 0) _ ?_ ?_ 1000 0 (by omega) (by omega)
    · intro K i hi
      show f_X1_outsideQuota_46 K G p (nI H) (lN (qAll N)) (fu (bitS (quoQ N H S)) i 0) (nI i) h = K G p (nI H) (lN (qAll N)) (bitS (quoQ N H S) i (fu (bitS (quoQ N H S)) i 0)) (nI (i + 1)) h
      generalize fu (bitS (quoQ N H S)) i 0 = x
      have t := tot_le v hi
      have s := hS i hi
      have tH : tot N i * H ≤ 400000 * 60 := Nat.mul_le_mul t hH
      unfold f_X1_outsideQuota_46
      rw [if_neg (ge6 hi), e1, holds6 _ hi]
      simp only [Option.bind_some]
      by_cases hI : isInN N i = true
      · have q0 := qAll_pos hi hI
        have z : ¬ lN (qAll N) = 0 := by rw [lN_e0 (by omega)]; omega
        have hd : tot N i * H / qAll N ≤ tot N i * H := Nat.div_le_self _ _
        rw [if_pos hI, if_neg one_ne, if_neg (by rw [lg_eq0]; exact z), tot8 a hi]
        simp only [Option.bind_some, lt]
        rw [if_neg z, if_neg z, nI_l (by omega), nI_l (by omega), lN_mul, pk_lRem (by omega) q0 (by omega), pk_lDiv (by omega) q0 (by omega)]
        have c110 : ∀ U : Nat, U < 2 ^ 62 → U = qUp N H i → f_X1_outsideQuota_110 K G p (nI H) (lN (qAll N)) x (nI i) (lN (tot N i * H / qAll N)) (lN U) h = K G p (nI H) (lN (qAll N)) (bitS (quoQ N H S) i x) (nI (i + 1)) h := fun U hU eU => by
          unfold f_X1_outsideQuota_110 f_X1_outsideQuota_140 f_X1_outsideQuota_149
          rw [if_pos (ix6 hi), if_pos (ix6 hi), cl6' hi, e2 i hi]
          simp only [lt, nI_1]
          by_cases c1 : S i < tot N i * H / qAll N
          · rw [if_pos ((l64_lt _ rfl (by omega) (by omega)).1.mpr c1), bitS_t _ (by unfold quoQ; simp [hI, c1])]
          · rw [if_neg (fun y => c1 ((l64_lt _ rfl (by omega) (by omega)).1.mp y))]
            by_cases c2 : S i ≤ U
            · rw [if_pos ((l64_lt _ rfl (by omega) (by omega)).2.mpr c2), bitS_f _ (by unfold quoQ; rw [← eU]; simp [c1]; intro _; omega)]
            · rw [if_neg (fun y => c2 ((l64_lt _ rfl (by omega) (by omega)).2.mp y)), bitS_t _ (by unfold quoQ; rw [← eU]; simp [hI]; omega)]
        by_cases r0 : tot N i * H % qAll N = 0
        · rw [if_pos (by rw [lg_eq0, r0]; rfl)]
          exact c110 _ (by omega) (by unfold qUp; rw [if_pos r0]; rfl)
        · have hm := Nat.mod_lt (tot N i * H) q0
          rw [if_neg (by rw [lg_eq0, lN_e0 (by omega)]; exact r0), lN_1]
          exact c110 _ (by omega) (by unfold qUp; rw [if_neg r0])
      · rw [if_neg hI, if_pos rfl, bitS_f _ (by unfold quoQ; simp [hI])]
        unfold f_X1_outsideQuota_149
        simp only [lt, nI_1]
    · intro K
      show f_X1_outsideQuota_46 K G p (nI H) (lN (qAll N)) _ (nI 6) h = _
      unfold f_X1_outsideQuota_46
      rw [if_pos (show (6 : Int32) ≤ nI 6 by decide)]
theorem w9g {x lo hi : Nat} {y : Int32} (h : Hp) (hy : y = nI x) (hx : x < 2 ^ 31) (h1 : lo < 2 ^ 62) (h2 : hi < 2 ^ 62) : f_X9_within (Int32.toInt64 y) (lN lo) (lN hi) h = some (if lo ≤ x ∧ x ≤ hi then 1 else 0, h) := by
  unfold f_X9_within
  rw [hy, nI_l hx]
  by_cases c1 : x < lo
  · rw [if_pos (by rw [lg_lt, pk_lLT (by omega) (by omega)]; exact c1), show (if lo ≤ x ∧ x ≤ hi then (1 : Int32) else 0) = 0 from if_neg (by omega)]
    rfl
  · rw [if_neg (by rw [lg_lt, pk_lLT (by omega) (by omega)]; exact c1)]
    by_cases c2 : hi < x
    · rw [if_pos (by rw [lg_gt, pk_lLT (by omega) (by omega)]; exact c2), show (if lo ≤ x ∧ x ≤ hi then (1 : Int32) else 0) = 0 from if_neg (by omega)]
      rfl
    · rw [if_neg (by rw [lg_gt, pk_lLT (by omega) (by omega)]; exact c2), show (if lo ≤ x ∧ x ≤ hi then (1 : Int32) else 0) = 1 from if_pos (by omega)]
      rfl
theorem quota9 {N : Nat → Nat} {h : Hp} (v : Vn N) (b : Po h 109 N) {H : Nat} (hH : H ≤ 60) {S : Nat → Nat} (hS : ∀ k, k < 6 → S k ≤ 60) (e2 : ∀ k, k < 6 → h.1 124 k = nI (S k)) : lp (F := Nat → Int32 → Int64 → Int32 → Hp → Option (Int32 × Hp)) (fun _ _ _ _ _ => none) f_X9_quota_30 1000 108 (nI H) 0 0 h = some (fu (bitS (quoQ N H S)) 6 0, h) := by
  have hq := qAll_le v
  refine lp_seq (F := Nat → Int32 → Int64 → Int32 → Hp → Option (Int32 × Hp)) (bot := fun _ _ _ _ _ => none) (G := f_X9_quota_30) (fun K i (x : Nat) => K 108 (nI H) (lN x) (nI i) h) 6 (fun i => sF (fun k => if isInN N k = true then tot N k else 0) i) _ ?_ ?_ 1000 0 (by omega) (by omega)
  · intro K i hi
    have t := tot_le v hi
    show f_X9_quota_30 K 108 (nI H) _ (nI i) h = K 108 (nI H) (lN (sF (fun k => if isInN N k = true then tot N k else 0) i + (if isInN N i = true then tot N i else 0))) (nI (i + 1)) h
    unfold f_X9_quota_30 f_X9_quota_58
    rw [if_neg (ge6 hi), isIn9 v b hi]
    simp only [Option.bind_some, lt, nI_1]
    by_cases hI : isInN N i = true
    · rw [if_pos hI, if_neg one_ne, tot9 b hi]
      simp only [Option.bind_some]
      rw [nI_l (by omega), lN_add, if_pos hI]
    · rw [if_neg hI, if_pos rfl, if_neg hI, l0, lN_add, Nat.add_zero]
  · intro K
    show f_X9_quota_30 K 108 (nI H) (lN (qAll N)) (nI 6) h = _
    unfold f_X9_quota_30
    rw [if_pos (show (6 : Int32) ≤ nI 6 by decide)]
    by_cases q0 : qAll N = 0
    · show f_X9_quota_72 _ 108 (nI H) (lN (qAll N)) 0 0 h = _
      unfold f_X9_quota_72
      rw [if_neg (by decide), if_pos (by rw [q0]; decide), bitS_none 6 (fun k hk => by
        unfold quoQ
        by_cases hI : isInN N k = true
        · have := qAll_pos hk hI
          omega
        · simp [hI])]
    · refine lp_seq (F := Nat → Int32 → Int64 → Int32 → Int32 → Hp → Option (Int32 × Hp)) (bot := fun _ _ _ _ _ _ => none) (G := f_X9_quota_72) (fun K i (x : Int32) => K 108 (nI H) (lN (qAll N)) x (nI i) h) 6 (fun i => fu (bitS (quoQ N H S)) i 0) _ ?_ ?_ 1000 0 (by omega) (by omega)
      · intro K i hi
        show f_X9_quota_72 K 108 (nI H) (lN (qAll N)) (fu (bitS (quoQ N H S)) i 0) (nI i) h = K 108 (nI H) (lN (qAll N)) (bitS (quoQ N H S) i (fu (bitS (quoQ N H S)) i 0)) (nI (i + 1)) h
        generalize fu (bitS (quoQ N H S)) i 0 = x
        have t := tot_le v hi
        have s := hS i hi
        have tH : tot N i * H ≤ 400000 * 60 := Nat.mul_le_mul t hH
        have z : ¬ lN (qAll N) = 0 := by rw [lN_e0 (by omega)]; omega
        unfold f_X9_quota_72
        rw [if_neg (ge6 hi), if_neg (by rw [lg_le, l0, pk_lLT (by omega) (by omega)]; omega), isIn9 v b hi]
        simp only [Option.bind_some]
        by_cases hI : isInN N i = true
        · have hd : tot N i * H / qAll N ≤ tot N i * H := Nat.div_le_self _ _
          have hm := Nat.mod_lt (tot N i * H) (show 0 < qAll N by omega)
          rw [if_pos hI, if_neg one_ne, tot9 b hi]
          simp only [Option.bind_some, lt]
          rw [if_neg z, if_neg z, nI_l (by omega), nI_l (by omega), lN_mul, pk_lRem (by omega) (by omega) (by omega), pk_lDiv (by omega) (by omega) (by omega)]
          have c131 : ∀ y : Nat, y ≤ 1 → tot N i * H / qAll N + y = qUp N H i → f_X9_quota_131 K 108 (nI H) (lN (qAll N)) x (nI i) (lN (tot N i * H / qAll N)) (nI y) (lN (tot N i * H / qAll N)) h = K 108 (nI H) (lN (qAll N)) (bitS (quoQ N H S) i x) (nI (i + 1)) h := fun y hy eU => by
            unfold f_X9_quota_131 f_X9_quota_163 f_X9_quota_166
            simp only [lt, nI_1]
            rw [if_pos (ix6 hi), cl6' hi, nI_l (by omega), lN_add, w9g h (show h.1 (108 + 16) i = _ from e2 i hi) (by omega) (by omega) (by omega)]
            simp only [Option.bind_some, or0]
            by_cases c1 : tot N i * H / qAll N ≤ S i ∧ S i ≤ tot N i * H / qAll N + y
            · rw [if_pos c1, if_neg one_ne, bitS_f _ (by unfold quoQ; rw [← eU]; simp; intro _; omega)]
            · rw [if_neg c1, if_pos rfl, bitS_t _ (by unfold quoQ; rw [← eU]; simp [hI]; omega)]
          by_cases r0 : tot N i * H % qAll N = 0
          · rw [if_pos (by rw [lg_le, r0]; decide)]
            exact c131 0 (by omega) (by unfold qUp; rw [if_pos r0])
          · rw [if_neg (by rw [lg_le, l0, pk_lLT (by omega) (by omega)]; omega)]
            exact c131 1 (by omega) (by unfold qUp; rw [if_neg r0])
        · rw [if_neg hI, if_pos rfl, bitS_f _ (by unfold quoQ; simp [hI])]
          unfold f_X9_quota_166
          simp only [lt, nI_1]
      · intro K
        show f_X9_quota_72 K 108 (nI H) (lN (qAll N)) _ (nI 6) h = _
        unfold f_X9_quota_72
        rw [if_pos (show (6 : Int32) ≤ nI 6 by decide)]
theorem quo9 {N : Nat → Nat} {h c : Hp} {x : Int32} (b : Po h 109 N) {H : Nat} (hH : H ≤ 60) (g : f_X9_houses 108 (nI (N 41)) (nI H) h = some (1, c)) (q : lp (F := Nat → Int32 → Int64 → Int32 → Hp → Option (Int32 × Hp)) (fun _ _ _ _ _ => none) f_X9_quota_30 1000 108 (nI H) 0 0 c = some (x, c)) : f_X9_quota 108 (nI H) h = some (x, c) := by
  generalize hl : lp (F := Nat → Int32 → Int64 → Int32 → Hp → Option (Int32 × Hp)) (fun _ _ _ _ _ => none) f_X9_quota_30 1000 = LL at q
  unfold f_X9_quota
  rw [hl, isHousei _ hH, Option.bind_some, if_neg one_ne, wayNow9 b, Option.bind_some, g, Option.bind_some, if_neg one_ne, q]
section OPS5
variable {PK : (Nat → Nat) → Hp → Prop}
theorem op_quota (hPK : PKok PK) (z1 : Int32) : Op (Rel PK) (fun h => f_X8_quota 0 z1 h) (fun h => f_X9_quota 108 z1 h) := by
  intro h ⟨N, hR⟩
  have v := hR.1
  rcases rng z1 60 (by decide) with ⟨H, hH, rfl⟩ | o1
  · obtain ⟨b, e, ef, ec⟩ := fillNow8 hR.2.1 v hH
    have R1 := hR.keep hPK (kpA ef)
    obtain ⟨c, g, gf, gc⟩ := hs9 R1.2.2.1 v v.w hH
    have R2 := R1.keep hPK (kp9 gf)
    by_cases ok : okHb N (N 41) H = true
    · have pb : ∀ k, k < 6 → pS N (N 41) H k ≤ 60 := fun k hk => by
        have := pS_le v ok hk
        omega
      have q8 : f_X1_outsideQuota 16 1 (nI H) b = some (fu (bitS (quoQ N H (pS N (N 41) H))) 6 0, b) := quota8 (G := 16) (S := pS N (N 41) H) v R1.2.1 hH pb (ec ok).1 (ec ok).2.2
      have q9 := quota9 (S := pS N (N 41) H) v R2.2.2.1 hH pb (gc ok).2.1
      generalize fu (bitS (quoQ N H (pS N (N 41) H))) 6 0 = xx at q8 q9
      refine ⟨xx, b, c, ?_, ?_, ⟨N, R2⟩⟩
      · dsimp only
        unfold f_X8_quota
        simp only [e, Option.bind_some, if_pos ok, if_true]
        rw [show (0 + 16 : Nat) = 16 from rfl, show (0 + 1 : Nat) = 1 from rfl, q8]
        simp only [Option.bind_some]
      · dsimp only
        exact quo9 R1.2.2.1 hH (by rw [g, if_pos ok]) q9
    · refine ⟨-3, b, c, ?_, ?_, ⟨N, R2⟩⟩
      · dsimp only
        unfold f_X8_quota
        simp only [e, Option.bind_some, if_neg ok, m3_ne, if_false]
      · dsimp only
        unfold f_X9_quota
        simp only [isHousei _ hH, Option.bind_some, one_ne, if_false, wayNow9 R1.2.2.1, g, if_neg ok, if_true]
  · refine same_op (r := -2) ⟨N, hR⟩ ?_ ?_
    · unfold f_X8_quota
      simp only [fillNow8o _ o1, Option.bind_some, m2_ne, if_false]
    · unfold f_X9_quota
      simp only [isHouseo _ o1, Option.bind_some, if_true]
end OPS5
