theorem elg_P {P : Nat → Bool} {W F : Nat → Nat} {H k : Nat} (h : elg P W F H k = true) : P k = true := by
  unfold elg at h
  rw [Bool.and_eq_true] at h
  exact h.1
def okB (P : Nat → Bool) (W F : Nat → Nat) (H : Nat) : Bool := decide (sF (sh0 W F H) 6 ≤ H) && (decide (H = sF (sh0 W F H) 6) || decide ((rkd (rstN W H) (elg P W F H) 6).2 ≠ 0))
theorem okB_iff (P : Nat → Bool) (W F : Nat → Nat) (H : Nat) : okB P W F H = true ↔ okR P W F H := by
  unfold okB okR
  rw [Bool.and_eq_true, Bool.or_eq_true, decide_eq_true_eq, decide_eq_true_eq, decide_eq_true_eq]
/-- what is given: none, if it can't be -/
def gvN (N : Nat → Nat) (w : Nat) (P : Nat → Bool) (W F : Nat → Nat) (H : Nat) : Option GS := if anyP P = true then (if w = 6 then (if okB P W F H = true then some (gsR P W F H) else none) else (if sF F 6 ≤ H then some (rnds N w P W (gs0 F) (H - sF F 6)) else none)) else (if H = 0 then some (gs0 F) else none)
theorem ClS.r {N : Nat → Nat} {w : Nat} {P : Nat → Bool} {W F : Nat → Nat} {h : Hp} {g : Nat} {st : GS} (a : ClS N w P W F h g st) : ClR P W F h g st := ⟨a.1, a.2.1, a.2.2.1, a.2.2.2.1, a.2.2.2.2.2.2.1, a.2.2.2.2.2.2.2.1, a.2.2.2.2.2.2.2.2⟩
theorem isB1 : isB 1 = true := rfl
theorem isB0 : isB 0 = true := rfl
theorem sF_z {F : Nat → Nat} (h : ∀ k, k < 6 → F k = 0) : sF F 6 = 0 := by
  rw [sF6, h 0 (by decide), h 1 (by decide), h 2 (by decide), h 3 (by decide), h 4 (by decide), h 5 (by decide)]
theorem sF_posk {F : Nat → Nat} {k : Nat} (hk : k < 6) (h : 0 < F k) : 0 < sF F 6 := by
  have := sF_le (F := F) hk
  omega
theorem give8 {N : Nat → Nat} (v : Vn N) {w : Nat} (hw : w ≤ 6) {P : Nat → Bool} {W F : Nat → Nat} (hz : ∀ k, k < 6 → P k = false → W k = 0 ∧ F k = 0) (hp : w = 6 → ∀ k, k < 6 → P k = true → 0 < W k) (bW : ∀ k, k < 6 → W k ≤ 2400000) (bF : sF F 6 ≤ 100) {g p : Nat} (hpg : p + 5 ≤ g) {h : Hp} (a : Pc h p N) (hE : ClE P W F h g) (hg : ∀ k, k < 6 → h.1 (g + 1) k = 0) {H : Nat} (hH : H ≤ 60) : ∃ b, f_X0_give g p (nI w) (nI H) h = some b ∧ ((gvN N w P W F H = none ∧ b.1 = 0) ∨ ∃ st, gvN N w P W F H = some st ∧ b.1 = 1 ∧ ClR P W F b.2 g st) := by
  have c1 := hE.1
  unfold f_X0_give gvN
  by_cases hP : anyP P = true
  · rw [if_neg (by rw [c1, bits6_zero]; exact fun z => z hP), if_pos hP]
    by_cases h6 : w = 6
    · subst h6
      rw [if_pos (show nI 6 = 6 from rfl), if_pos rfl]
      obtain ⟨k, hk, hpk⟩ := anyP_t hP
      obtain ⟨b, e1, e2⟩ := giveR8 (P := P) (sF_posk hk (hp rfl k hk hpk)) bW (fun k hk => by
        have := sF_le (F := F) hk
        omega) hE hH
      rw [e1]
      rcases e2 with ⟨q1, q2, q3⟩ | ⟨q1, q2⟩
      · refine ⟨b, ?_, Or.inr ⟨gsR P W F H, ?_, q2, q3⟩⟩
        · simp only [Option.bind_some, q2, isB1, if_true]
          rw [← q2]
        · rw [if_pos ((okB_iff _ _ _ _).mpr q1)]
      · refine ⟨b, ?_, Or.inl ⟨?_, q2⟩⟩
        · simp only [Option.bind_some, q2, isB0, if_true]
          rw [← q2]
        · rw [if_neg (fun z => q1 ((okB_iff _ _ _ _).mp z))]
    · rw [if_neg (by rw [show (6 : Int32) = nI 6 from rfl, nI_eq (by omega) (by omega)]; exact h6), if_neg h6]
      obtain ⟨b, e1, e2⟩ := giveP8 v hw hP bW bF hpg a hE hH
      rw [e1]
      rcases e2 with ⟨q1, q2, q3⟩ | ⟨q1, q2⟩
      · refine ⟨b, ?_, Or.inr ⟨_, if_pos q1, q2, q3.r⟩⟩
        simp only [Option.bind_some, q2, isB1, if_true]
        rw [← q2]
      · refine ⟨b, ?_, Or.inl ⟨if_neg (by omega), q2⟩⟩
        simp only [Option.bind_some, q2, isB0, if_true]
        rw [← q2]
  · rw [if_pos (by rw [c1, bits6_zero]; exact hP), if_neg hP]
    by_cases h0 : H = 0
    · subst h0
      rw [if_pos (show nI 0 = 0 from rfl), if_pos isB1, if_pos rfl]
      refine ⟨(1, h), rfl, Or.inr ⟨_, rfl, rfl, ?_⟩⟩
      obtain ⟨c1, c2, c3, c4, c5⟩ := hE
      refine ⟨c1, c2, c3, fun k hk => ?_, c4, fun i hi => absurd (show i < 0 from hi) (by omega), c5⟩
      rw [hg k hk]
      show (0 : Int32) = nI (F k)
      rw [(hz k hk (anyP_f hP k hk)).2]
      rfl
    · rw [if_neg (nI_ne0 (by omega) (by omega)), if_pos isB0, if_neg h0]
      exact ⟨(0, h), rfl, Or.inl ⟨rfl, rfl⟩⟩
theorem gives9 {N : Nat → Nat} (v : Vn N) {w : Nat} (hw : w ≤ 6) {P : Nat → Bool} {W F : Nat → Nat} (hz : ∀ k, k < 6 → P k = false → W k = 0 ∧ F k = 0) (hp : w = 6 → ∀ k, k < 6 → P k = true → 0 < W k) (bW : ∀ k, k < 6 → W k ≤ 2400000) (bF : sF F 6 ≤ 100) {h : Hp} (b : Po h 109 N) (hE : RfC h P W F) {H : Nat} (hH : H ≤ 60) : ∃ o, f_X9_gives 108 (nI w) (nI H) h = some o ∧ ((gvN N w P W F H = none ∧ o.1 = 0 ∧ o.2.1 108 14 = 0) ∨ ∃ st, gvN N w P W F H = some st ∧ o.1 = 1 ∧ RfS P W F o.2 st) := by
  have hE2 : RfC (sI (sI h 108 14 0) 108 15 0) P W F := fun k hk => by
    rw [sI_row _ _ _ (by decide), sI_row _ _ _ (by decide), sI_row _ _ _ (by decide), sI_row _ _ _ (by decide), sI_row _ _ _ (by decide), sI_row _ _ _ (by decide)]
    exact hE k hk
  have b2 : Po (sI (sI h 108 14 0) 108 15 0) 109 N := b.keep (by rw [sI_row _ _ _ (by decide), sI_row _ _ _ (by decide)])
  have h14 : (sI (sI h 108 14 0) 108 15 0).1 108 14 = 0 := by simp [sI1]
  have h15 : (sI (sI h 108 14 0) 108 15 0).1 108 15 = 0 := by simp [sI1]
  generalize hh : sI (sI h 108 14 0) 108 15 0 = h2 at hE2 b2 h14 h15
  have bF2 : ∀ k, k < 6 → F k ≤ 100 := fun k hk => by
    have := sF_le (F := F) hk
    omega
  unfold f_X9_gives gvN
  simp only [lt, hh]
  by_cases h6 : w = 6
  · subst h6
    rw [if_pos (show nI 6 = 6 from rfl)]
    obtain ⟨o, e1, e2⟩ := giveR9 hz (hp rfl) bW bF2 hE2 h14 h15 hH
    have k14 : o.2.1 108 14 = 0 := by rw [(mf_X9_givesByRests e1).2.2 14 (by decide), h14]
    rw [e1]
    have r1 : o.1 = 1 → (some o : Option (Int32 × Hp)).bind (fun q4 => if isB q4.1 = true then some (q4.1, q4.2) else none) = some o := fun q => by
      simp only [Option.bind_some, q, isB1, if_true]
      rw [← q]
    have r0 : o.1 = 0 → (some o : Option (Int32 × Hp)).bind (fun q4 => if isB q4.1 = true then some (q4.1, q4.2) else none) = some o := fun q => by
      simp only [Option.bind_some, q, isB0, if_true]
      rw [← q]
    by_cases hP : anyP P = true
    · rw [if_pos hP, if_pos rfl]
      rcases e2 with ⟨q1, q2, q3⟩ | ⟨q1, q2⟩
      · exact ⟨o, r1 q2, Or.inr ⟨_, if_pos ((okB_iff _ _ _ _).mpr q1), q2, q3⟩⟩
      · exact ⟨o, r0 q2, Or.inl ⟨if_neg (fun z => q1 ((okB_iff _ _ _ _).mp z)), q2, k14⟩⟩
    · rw [if_neg hP]
      have pf := anyP_f hP
      have zs : ∀ k, k < 6 → sh0 W F H k = 0 := fun k hk => by
        obtain ⟨z1, z2⟩ := hz k hk (pf k hk)
        unfold sh0 cutN
        rw [z1, z2, Nat.zero_mul, Nat.zero_div]
        rfl
      have z6 : sF (sh0 W F H) 6 = 0 := sF_z zs
      have rz : (rkd (rstN W H) (elg P W F H) 6).2 = 0 := by
        by_cases q : (rkd (rstN W H) (elg P W F H) 6).2 = 0
        · exact q
        · have := ((rkd_ok (rstN W H) (elg P W F H) 6).2.2 _).mp ⟨0, by omega, rfl⟩
          have p2 := pf _ this.1
          rw [elg_P this.2] at p2
          cases p2
      have okz : okR P W F H ↔ H = 0 := by
        unfold okR
        rw [z6, rz]
        omega
      rcases e2 with ⟨q1, q2, q3⟩ | ⟨q1, q2⟩
      · have hH0 := okz.mp q1
        subst hH0
        refine ⟨o, r1 q2, Or.inr ⟨_, if_pos rfl, q2, ?_⟩⟩
        obtain ⟨m1, m2, m3, m4⟩ := q3
        refine ⟨fun k hk => ?_, m2, m3, m4⟩
        obtain ⟨k1, k2, k3, k4⟩ := m1 k hk
        refine ⟨k1, k2, k3, k4.trans ?_⟩
        show nI (shN _ _ (sh0 W F 0) (0 - sF (sh0 W F 0) 6) k) = nI (F k)
        rw [z6, (hz k hk (pf k hk)).2]
        show nI (sh0 W F 0 k) = nI 0
        rw [zs k hk]
      · exact ⟨o, r0 q2, Or.inl ⟨if_neg (fun z => q1 (okz.mpr z)), q2, k14⟩⟩
  · rw [if_neg (by rw [show (6 : Int32) = nI 6 from rfl, nI_eq (by omega) (by omega)]; exact h6)]
    obtain ⟨o, e1, e2⟩ := giveP9 v hw bW bF (fun q => sF_z (fun k hk => (hz k hk (anyP_f q k hk)).2)) b2 hE2 h14 h15 hH
    rw [e1]
    have r1 : o.1 = 1 → (some o : Option (Int32 × Hp)).bind (fun q4 => if isB q4.1 = true then some (q4.1, q4.2) else none) = some o := fun q => by
      simp only [Option.bind_some, q, isB1, if_true]
      rw [← q]
    have r0 : o.1 = 0 → (some o : Option (Int32 × Hp)).bind (fun q4 => if isB q4.1 = true then some (q4.1, q4.2) else none) = some o := fun q => by
      simp only [Option.bind_some, q, isB0, if_true]
      rw [← q]
    rcases e2 with ⟨hP, q1, q2, q3⟩ | ⟨hP, q1, q2, k14⟩ | ⟨hP, q1, q2, q3⟩ | ⟨hP, q1, q2, k14⟩
    · exact ⟨o, r1 q2, Or.inr ⟨_, by rw [if_pos hP, if_neg h6, if_pos q1], q2, q3⟩⟩
    · exact ⟨o, r0 q2, Or.inl ⟨by rw [if_pos hP, if_neg h6, if_neg (by omega)], q2, k14⟩⟩
    · exact ⟨o, r1 q2, Or.inr ⟨_, by rw [if_neg hP, if_pos q1], q2, q3⟩⟩
    · exact ⟨o, r0 q2, Or.inl ⟨by rw [if_neg hP, if_neg (by omega)], q2, k14⟩⟩
/-! what is given: sums, and those who don't claim -/
theorem rnds_P {N : Nat → Nat} {w : Nat} {P : Nat → Bool} (hP : anyP P = true) {W : Nat → Nat} (st : GS) {k : Nat} (hk : P k = false) : ∀ n, (rnds N w P W st n).s k = st.s k := by
  intro n
  induction n with
  | zero => rfl
  | succ n ih =>
    obtain ⟨t1, t2, t3⟩ := toN_any (N := N) (w := w) (W := W) (s := (rnds N w P W st n).s) hP
    show (rnd N w P W (rnds N w P W st n)).s k = _
    unfold rnd
    rw [gs_s, up_ne _ _ (fun z => by rw [z, t3] at hk; cases hk), ih]
theorem shN_sum {rk : Nat → Nat} {c : Nat} {s : Nat → Nat} (hc : 0 < c) (h : ∀ t, t < c → rk t < 6) : ∀ n, sF (shN rk c s n) 6 = sF s 6 + n := by
  intro n
  induction n with
  | zero => rfl
  | succ n ih =>
    have hm := h _ (Nat.mod_lt n hc)
    have := sF_up (F := shN rk c s n) (v := shN rk c s n (rk (n % c)) + 1) hm
    show sF (up (shN rk c s n) (rk (n % c)) (shN rk c s n (rk (n % c)) + 1)) 6 = _
    omega
theorem shN_P {rk : Nat → Nat} {c : Nat} {s : Nat → Nat} {k : Nat} (hc : 0 < c) (h : ∀ t, t < c → rk t ≠ k) : ∀ n, shN rk c s n k = s k := by
  intro n
  induction n with
  | zero => rfl
  | succ n ih =>
    show up (shN rk c s n) (rk (n % c)) (shN rk c s n (rk (n % c)) + 1) k = _
    rw [up_ne _ _ (fun z => h _ (Nat.mod_lt n hc) z.symm), ih]
theorem gvN_ok {N : Nat → Nat} {w : Nat} {P : Nat → Bool} {W F : Nat → Nat} (hz : ∀ k, k < 6 → P k = false → W k = 0 ∧ F k = 0) {H : Nat} {st : GS} (h : gvN N w P W F H = some st) : sF st.s 6 = H ∧ st.c ≤ H ∧ ∀ k, k < 6 → P k = false → st.s k = 0 := by
  unfold gvN at h
  by_cases hP : anyP P = true
  · rw [if_pos hP] at h
    by_cases h6 : w = 6
    · rw [if_pos h6] at h
      by_cases hk : okB P W F H = true
      · rw [if_pos hk] at h
        cases h
        obtain ⟨o1, o2⟩ := (okB_iff _ _ _ _).mp hk
        have z0k : ∀ k, k < 6 → P k = false → sh0 W F H k = 0 := fun k hk hp => by
          obtain ⟨z1, z2⟩ := hz k hk hp
          unfold sh0 cutN
          rw [z1, z2, Nat.zero_mul, Nat.zero_div]
          rfl
        unfold gsR
        rw [gs_s, gs_c]
        by_cases e : H = sF (sh0 W F H) 6
        · rw [show H - sF (sh0 W F H) 6 = 0 by omega]
          exact ⟨e.symm, Nat.zero_le _, z0k⟩
        · have c0 : 0 < (rkd (rstN W H) (elg P W F H) 6).2 := by omega
          refine ⟨?_, Nat.zero_le _, fun k hk hp => ?_⟩
          · rw [shN_sum c0 (fun t ht => rkd_lt ht)]
            omega
          · rw [shN_P c0 (fun t ht z => ?_), z0k k hk hp]
            have := ((rkd_ok (rstN W H) (elg P W F H) 6).2.2 _).mp ⟨t, ht, z⟩
            rw [elg_P this.2] at hp
            cases hp
      · rw [if_neg hk] at h
        cases h
    · rw [if_neg h6] at h
      by_cases hk : sF F 6 ≤ H
      · rw [if_pos hk] at h
        cases h
        have r := rnds_sum (N := N) (w := w) (W := W) hP (gs0 F) (H - sF F 6)
        have s0 : sF (gs0 F).s 6 = sF F 6 := rfl
        have c0 : (gs0 F).c = 0 := rfl
        refine ⟨by omega, by omega, fun k hk hp => ?_⟩
        rw [rnds_P hP _ hp]
        exact (hz k hk hp).2
      · rw [if_neg hk] at h
        cases h
  · rw [if_neg hP] at h
    by_cases hk : H = 0
    · rw [if_pos hk] at h
      cases h
      exact ⟨by rw [hk]; exact sF_z (fun k h6 => (hz k h6 (anyP_f hP k h6)).2), Nat.zero_le _, fun k h6 hp => (hz k h6 hp).2⟩
    · rw [if_neg hk] at h
      cases h
