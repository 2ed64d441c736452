section OPSP
variable {PK : (Nat → Nat) → Hp → Prop}
theorem op_span (hPK : PKok PK) (z1 z2 z3 : Int32) : Op (Rel PK) (fun h => f_X8_span 0 z1 z2 z3 h) (fun h => f_X9_span 108 z1 z2 z3 h) := by
  intro h ⟨N, hR⟩
  have v := hR.1
  have hw := v.w
  have a := hR.2.1
  have b0 := hR.2.2.1
  have ew : h.1 (0 + 1) 5 = nI (N 41) := a 41 (by decide)
  have n3 : ∀ k, (nI (N 41) = nI k ↔ N 41 = k) ∨ 2 ^ 31 ≤ k := fun k => by
    by_cases q : k < 2 ^ 31
    · exact Or.inl (nI_eq (by omega) q)
    · exact Or.inr (by omega)
  have w3 : nI (N 41) = 3 ↔ N 41 = 3 := by rw [show (3 : Int32) = nI 3 from rfl, nI_eq (by omega) (by omega)]
  have w6 : nI (N 41) = 6 ↔ N 41 = 6 := by rw [show (6 : Int32) = nI 6 from rfl, nI_eq (by omega) (by omega)]
  by_cases o2 : z2 = 0 ∨ z2 = 1
  · by_cases o3 : z3 = 0 ∨ z3 = 1
    · have e2 := isPart_in h o2
      have e3 := isPart_in h o3
      by_cases h3 : N 41 = 3
      · have E8 : f_X8_span 0 z1 z2 z3 h = some (-9223372036854775808, h) := by
          unfold f_X8_span
          rw [e2.2, Option.bind_some, if_neg one_ne, e3.2, Option.bind_some, if_neg one_ne, if_pos (by rw [ew]; exact w3.mpr h3)]
        refine same_opL (r := -9223372036854775808) ⟨N, hR⟩ E8 ?_
        unfold f_X9_span
        rcases rng z1 60 (by decide) with ⟨H, hH, rfl⟩ | o1
        · rw [isHousei _ hH, Option.bind_some, if_neg one_ne, e2.1, Option.bind_some, if_neg one_ne, e3.1, Option.bind_some, if_neg one_ne, wayNow9 b0, Option.bind_some, if_pos (w3.mpr h3)]
        · rw [isHouseo _ o1, Option.bind_some, if_pos rfl]
      · have ne3 : ¬ nI (N 41) = 3 := fun z => h3 (w3.mp z)
        rcases rng z1 60 (by decide) with ⟨H, hH, rfl⟩ | o1
        · by_cases h6 : N 41 = 6
          · refine same_opL (r := -9223372036854775808) ⟨N, hR⟩ ?_ ?_
            · unfold f_X8_span
              rw [e2.2, Option.bind_some, if_neg one_ne, e3.2, Option.bind_some, if_neg one_ne, if_neg (by rw [ew]; exact ne3), fillBP8r a h6 hH, Option.bind_some, if_neg m3_ne]
            · unfold f_X9_span
              rw [isHousei _ hH, Option.bind_some, if_neg one_ne, e2.1, Option.bind_some, if_neg one_ne, e3.1, Option.bind_some, if_neg one_ne, wayNow9 b0, Option.bind_some, if_neg ne3]
              dsimp only
              rw [wayNow9 b0, Option.bind_some, if_pos (w6.mpr h6)]
          · have ne6 : ¬ nI (N 41) = 6 := fun z => h6 (w6.mp z)
            obtain ⟨b, e, ef, ec⟩ := fillBP8 a v h6 hH
            have R1 := hR.keep hPK (kpA ef)
            obtain ⟨c, g, gf, gc⟩ := hs9 R1.2.2.1 v hw hH
            have R2 := R1.keep hPK (kp9 gf)
            by_cases ok : okHb N (N 41) H = true
            · obtain ⟨nx, hnx⟩ : ∃ nx : Bool, z2 = if nx = true then 0 else 1 := by
                rcases o2 with q | q
                · exact ⟨true, q⟩
                · exact ⟨false, q⟩
              have ewb : b.1 (0 + 1) 5 = nI (N 41) := R1.2.1 41 (by decide)
              have e8 := edge8 R1.2.1 v hw (ec ok).2.1 (PL_W v) (fun k hk => lst_s60 ok hH hk) (fun k hk => PL_F1 v hk) nx z3
              have e9 := spn9 R1.2.2.1 v h3 h6 hH nx o3 (by rw [g, if_pos ok]) R2.2.2.1 ok (gc ok)
              refine ⟨eX N (N 41) (PL N 6).2.1 (lst N (N 41) H).s nx z3 (eBest N (N 41) (PL N 6).1 (PL N 6).2.1 (PL N 6).2.2 (lst N (N 41) H).s nx 6), b, c, ?_, ?_, ⟨N, R2⟩⟩
              · dsimp only
                generalize eX N (N 41) (PL N 6).2.1 (lst N (N 41) H).s nx z3 (eBest N (N 41) (PL N 6).1 (PL N 6).2.1 (PL N 6).2.2 (lst N (N 41) H).s nx 6) = X at e8
                unfold f_X8_span f_X8_span_70
                rw [e2.2, Option.bind_some, if_neg one_ne, e3.2, Option.bind_some, if_neg one_ne, if_neg (by rw [ew]; exact ne3), e, Option.bind_some, if_pos (if_pos ok)]
                dsimp only
                rw [ewb]
                cases nx with
                | true =>
                  rw [if_pos (show z2 = 0 from hnx), show f_X0_edge (0 + 16 + 1) (0 + 1) (nI (N 41)) 1 z3 b = _ from e8, Option.bind_some]
                | false =>
                  rw [if_neg (show ¬ z2 = 0 by rw [hnx]; decide), show f_X0_edge (0 + 16 + 1) (0 + 1) (nI (N 41)) 0 z3 b = _ from e8, Option.bind_some]
              · dsimp only
                rw [hnx]
                exact e9
            · refine ⟨-9223372036854775808, b, c, ?_, ?_, ⟨N, R2⟩⟩
              · dsimp only
                unfold f_X8_span
                rw [e2.2, Option.bind_some, if_neg one_ne, e3.2, Option.bind_some, if_neg one_ne, if_neg (by rw [ew]; exact ne3), e, Option.bind_some, if_neg (by rw [if_neg ok]; exact m3_ne)]
              · dsimp only
                unfold f_X9_span
                rw [isHousei _ hH, Option.bind_some, if_neg one_ne, (isPart_in b o2).1, Option.bind_some, if_neg one_ne, (isPart_in b o3).1, Option.bind_some, if_neg one_ne, wayNow9 R1.2.2.1, Option.bind_some, if_neg ne3]
                dsimp only
                rw [wayNow9 R1.2.2.1, Option.bind_some, if_neg ne6]
                dsimp only
                rw [wayNow9 R1.2.2.1, Option.bind_some]
                dsimp only
                rw [g, Option.bind_some, if_pos (if_neg ok)]
        · refine same_opL (r := -9223372036854775808) ⟨N, hR⟩ ?_ ?_
          · unfold f_X8_span
            rw [e2.2, Option.bind_some, if_neg one_ne, e3.2, Option.bind_some, if_neg one_ne, if_neg (by rw [ew]; exact ne3), fillBP8o _ o1, Option.bind_some, if_neg m2_ne]
          · unfold f_X9_span
            rw [isHouseo _ o1, Option.bind_some, if_pos rfl]
    · have e2 := isPart_in h o2
      have e3 := isPart_out h o3
      refine same_opL (r := -9223372036854775808) ⟨N, hR⟩ ?_ ?_
      · unfold f_X8_span
        rw [e2.2, Option.bind_some, if_neg one_ne, e3.2, Option.bind_some, if_pos rfl]
      · unfold f_X9_span
        rcases rng z1 60 (by decide) with ⟨H, hH, rfl⟩ | o1
        · rw [isHousei _ hH, Option.bind_some, if_neg one_ne, e2.1, Option.bind_some, if_neg one_ne, e3.1, Option.bind_some, if_pos rfl]
        · rw [isHouseo _ o1, Option.bind_some, if_pos rfl]
  · have e2 := isPart_out h o2
    refine same_opL (r := -9223372036854775808) ⟨N, hR⟩ ?_ ?_
    · unfold f_X8_span
      rw [e2.2, Option.bind_some, if_pos rfl]
    · unfold f_X9_span
      rcases rng z1 60 (by decide) with ⟨H, hH, rfl⟩ | o1
      · rw [isHousei _ hH, Option.bind_some, if_neg one_ne, e2.1, Option.bind_some, if_pos rfl]
      · rw [isHouseo _ o1, Option.bind_some, if_pos rfl]
end OPSP
/-! what stays, by lists of rows and cells -/
def KeepL (A : List Nat) (C : List (Nat × Nat)) (h h' : Hp) : Prop := (∀ k ∈ A, h'.1 k = h.1 k) ∧ ∀ q ∈ C, h'.1 q.1 q.2 = h.1 q.1 q.2
theorem KeepL.trans {A : List Nat} {C : List (Nat × Nat)} {h h1 h2 : Hp} (a : KeepL A C h h1) (b : KeepL A C h1 h2) : KeepL A C h h2 := ⟨fun k x => (b.1 k x).trans (a.1 k x), fun k x => (b.2 k x).trans (a.2 k x)⟩
theorem KeepL.refl {A : List Nat} {C : List (Nat × Nat)} {h : Hp} : KeepL A C h h := ⟨fun _ _ => rfl, fun _ _ => rfl⟩
theorem KeepL.ofFc {A : List Nat} {C : List (Nat × Nat)} {lo hi : Nat} {X : List Nat} {h h' : Hp} (a : Fc lo hi X h h') (h1 : ∀ k ∈ A, (k < lo ∨ hi ≤ k) ∧ k ∉ X) (h2 : ∀ q ∈ C, (q.1 < lo ∨ hi ≤ q.1) ∧ q.1 ∉ X) : KeepL A C h h' := ⟨fun k x => (a k (h1 k x).1 (h1 k x).2).1, fun q x => by rw [(a q.1 (h2 q x).1 (h2 q x).2).1]⟩
theorem KeepL.ofFx {A : List Nat} {C : List (Nat × Nat)} {L S : List Nat} {h h' : Hp} (a : Fx L S h h') (h1 : ∀ k ∈ A, k ∉ L ∧ k ≠ 108) (h2 : ∀ q ∈ C, (q.1 = 108 ∧ q.2 ∉ S) ∨ (q.1 ≠ 108 ∧ q.1 ∉ L)) : KeepL A C h h' := ⟨fun k x => a.1 k (h1 k x).1 (h1 k x).2, fun q x => by
  rcases h2 q x with ⟨e, g⟩ | ⟨e, g⟩
  · rw [e]
    exact a.2.2 q.2 g
  · rw [a.1 q.1 g e]⟩
theorem Keep.l {A : List Nat} {C : List (Nat × Nat)} {h h' : Hp} (a : Keep h h') (h1 : ∀ k ∈ A, k ∈ keepRows) (h2 : ∀ q ∈ C, q ∈ keepCells) : KeepL A C h h' := ⟨fun k x => a.1 k (h1 k x), fun q x => a.2 q (h2 q x)⟩
abbrev A0 : List Nat := [1, 2, 3, 4, 5, 6, 7, 8, 9, 10, 97, 109, 110, 111]
abbrev C0 : List (Nat × Nat) := [(0, 10), (96, 1), (108, 2), (108, 6)]
abbrev A1 : List Nat := [99, 127]
abbrev C1 : List (Nat × Nat) := [(98, 1), (108, 28)]
abbrev A2 : List Nat := [102, 103, 104, 105, 106, 134, 135]
abbrev A3 : List Nat := [57, 77, 131]
abbrev C3 : List (Nat × Nat) := [(56, 4), (56, 5), (58, 0), (58, 1), (67, 2), (108, 3), (108, 4)]
theorem RelN.of {PK : (Nat → Nat) → Hp → Prop} {N : Nat → Nat} {h h' : Hp} (a : RelN PK N h) (k : KeepL A0 C0 h h') (r1 : RS h') (r2 : RR h') (r3 : RPl PK N h') : RelN PK N h' := by
  obtain ⟨a1, a2, a3, a4, a5, -, -, -⟩ := a
  refine ⟨a1, a2.keep ?_, a3.keep (k.1 109 (by decide)), a4.keep (k.2 (0, 10) (by decide)) (k.2 (108, 2) (by decide)) ?_ (k.1 110 (by decide)), a5.keep (k.2 (96, 1) (by decide)) (k.2 (108, 6) (by decide)) (k.1 97 (by decide)) (k.1 111 (by decide)), r1, r2, r3⟩
  · intro j hj
    rcases (show j = 0 ∨ j = 1 ∨ j = 2 ∨ j = 3 ∨ j = 4 by omega) with rfl | rfl | rfl | rfl | rfl <;> exact k.1 _ (by decide)
  · intro j hj
    rcases (show j = 0 ∨ j = 1 ∨ j = 2 ∨ j = 3 ∨ j = 4 by omega) with rfl | rfl | rfl | rfl | rfl <;> exact k.1 _ (by decide)
theorem RS.l {h h' : Hp} (a : RS h) (k : KeepL A1 C1 h h') : RS h' := a.keep (k.2 (98, 1) (by decide)) (k.2 (108, 28) (by decide)) (k.1 99 (by decide)) (k.1 127 (by decide))
theorem RR.l {h h' : Hp} (a : RR h) (k : KeepL A2 [] h h') : RR h' := a.keep (k.1 106 (by decide)) (k.1 135 (by decide)) (fun r hr => by rcases (show r = 0 ∨ r = 1 ∨ r = 2 ∨ r = 3 by omega) with rfl | rfl | rfl | rfl <;> exact k.1 _ (by decide)) (k.1 134 (by decide))
theorem RPl.l {PK : (Nat → Nat) → Hp → Prop} (hPK : PKok PK) {N : Nat → Nat} {h h' : Hp} (a : RPl PK N h) (k : KeepL A3 C3 h h') : RPl PK N h' := by
  unfold RPl
  rw [k.2 (56, 4) (by decide), k.2 (108, 3) (by decide)]
  rcases a with a | c
  · exact Or.inl a
  · exact Or.inr (hPK N h h' (k.2 (56, 4) (by decide)) (k.2 (108, 3) (by decide)) (k.2 (56, 5) (by decide)) (k.2 (108, 4) (by decide)) (k.1 57 (by decide)) (k.1 131 (by decide)) (k.2 (67, 2) (by decide)) (k.1 77 (by decide)) (k.2 (58, 0) (by decide)) (k.2 (58, 1) (by decide)) c)
/-! writing -/
def Tx : Type := Nat × (Nat → Int32)
def wr (s : Tx) (x : Int32) : Tx := (s.1 + 1, fun i => if i = s.1 then x else s.2 i)
def wNu (s : Tx) (n : Nat) : Tx := wr (if n ≤ 9 then s else wr s (nI (48 + n / 10))) (nI (48 + n % 10))
def spI (sep : Int32) (V : Nat → Nat) (j : Nat) (s : Tx) : Tx := wNu (if j = 0 then s else wr s sep) (V j)
def P8 (h : Hp) (s : Tx) : Prop := h.1 98 1 = nI s.1 ∧ ∀ i, i < s.1 → h.1 99 i = s.2 i
def P9 (h : Hp) (s : Tx) : Prop := h.1 108 28 = nI s.1 ∧ ∀ i, i < s.1 → h.1 127 i = s.2 i
theorem wr_1 (s : Tx) (x : Int32) : (wr s x).1 = s.1 + 1 := rfl
theorem wn_1 (s : Tx) (n : Nat) : s.1 + 1 ≤ (wNu s n).1 ∧ (wNu s n).1 ≤ s.1 + 2 := by
  unfold wNu
  rw [wr_1]
  by_cases h : n ≤ 9
  · rw [if_pos h]
    omega
  · rw [if_neg h, wr_1]
    omega
theorem spI_1 (sep : Int32) (V : Nat → Nat) (j : Nat) (s : Tx) : (spI sep V j s).1 ≤ s.1 + 3 := by
  unfold spI
  by_cases h : j = 0
  · rw [if_pos h]
    have := (wn_1 s (V j)).2
    omega
  · rw [if_neg h]
    have := (wn_1 (wr s sep) (V j)).2
    rw [wr_1] at this
    omega
theorem put8 {h : Hp} {s : Tx} (p : P8 h s) (hs : s.1 < 96) (x : Int32) : ∃ h', f_X5_putByte 98 x h = some ((), h') ∧ P8 h' (wr s x) := by
  obtain ⟨p1, p2⟩ := p
  unfold f_X5_putByte
  rw [p1, if_neg (nI_pos (by omega)), if_neg (show ¬ (120 : Int32) ≤ nI s.1 from nI_ge (b := 120) (by omega) (by decide))]
  simp only [lt, ix_nI (show s.1 < 120 by omega) (by decide : 120 < 2 ^ 31), if_true, nI_clamp (show s.1 < 2 ^ 31 by omega), nI_1, show 98 + 1 = 99 from rfl]
  refine ⟨_, rfl, ?_, fun i hi => ?_⟩
  · rw [sI_row _ _ _ (by decide), sI1, if_pos rfl, if_pos rfl]
    rfl
  · rw [wr_1] at hi
    show _ = if i = s.1 then x else s.2 i
    rw [sI1, if_pos rfl]
    by_cases e : i = s.1
    · rw [if_pos e, if_pos e]
    · rw [if_neg e, if_neg e, sI_row _ _ _ (by decide)]
      exact p2 i (by omega)
theorem write9 {h : Hp} {s : Tx} (p : P9 h s) (hs : s.1 < 96) (x : Int32) : ∃ h', f_X9_writes 108 x h = some ((), h') ∧ P9 h' (wr s x) := by
  obtain ⟨p1, p2⟩ := p
  have e2 : (sI h 127 s.1 x).1 108 28 = nI s.1 := by rw [sI_row _ _ _ (by decide), p1]
  unfold f_X9_writes
  rw [p1, if_pos (ix_nI hs (by decide)), nI_clamp (by omega)]
  simp only [lt, show 108 + 19 = 127 from rfl, e2, nI_1]
  refine ⟨_, rfl, ?_, fun i hi => ?_⟩
  · rw [sI1, if_pos rfl, if_pos rfl]
    rfl
  · rw [wr_1] at hi
    show _ = if i = s.1 then x else s.2 i
    rw [sI_row _ _ _ (by decide), sI1, if_pos rfl]
    by_cases e : i = s.1
    · rw [if_pos e, if_pos e]
    · rw [if_neg e, if_neg e]
      exact p2 i (by omega)
theorem fig (n : Nat) (h : n < 2 ^ 31) : (48 : Int32) + (nI n - nI n / 10 * 10) = nI (48 + n % 10) ∧ (48 : Int32) + nI n / 10 = nI (48 + n / 10) := by
  rw [show (10 : Int32) = nI 10 from rfl, pk_rem h (by decide) (by decide), pk_div h (by decide) (by decide), show (48 : Int32) = nI 48 from rfl, nI_add, nI_add]
  exact ⟨rfl, rfl⟩
theorem num9 {h : Hp} {s : Tx} (p : P9 h s) (hs : s.1 + 1 < 96) {n : Nat} (hn : n < 1000) : ∃ h', f_X9_writesNumber 108 (nI n) h = some ((), h') ∧ P9 h' (wNu s n) := by
  have fg := fig n (by omega)
  unfold f_X9_writesNumber f_X9_writesNumber_17 wNu
  rw [fg.1, fg.2]
  by_cases h9 : n ≤ 9
  · rw [if_pos (show nI n ≤ 9 from nI_le (b := 9) h9 (by decide)), if_neg (by decide), if_pos h9]
    obtain ⟨h', e, q⟩ := write9 p (by omega) (nI (48 + n % 10))
    rw [e]
    exact ⟨h', rfl, q⟩
  · rw [if_neg (show ¬ nI n ≤ 9 from nI_ge (a := 9) (by omega) (by omega)), if_neg (by decide), if_neg h9]
    obtain ⟨h1, e1, q1⟩ := write9 p (by omega) (nI (48 + n / 10))
    obtain ⟨h', e, q⟩ := write9 q1 (by rw [wr_1]; omega) (nI (48 + n % 10))
    rw [e1]
    simp only [Option.bind_some]
    rw [if_neg (by decide), e]
    exact ⟨h', rfl, q⟩
theorem putSeats8 {h : Hp} {s : Tx} (p : P8 h s) (hs : s.1 + 18 ≤ 96) {a f : Nat} (ha : a ≠ 98 ∧ a ≠ 99) (hl : f + 6 ≤ ln a) (hl2 : ln a < 2 ^ 31) {V : Nat → Nat} (hV : ∀ j, j < 6 → V j < 1000) (e : ∀ j, j < 6 → h.1 a (f + j) = nI (V j)) : ∃ b, f_X5_putSeats 98 a (nI f) h = some b ∧ P8 b.2 (fu (spI 44 V) 6 s) := by
  unfold f_X5_putSeats
  refine lp_inv (F := Nat → Nat → Int32 → Int32 → Hp → Option (Unit × Hp)) (bot := fun _ _ _ _ _ => none) (G := f_X5_putSeats_2) (fun K i (h : Hp) => K 98 a (nI f) (nI i) h) 6 (fun i h' => P8 h' (fu (spI 44 V) i s) ∧ (fu (spI 44 V) i s).1 ≤ s.1 + 3 * i ∧ h'.1 a = h.1 a) _ ?_ ?_ 1000 0 h (by omega) (by omega) ⟨p, Nat.le_refl _, rfl⟩
  · rintro K i h1 hi ⟨c1, c2, c3⟩
    have hVi := hV i hi
    have fg := fig (V i) (by omega)
    have sp := spI_1 44 V i (fu (spI 44 V) i s)
    show ∃ s', (P8 s' (spI 44 V i (fu (spI 44 V) i s)) ∧ (spI 44 V i (fu (spI 44 V) i s)).1 ≤ s.1 + 3 * (i + 1) ∧ s'.1 a = h.1 a) ∧ f_X5_putSeats_2 K 98 a (nI f) (nI i) h1 = K 98 a (nI f) (nI (i + 1)) s'
    generalize fu (spI 44 V) i s = t at c1 c2 sp
    have n18 : ∀ h2 t2, P8 h2 t2 → t2.1 + 1 < 96 → h2.1 a = h.1 a → ∃ h3, f_X5_putSeats_18 K 98 a (nI f) (nI i) h2 = K 98 a (nI f) (nI (i + 1)) h3 ∧ P8 h3 (wNu t2 (V i)) ∧ h3.1 a = h.1 a := fun h2 t2 q1 q2 q3 => by
      unfold f_X5_putSeats_18 f_X5_putSeats_44 wNu
      rw [nI_add, if_pos (ix_nI (by omega) hl2), nI_clamp (by omega), q3, e i hi]
      simp only [lt]
      rw [fg.1, fg.2]
      by_cases h9 : V i ≤ 9
      · obtain ⟨h3, e3, q4⟩ := put8 q1 (by omega) (nI (48 + V i % 10))
        have f3 := mf_X5_putByte e3
        rw [if_pos (show nI (V i) < 10 from nI_lt (b := 10) (by omega) (by decide)), if_neg (by decide), e3, if_pos h9]
        simp only [Option.bind_some, nI_1]
        exact ⟨h3, rfl, q4, by rw [(f3 a (by omega) (by simp)).1, q3]⟩
      · obtain ⟨h4, e4, q5⟩ := put8 q1 (by omega) (nI (48 + V i / 10))
        obtain ⟨h3, e3, q4⟩ := put8 q5 (by rw [wr_1]; omega) (nI (48 + V i % 10))
        have f4 := mf_X5_putByte e4
        have f3 := mf_X5_putByte e3
        rw [if_neg (show ¬ nI (V i) < 10 from nI_nlt (b := 10) (by omega) (by omega)), if_neg (by decide), e4, if_neg h9]
        simp only [Option.bind_some]
        rw [if_neg (by decide), e3]
        simp only [Option.bind_some, nI_1]
        exact ⟨h3, rfl, q4, by rw [(f3 a (by omega) (by simp)).1, (f4 a (by omega) (by simp)).1, q3]⟩
    unfold f_X5_putSeats_2
    rw [if_neg (ge6 hi)]
    by_cases h0 : i = 0
    · obtain ⟨h3, e3, q1, q2⟩ := n18 h1 t c1 (by omega) c3
      rw [if_pos (show nI i ≤ 0 by rw [h0]; decide), e3]
      refine ⟨h3, ⟨?_, by omega, q2⟩, rfl⟩
      unfold spI
      rw [if_pos h0]
      exact q1
    · obtain ⟨h2, e2, q3⟩ := put8 c1 (by omega) 44
      have f2 := mf_X5_putByte e2
      obtain ⟨h3, e3, q1, q2⟩ := n18 h2 (wr t 44) q3 (by rw [wr_1]; omega) (by rw [(f2 a (by omega) (by simp)).1, c3])
      rw [if_neg (nI_nle (by omega) (by omega)), e2]
      simp only [Option.bind_some]
      rw [e3]
      refine ⟨h3, ⟨?_, by omega, q2⟩, rfl⟩
      unfold spI
      rw [if_neg h0]
      exact q1
  · rintro K h1 ⟨c1, c2, c3⟩
    show ∃ b, f_X5_putSeats_2 K 98 a (nI f) (nI 6) h1 = some b ∧ _
    unfold f_X5_putSeats_2
    rw [if_pos (show (6 : Int32) ≤ nI 6 by decide)]
    exact ⟨_, rfl, c1⟩
theorem fu_sp (V : Nat → Nat) (s : Tx) : ∀ i, (fu (spI 44 V) i s).1 ≤ s.1 + 3 * i := by
  intro i
  induction i with
  | zero => exact Nat.le_refl _
  | succ i ih =>
    have := spI_1 44 V i (fu (spI 44 V) i s)
    show (spI 44 V i (fu (spI 44 V) i s)).1 ≤ _
    omega
theorem spell9 {h : Hp} {V : Nat → Nat} (hV : ∀ j, j < 6 → V j < 1000) (e : ∀ j, j < 6 → h.1 124 j = nI (V j)) {s : Tx} (p : P9 h s) (hs : s.1 = 0) : ∃ b, lp (F := Nat → Int32 → Hp → Option (Int32 × Hp)) (fun _ _ _ => none) f_X9_spell_32 1000 108 0 h = some b ∧ (b.1 = nI (fu (spI 44 V) 6 s).1 ∧ P9 b.2 (fu (spI 44 V) 6 s)) := by
  refine lp_inv (F := Nat → Int32 → Hp → Option (Int32 × Hp)) (bot := fun _ _ _ => none) (G := f_X9_spell_32) (fun K i (h : Hp) => K 108 (nI i) h) 6 (fun i h' => P9 h' (fu (spI 44 V) i s) ∧ h'.1 124 = h.1 124) _ ?_ ?_ 1000 0 h (by omega) (by omega) ⟨p, rfl⟩
  · rintro K i h1 hi ⟨c1, c3⟩
    have hVi := hV i hi
    have b1 := fu_sp V s i
    show ∃ s', (P9 s' (spI 44 V i (fu (spI 44 V) i s)) ∧ s'.1 124 = h.1 124) ∧ f_X9_spell_32 K 108 (nI i) h1 = K 108 (nI (i + 1)) s'
    generalize fu (spI 44 V) i s = t at c1 b1
    have n48 : ∀ h2 t2, P9 h2 t2 → t2.1 + 1 < 96 → h2.1 124 = h.1 124 → ∃ h3, f_X9_spell_48 K 108 (nI i) h2 = K 108 (nI (i + 1)) h3 ∧ P9 h3 (wNu t2 (V i)) ∧ h3.1 124 = h.1 124 := fun h2 t2 q1 q2 q3 => by
      obtain ⟨h3, e3, q4⟩ := num9 q1 q2 hVi
      unfold f_X9_spell_48
      rw [if_pos (ix6 hi), cl6' hi, show h2.1 (108 + 16) i = nI (V i) by rw [show 108 + 16 = 124 from rfl, q3]; exact e i hi, e3]
      simp only [Option.bind_some, lt, nI_1]
      exact ⟨h3, rfl, q4, by rw [(mf_X9_writesNumber e3).1 124 (by decide) (by decide), q3]⟩
    unfold f_X9_spell_32
    rw [if_neg (ge6 hi)]
    by_cases h0 : i = 0
    · obtain ⟨h3, e3, q1, q2⟩ := n48 h1 t c1 (by omega) c3
      rw [if_pos (show nI i ≤ 0 by rw [h0]; decide), e3]
      refine ⟨h3, ⟨?_, q2⟩, rfl⟩
      unfold spI
      rw [if_pos h0]
      exact q1
    · obtain ⟨h2, e2, q3⟩ := write9 c1 (by omega) 44
      obtain ⟨h3, e3, q1, q2⟩ := n48 h2 (wr t 44) q3 (by rw [wr_1]; omega) (by rw [(mf_X9_writes e2).1 124 (by decide) (by decide), c3])
      rw [if_neg (nI_nle (by omega) (by omega)), e2]
      simp only [Option.bind_some]
      rw [e3]
      refine ⟨h3, ⟨?_, q2⟩, rfl⟩
      unfold spI
      rw [if_neg h0]
      exact q1
  · rintro K h1 ⟨c1, c3⟩
    show ∃ b, f_X9_spell_32 K 108 (nI 6) h1 = some b ∧ _
    unfold f_X9_spell_32
    rw [if_pos (show (6 : Int32) ≤ nI 6 by decide)]
    exact ⟨_, rfl, c1.1, c1⟩
theorem RS.mk {h : Hp} {s : Tx} (hs : s.1 ≤ 96) (p : P8 h s) (q : P9 h s) : RS h := ⟨s.1, hs, p.1, q.1, fun i hi => by rw [p.2 i hi, q.2 i hi]⟩
theorem spl9 {N : Nat → Nat} {h c : Hp} {x : Int32} (b : Po h 109 N) {H : Nat} (hH : H ≤ 60) (g : f_X9_houses 108 (nI (N 41)) (nI H) h = some (1, c)) {o : Hp} (q : lp (F := Nat → Int32 → Hp → Option (Int32 × Hp)) (fun _ _ _ => none) f_X9_spell_32 1000 108 0 (sI c 108 28 0) = some (x, o)) : f_X9_spell 108 (nI H) h = some (x, o) := by
  generalize hl : lp (F := Nat → Int32 → Hp → Option (Int32 × Hp)) (fun _ _ _ => none) f_X9_spell_32 1000 = LL at q
  unfold f_X9_spell
  rw [hl, isHousei _ hH, Option.bind_some, if_neg one_ne, wayNow9 b, Option.bind_some, g, Option.bind_some, if_neg one_ne]
  exact q
section OPSQ
variable {PK : (Nat → Nat) → Hp → Prop}
theorem op_spell (hPK : PKok PK) (z1 : Int32) : Op (Rel PK) (fun h => f_X8_spell 0 z1 h) (fun h => f_X9_spell 108 z1 h) := by
  intro h ⟨N, hR⟩
  have v := hR.1
  rcases rng z1 60 (by decide) with ⟨H, hH, rfl⟩ | o1
  · obtain ⟨b, e, ef, ec⟩ := fillNow8 hR.2.1 v hH
    have R1 := hR.keep hPK (kpA ef)
    by_cases ok : okHb N (N 41) H = true
    · have pb : ∀ k, k < 6 → pS N (N 41) H k < 1000 := fun k hk => by
        have := pS_le v ok hk
        omega
      have s0 : P8 (sI b 98 1 0) (0, fun _ => 0) := ⟨by rw [sI1, if_pos rfl, if_pos rfl]; rfl, fun i hi => absurd hi (Nat.not_lt_zero i)⟩
      obtain ⟨⟨u, b2⟩, e2, q2⟩ := putSeats8 s0 (by decide) (a := 26) (f := 0) ⟨by decide, by decide⟩ (by decide) (by decide) pb (fun j hj => by
        rw [sI_row _ _ _ (by decide), Nat.zero_add]
        exact (ec ok).2.2 j hj)
      have f2 := mf_X5_putSeats e2
      dsimp only at q2 f2
      have f3 : Fc 98 100 [] b b2 := (Fc_sI (lo := 98) (hi := 100) (X := []) Fc.refl rfl (Or.inl ⟨by decide, by decide⟩) : Fc 98 100 [] b (sI b 98 1 0)).trans f2
      have b9 : Po b2 109 N := R1.2.2.1.keep (f3 109 (by omega) (by simp)).1
      obtain ⟨c, g, gf, gc⟩ := hs9 b9 v v.w hH
      have t0 : P9 (sI c 108 28 0) (0, fun _ => 0) := ⟨by rw [sI1, if_pos rfl, if_pos rfl]; rfl, fun i hi => absurd hi (Nat.not_lt_zero i)⟩
      obtain ⟨⟨x, o⟩, e4, x4, q4⟩ := spell9 (h := sI c 108 28 0) pb (fun j hj => by rw [sI_row _ _ _ (by decide)]; exact (gc ok).2.1 j hj) t0 rfl
      dsimp only at x4 q4
      subst x4
      have e5 := spl9 b9 hH (by rw [g, if_pos ok]) e4
      have f5 := mf_X9_spell e5
      have hb := fu_sp (pS N (N 41) H) (0, fun _ => 0) 6
      refine ⟨nI (fu (spI 44 (pS N (N 41) H)) 6 (0, fun _ => 0)).1, b2, o, ?_, e5, ⟨N, ?_⟩⟩
      · dsimp only
        unfold f_X8_spell
        rw [e, Option.bind_some, if_pos (if_pos ok)]
        simp only [lt]
        rw [show f_X5_putSeats (0 + 98) (0 + 16 + 10) 0 (sI b (0 + 98) 1 0) = _ from e2, Option.bind_some]
        dsimp only
        rw [show b2.1 (0 + 98) 1 = _ from q2.1]
      · have kk : ∀ (A : List Nat) (C : List (Nat × Nat)), (∀ k ∈ A, (k < 98 ∨ 100 ≤ k) ∧ k ∉ ([] : List Nat)) → (∀ q ∈ C, (q.1 < 98 ∨ 100 ≤ q.1) ∧ q.1 ∉ ([] : List Nat)) → (∀ k ∈ A, k ∉ [113, 114, 115, 116, 117, 118, 119, 120, 121, 122, 123, 124, 125, 127] ∧ k ≠ 108) → (∀ q ∈ C, (q.1 = 108 ∧ q.2 ∉ [14, 15, 24, 25, 28]) ∨ (q.1 ≠ 108 ∧ q.1 ∉ [113, 114, 115, 116, 117, 118, 119, 120, 121, 122, 123, 124, 125, 127])) → KeepL A C b o := fun A C h1 h2 h3 h4 => (KeepL.ofFc f3 h1 h2).trans (KeepL.ofFx f5 h3 h4)
        refine R1.of (kk _ _ (by decide) (by decide) (by decide) (by decide)) (RS.mk (by show _ ≤ 96; have : ((0, fun _ => 0) : Tx).1 = 0 := rfl; omega) ⟨?_, fun i hi => ?_⟩ q4) (R1.2.2.2.2.2.2.1.l (kk _ _ (by decide) (by decide) (by decide) (by decide))) (R1.2.2.2.2.2.2.2.l hPK (kk _ _ (by decide) (by decide) (by decide) (by decide)))
        · rw [f5.1 98 (by decide) (by decide)]
          exact q2.1
        · rw [f5.1 99 (by decide) (by decide)]
          exact q2.2 i hi
    · obtain ⟨c, g, gf, gc⟩ := hs9 R1.2.2.1 v v.w hH
      have R2 := R1.keep hPK (kp9 gf)
      refine ⟨-3, b, c, ?_, ?_, ⟨N, R2⟩⟩
      · dsimp only
        unfold f_X8_spell
        rw [e, Option.bind_some, if_neg (by rw [if_neg ok]; exact m3_ne), if_neg ok]
      · dsimp only
        unfold f_X9_spell
        rw [isHousei _ hH, Option.bind_some, if_neg one_ne, wayNow9 R1.2.2.1, Option.bind_some, g, Option.bind_some, if_pos (if_neg ok)]
  · refine same_op (r := -2) ⟨N, hR⟩ ?_ ?_
    · unfold f_X8_spell
      rw [fillNow8o _ o1, Option.bind_some, if_neg m2_ne]
    · unfold f_X9_spell
      rw [isHouseo _ o1, Option.bind_some, if_pos rfl]
end OPSQ
