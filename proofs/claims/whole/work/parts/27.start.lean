theorem clsL8 : CLs RL 7 8 := ⟨_, tyX8, rfl, inG8, tyX8_ok, wg 84 (by decide +kernel) rfl, wg 85 (by decide +kernel) rfl, wg 69 (by decide +kernel) rfl, by decide +kernel, rfl⟩
theorem siwL8 : SIw RL 9 yX8_init cX8_init 1 := ⟨Or.inl (wg 86 (by decide +kernel) rfl), wg 87 (by decide +kernel) rfl, wg 69 (by decide +kernel) rfl, wg 88 (by decide +kernel) rfl, rfl, ⟨by decide +kernel, by decide +kernel, by decide +kernel⟩⟩
theorem clsL9 : CLs RL 10 9 := ⟨_, tyX9, rfl, inG9, tyX9_ok, wg 840 (by decide +kernel) rfl, wg 841 (by decide +kernel) rfl, wg 79 (by decide +kernel) rfl, by decide +kernel, rfl⟩
theorem siwL9 : SIw RL 12 yX9_init cX9_init 2 := ⟨Or.inl (wg 842 (by decide +kernel) rfl), wg 843 (by decide +kernel) rfl, wg 79 (by decide +kernel) rfl, wg 844 (by decide +kernel) rfl, rfl, ⟨by decide +kernel, by decide +kernel, by decide +kernel⟩⟩
theorem lw_words : ∀ w ∈ GT, w ∈ lw_tbl := fun w h => (List.mem_filter.mp h).1
theorem NW_of {s : State} {A : Array Value} (h : ∀ w ∈ lw_tbl, w.before A s = true) : ∀ w ∈ NW, va_Nw w s := fun w hw => by
  have h1 := List.mem_filter.mp hw
  have h2 := h w h1.1
  have h3 := h1.2
  cases w <;> first | (cases h3; done) | exact va_Nw.of rfl h2
set_option maxHeartbeats 4000000 in
set_option maxRecDepth 100000 in
theorem whole_start_open (hpure : ∀ (xs : Nat → Int32) (L : Nat), L ≤ 2560 → lp (F := Int32 → Hp → Option Unit) (fun _ _ => none) (f_law_18 xs L) 1000 0 h0 = some ()) {p : Program} {e : Env} {s : State} {m : MethodId} {below : List Frame} {meth : Method} {c : Code} (l : Launch) (hflags : l.flags = flags0) {b L : Nat} {xs : Nat → Int32} (hL : L ≤ 2560) (C0 : lw_At p s m meth c b L xs) : W p l e room_1 s m #[Value.ref b] below meth c s.heap [] 0 0 (lw_Z below #[Value.ref b] s) (entryFrame m ([Value.ref b] : List Value).toArray 4) := by
  obtain ⟨hx, hb, hr, hml, hown, hts, hX, hbl, hlocks, hgv⟩ := id C0
  have hG : ∀ w ∈ GT, w.before #[Value.ref b] s = true := fun w h => hts w (lw_words w h)
  have hNw := NW_of hts
  have hAO : va_AOI s := hts (.arrayOver (.array .int)) (List.mem_of_getElem? (i := 320) (by decide +kernel))
  obtain ⟨c0, iS0, hKn0⟩ := u_known (C := RX0) (T := TX0) (N := 11) (n := 11) hG inG0 (hG (.instantiable RX0 11) (wg 147 (by decide +kernel) rfl))
  obtain ⟨c1, iS1, hKn1⟩ := u_known (C := RX1) (T := TX1) (N := 4) (n := 4) hG inG1 (hG (.instantiable RX1 4) (wg 141 (by decide +kernel) rfl))
  obtain ⟨c2, iS2, hKn2⟩ := u_known (C := RX2) (T := TX2) (N := 6) (n := 6) hG inG2 (hG (.instantiable RX2 6) (wg 211 (by decide +kernel) rfl))
  obtain ⟨c3, iS3, hKn3⟩ := u_known (C := RX3) (T := TX3) (N := 8) (n := 8) hG inG3 (hG (.instantiable RX3 8) (wg 93 (by decide +kernel) rfl))
  obtain ⟨c4, iS4, hKn4⟩ := u_known (C := RX4) (T := TX4) (N := 12) (n := 12) hG inG4 (hG (.instantiable RX4 12) (wg 217 (by decide +kernel) rfl))
  obtain ⟨c5, iS5, hKn5⟩ := u_known (C := RX5) (T := TX5) (N := 2) (n := 2) hG inG5 (hG (.instantiable RX5 2) (wg 299 (by decide +kernel) rfl))
  obtain ⟨c6, iS6, hKn6⟩ := u_known (C := RX6) (T := TX6) (N := 2) (n := 2) hG inG6 (hG (.instantiable RX6 2) (wg 314 (by decide +kernel) rfl))
  obtain ⟨c7, iS7, hKn7⟩ := u_known (C := RX7) (T := TX7) (N := 2) (n := 2) hG inG7 (hG (.instantiable RX7 2) (wg 285 (by decide +kernel) rfl))
  obtain ⟨c8, iS8, hKn8⟩ := u_known (C := RX8) (T := TX8) (N := 11) (n := 11) hG inG8 (hG (.instantiable RX8 11) (wg 85 (by decide +kernel) rfl))
  obtain ⟨c9, iS9, hKn9⟩ := u_known (C := RX9) (T := TX9) (N := 42) (n := 42) hG inG9 (hG (.instantiable RX9 42) (wg 841 (by decide +kernel) rfl))
  obtain ⟨dC, dI, hKc⟩ : ∃ (dC : Nat → ClassId) (dI : Nat → Nat → Nat), ∀ (k : Nat) (q : vw_C), vwCl[k]? = some q → u_Kn s q.1 q.2.1 q.2.2 (dC k) (dI k) := by
    refine ⟨fun k => if k = 0 then c0 else if k = 1 then c1 else if k = 2 then c2 else if k = 3 then c3 else if k = 4 then c4 else if k = 5 then c5 else if k = 6 then c6 else if k = 7 then c7 else if k = 8 then c8 else c9, fun k => if k = 0 then iS0 else if k = 1 then iS1 else if k = 2 then iS2 else if k = 3 then iS3 else if k = 4 then iS4 else if k = 5 then iS5 else if k = 6 then iS6 else if k = 7 then iS7 else if k = 8 then iS8 else iS9, ?_⟩
    intro k q hq
    match k, hq with
    | 0, hq => cases hq; exact hKn0
    | 1, hq => cases hq; exact hKn1
    | 2, hq => cases hq; exact hKn2
    | 3, hq => cases hq; exact hKn3
    | 4, hq => cases hq; exact hKn4
    | 5, hq => cases hq; exact hKn5
    | 6, hq => cases hq; exact hKn6
    | 7, hq => cases hq; exact hKn7
    | 8, hq => cases hq; exact hKn8
    | 9, hq => cases hq; exact hKn9
    | k + 10, hq => simp [vwCl] at hq
  obtain ⟨cI, hI1, hI2⟩ := arrK (ty := .int) (fun _ h => by cases h) (hG (.arrayClass .int) (wg 139 (by decide +kernel) rfl))
  obtain ⟨cJ, hJ1, hJ2⟩ := arrK (ty := .long) (fun _ h => by cases h) (hG (.arrayClass .long) (wg 192 (by decide +kernel) rfl))
  obtain ⟨cZ, hZ1, hZ2⟩ := arrK (ty := .boolean) (fun _ h => by cases h) (hG (.arrayClass .boolean) (wg 973 (by decide +kernel) rfl))
  obtain ⟨cQ, hQ1, hQ2⟩ := arrKK hAO
  obtain ⟨cA, hcA⟩ : ∃ cA : Nat → ClassId, tysW cA = [(cI, .int), (cJ, .long), (cZ, .boolean), (cQ, .array .int)] := ⟨fun k => if k = 0 then cI else if k = 1 then cJ else if k = 2 then cZ else cQ, rfl⟩
  have hK : va_K (dC, dI) vwCl (tysW cA) s := by
    rw [hcA]
    refine ⟨hKc, fun k q hq => ?_⟩
    match k, hq with
    | 0, hq => cases hq; exact ⟨hI1, hI2⟩
    | 1, hq => cases hq; exact ⟨hJ1, hJ2⟩
    | 2, hq => cases hq; exact ⟨hZ1, hZ2⟩
    | 3, hq => cases hq; exact ⟨hQ1, hQ2⟩
    | k + 4, hq => simp at hq
  have hS : va_S (fun q : Nat => s.heap.size ≤ q) s.heap s.heap [] := va_S.rf
  have hP : va_P (dC, dI) vwCl [] s.heap := fun k q h => by simp at h
  have hD : va_D (fun q : Nat => s.heap.size ≤ q) [] := ⟨fun i j p q h => by simp at h, fun k q h => by simp at h⟩
  have hl := lv_entry ([.ref b]) (n := 4) (Nat.le_of_ble_eq_true rfl)
  rw [lg_entry_eq]
  generalize (lg_sl ([.ref b]) ++ List.replicate (4 - (lg_sl ([.ref b])).length) Slot.unset).toArray = ls at hl ⊢
  have hl : lv_has ls 4 [(0, .ref b)] := hl
  refine l_new3 (d := 4) (mc' := 107) (ms' := 1557) (N' := 11) (b' := 0) (h := h0) [] hx hb hml hown hG hNw hK hAO hP hD hS hl.1 dL_law_0 dL_law_3 dL_law_4 clsL8 rfl siwL8 (c_init_8_0 (d := 0)) ⟨Nat.le_of_ble_eq_true rfl, Nat.le_of_ble_eq_true rfl⟩ (Nat.le_of_ble_eq_true rfl) (Nat.le_of_ble_eq_true rfl) (Nat.le_of_ble_eq_true rfl) (fun ad1 H locs hP hD hS => ?_)
  refine lv_astore_n (lv' := [(1, .ref (ad1 0)), (0, .ref b)]) hx hb dL_law_7 rfl hl (by decide) rfl (fun ls hl => ?_)
  refine l_new3 (d := 4) (mc' := 28) (ms' := 756) (N' := 42) (b' := 108) (h := h0) _ hx hb hml hown hG hNw hK hAO hP hD hS hl.1 dL_law_8 dL_law_11 dL_law_12 clsL9 rfl siwL9 (c_init_9_108 (d := 3)) ⟨Nat.le_of_ble_eq_true rfl, Nat.le_of_ble_eq_true rfl⟩ (Nat.le_of_ble_eq_true rfl) (Nat.le_of_ble_eq_true rfl) (Nat.le_of_ble_eq_true rfl) (fun ad2 H locs hP hD hS => ?_)
  refine lv_astore_n (lv' := [(2, .ref (ad2 108)), (1, .ref (ad1 0)), (0, .ref b)]) hx hb dL_law_15 rfl hl (by decide) rfl (fun ls hl => ?_)
  refine lv_iconst (v := 0) hx hb dL_law_16 (by decide) ?_
  refine lv_istore_n (lv' := [(3, .int 0), (2, .ref (ad2 108)), (1, .ref (ad1 0)), (0, .ref b)]) hx hb dL_law_17 rfl hl (by decide) rfl (fun ls hl => ?_)
  have eqW : [] ++ WdA ad1 cA h0 0 108 ++ WdA ad2 cA h0 108 29 = Wd (comb ad1 ad2 108 29) cA h0 := by
    rw [List.nil_append]
    have e1 : WdA ad1 cA h0 0 108 = WdA (comb ad1 ad2 108 29) cA h0 0 108 := (WdA_congr (by decide +kernel) (fun _ _ _ => rfl) (fun _ _ _ => rfl) (fun i _ h2 => comb_out (by omega))).symm
    have e2 : WdA ad2 cA h0 108 29 = WdA (comb ad1 ad2 108 29) cA h0 108 29 := (WdA_congr (by decide +kernel) (fun _ _ _ => rfl) (fun _ _ _ => rfl) (fun i h1 h2 => comb_in h1 h2)).symm
    rw [e1, e2]
    have e3 := WdA_app (ad := comb ad1 ad2 108 29) (cA := cA) (h := h0) (b := 0) (m := 108) (n := 29)
    rw [Nat.zero_add] at e3
    rw [e3]
    unfold WdA Wd
    simp only [Nat.zero_add]
  rw [eqW] at hP hD
  have ha1 : ad1 0 = comb ad1 ad2 108 29 0 := rfl
  have ha2 : ad2 108 = comb ad1 ad2 108 29 108 := rfl
  rw [ha1, ha2] at hl
  generalize comb ad1 ad2 108 29 = ad at hP hD hl
  have hinj : Inj ad := fun i j hi hj e => hD.1 i j _ _ (Wd_at hi) (Wd_at hj) e
  have hge : ∀ k, k < nC → s.heap.size ≤ ad k := fun k hk => hD.2 k _ (Wd_at hk)
  refine va_forget (fun q hq => hS.2.2 q hq) ?_
  refine W.widen (k := 600000) (n := 7302250) (Nat.le_of_ble_eq_true rfl) (Nat.le_of_ble_eq_true rfl) ?_
  have hJ := t_law_18 (l := l) (D := (dC, dI)) (ad := ad) (cA := cA) (b := b) (L := L) (xs := xs) (o := ()) 1000 (hpure xs L hL)
  have hS2 : va_S (Ar ad) s.heap H [] := ⟨hS.1, fun q h1 h2 => hS.2.1 q h1 (by omega), fun q h => by cases h⟩
  have hW := hJ p e s m #[Value.ref b] below meth c H [] ls ⟨hx, hb, hml, hr, hlocks, hown, hG, hNw, hK, hinj, hX, hbl, hge⟩ hP hS2 (lv_sub hl [3, 2, 1, 0] rfl)
  intro T hT X
  obtain ⟨t, a1, b1⟩ := hW T hT X
  exact ⟨t, a1, b1 rfl⟩
