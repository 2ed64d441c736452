/-! the law's entry: both objects made; then the loop -/
set_option maxHeartbeats 4000000 in
theorem l_new3 {p : Program} {l : Launch} {e : Env} {R : Room} {s : State} {mm : MethodId} {args : Array Value} {below : List Frame} {meth : Method} {c : Code} {H : Heap} {locs : List Loc} {cells slots : Nat} {Q : State → Prop} {D : va_G} {cA : Nat → ClassId} {cc : ByteArray} {own : String} {nL : Nat} {pc : Nat} {ls : Array Slot} {st : List Value} {h : Hp}
    {idx idx2 ci' n' d mc' ms' N' b' : Nat} {y : MethodName} {cc' : ByteArray} {nL' : Nat} (X : va_W) (hx : p.tables.exec = Jvm.exec) (hb : c.code = cc) (hml : c.maxLocals = nL) (hown : s.vm.findClass own = some mm.cls) (hts : ∀ w ∈ GT, w.before args s = true) (hN : ∀ w ∈ NW, va_Nw w s) (hK : va_K D vwCl (tysW cA) s) (hAO : va_AOI s) (P : va_P D vwCl X H) (Dj : va_D (fun q => s.heap.size ≤ q) X) (S : va_S (fun q => s.heap.size ≤ q) s.heap H locs) (hls : ls.size = nL) (hd1 : decode cc pc = .ok (.new idx, 3)) (hd2 : decode cc (pc + 3) = .ok (.dup, 1)) (hd3 : decode cc (pc + 3 + 1) = .ok (.invokespecial idx2, 3)) (hC : CLs own idx ci') (hN' : (fkL.getD ci' []).length = N') (hs : SIw own idx2 y cc' nL') (hM : ∀ q sz, CI l D cA d mc' ms' y cc' nL' q sz b' ci' n' h) (hR : (rmc d mc' ms').frames + 1 ≤ R.frames ∧ 8 + (nL' + 11) + (rmc d mc' ms').locals ≤ R.locals) (hcells : cells + 1 + mc' ≤ R.cells) (hslots : slots + N' + ms' ≤ R.slots) (hst : (st.map fun v => v.category).sum ≤ 7)
    (k : ∀ (ad1 : Nat → Nat) (H1 : Heap) (locs1 : List Loc), va_P D vwCl (X ++ WdA ad1 cA h b' n') H1 → va_D (fun q => s.heap.size ≤ q) (X ++ WdA ad1 cA h b' n') → va_S (fun q => s.heap.size ≤ q) s.heap H1 locs1 → W p l e R s mm args below meth c H1 locs1 (cells + 1 + mc') (slots + N' + ms') Q (F0 mm (pc + 3 + 1 + 3) ls (.ref (ad1 b') :: st))) : W p l e R s mm args below meth c H locs cells slots Q (F0 mm pc ls st) := by
  obtain ⟨⟨C, T, N⟩, ty0, c1, c2, c3, c4, c5, c6, c7, c8⟩ := hC
  obtain ⟨w1, w2, w3, w4, w5, w6⟩ := hs
  have hNe : N = N' := c8.trans hN'
  subst hNe
  refine va_new (ci := ci') (fs := dfl ci') hx hb hts c2 ty0 c3 hown (hts _ c4) (hts _ c5) (hts _ c6) hK P Dj S (fun q h => h) c1 c7 (by omega) (by omega) hd1 (fun q H1 P1 D1 S1 => ?_)
  refine lv_dup hx hb hd2 rfl ?_
  have hq1 : va_P D vwCl [(q, .inr (ci', dfl ci'))] H1 := fun k9 x hx => by
    have h9 : k9 < 1 := (List.getElem?_eq_some_iff.mp hx).1
    rw [show k9 = 0 by omega] at hx
    cases hx
    exact P1 X.length _ (by rw [List.getElem?_append_right (Nat.le_refl _), Nat.sub_self]; rfl)
  have hPre : PreS s H1 (va_Pc [.ref q] (PcI D cA q H1.size ci')) (.ref q :: []) := ⟨PcI_blind, fun U hU hW => ⟨rfl, by rw [hU], by rw [hU]; exact hq1, va_K.moved hW.alike hK, NW_moved hW hN, va_AOI.moved hW.alike hAO⟩⟩
  have hst8 : ((Value.ref q :: st).map fun v => v.category).sum ≤ 8 := by
    rw [List.map_cons, List.sum_cons]
    show 1 + _ ≤ 8
    omega
  have hr : va_Run p l e R s mm args below meth c H1 locs (cells + 1) (slots + N) mc' ms' (F0 mm (pc + 3 + 1) ls (.ref q :: .ref q :: st)) (.ref q :: st) (QI D cA q H1.size b' n' h (Value.ref q :: []).toArray) (Fr q H1.size) := by
    rcases w1 with w1 | ⟨host, w1⟩
    · exact va_runI (As := []) (rest := .ref q :: st) (n := 0) ⟨hx, hb, hml, hown, hts⟩ (hM q H1.size) ⟨callB_of 0 hts (GT_code (fun _ h => h) w4) rfl rfl rfl (hts _ w3) (hts _ w1) w6 hR, w5, hts _ w2⟩ hPre rfl rfl hls rfl (lv_room hst8) hd3 ⟨by omega, by omega⟩
    · exact va_runIN (As := []) (rest := .ref q :: st) (n := 0) (host := host) ⟨hx, hb, hml, hown, hts⟩ (hM q H1.size) ⟨va_cnB 0 hts (GT_code (fun _ h => h) w4) rfl rfl rfl (hN _ w1) (hts _ w3) w6 hR, w5, hts _ w2⟩ hPre rfl rfl hls rfl (lv_room hst8) hd3 ⟨by omega, by omega⟩
  intro T1 hT X1
  obtain ⟨v', st₀, t, T', L, e0, X', hL, e1, e2, ⟨hv, ⟨ad1, hq, hP2, hD2⟩, hz, hk⟩, sg⟩ := hr T1 hT X1
  cases hv
  rw [e0] at hz hk
  have hqA : s.heap.size ≤ q := D1.2 _ _ (show (X ++ [(q, .inr (ci', dfl ci'))])[X.length]? = some (q, .inr (ci', dfl ci')) by rw [List.getElem?_append_right (Nat.le_refl _), Nat.sub_self]; rfl)
  have hlt0 : ∀ (i : Nat) (x : Nat × va_E), X[i]? = some x → x.1 < H1.size ∧ x.1 ≠ q := fun i x hx => by
    have hil : i < X.length := (List.getElem?_eq_some_iff.mp hx).1
    have h9 : (X ++ [(q, .inr (ci', dfl ci'))])[i]? = some x := by rw [List.getElem?_append_left hil]; exact hx
    refine ⟨(P1 i x h9).lt, fun hxq => ?_⟩
    have h8 := D1.1 i X.length x (q, .inr (ci', dfl ci')) h9 (by rw [List.getElem?_append_right (Nat.le_refl _), Nat.sub_self]; rfl) hxq
    omega
  have P3 : va_P D vwCl (X ++ WdA ad1 cA h b' n') T'.heap := va_P.app (fun i x hx => by
    have h7 := hlt0 i x hx
    have hil : i < X.length := (List.getElem?_eq_some_iff.mp hx).1
    have h9 : (X ++ [(q, .inr (ci', dfl ci'))])[i]? = some x := by rw [List.getElem?_append_left hil]; exact hx
    exact (P1 i x h9).kept (by rw [e1]; exact hk x.1 h7.1 (fun z => by rcases z with z | z <;> omega))) (by rw [e1]; exact hP2)
  have D3 : va_D (fun q => s.heap.size ≤ q) (X ++ WdA ad1 cA h b' n') := by
    refine va_D.app Dj (hD2.weaken (fun i x hx hf => ?_)) (fun i j x y hx hy hxy => ?_)
    · have h5 := S1.1
      rcases hf with hf | hf
      · show s.heap.size ≤ x.1
        omega
      · show s.heap.size ≤ x.1
        omega
    · have h7 := hlt0 i x hx
      rcases hD2.2 j y hy with z | z <;> omega
  have S3 : va_S (fun q => s.heap.size ≤ q) s.heap T'.heap (locs ++ L) := ⟨Nat.le_trans S1.1 (by rw [e1]; exact hz), fun x h1 h2 => by
      have h3 : x < H1.size := Nat.lt_of_lt_of_le h1 S1.1
      rw [e1, hk x h3 (fun z => by rcases z with z | z <;> omega)]
      exact S1.2.1 x h1 h2, fun x hx => by
      have h5 := S1.1
      rcases List.mem_append.mp hx with z | z
      · exact S1.2.2 x z
      · show s.heap.size ≤ x.base
        rcases hL x z with z | z <;> omega⟩
  obtain ⟨t2, a1, b1⟩ := k ad1 T'.heap (locs ++ L) P3 D3 S3 T' rfl X'
  refine ⟨t2, sg t2 ?_, b1⟩
  rw [hq]
  exact a1
theorem arrK {s : State} {args : Array Value} {ty : FieldType} (hty : ∀ C, ty ≠ .object C) (h : (Cond.arrayClass ty).before args s = true) : ∃ c, ArrOfT s c ty ∧ va_RA s c ty := by
  obtain ⟨c, k, comp, h1, h2, h3⟩ := Cond.arrayClass_spec h
  refine ⟨c, fun n z => ⟨fun k h => (by cases h), k, h2, comp, h3⟩, ?_⟩
  cases ty with
  | object C => exact absurd rfl (hty C)
  | _ => exact h1
theorem arrKK {s : State} (h : va_AOI s) : ∃ c, ArrOfT s c (.array .int) ∧ va_RA s c (.array .int) := by
  obtain ⟨comp, c, k, h1, h2, h3, h4, h5⟩ := Jvm.Stand.arrayOver_specB h
  exact ⟨c, fun n z => ⟨fun k h => (by cases h), k, h3, comp, h4⟩, h5⟩
def lw_At (p : Program) (s : State) (m : MethodId) (meth : Method) (c : Code) (b L : Nat) (xs : Nat → Int32) : Prop :=
  p.tables.exec = Jvm.exec ∧ c.code = code ∧ meth.sig.returnType = ret ∧ c.maxLocals = 4 ∧ s.vm.findClass RL = some m.cls ∧ (∀ w ∈ lw_tbl, w.before #[Value.ref b] s = true) ∧ va_X b L xs s s.heap ∧ b < s.heap.size ∧ meth.locks = false ∧ (Jvm.Cond.and given_1 narrow_1).before #[Value.ref b] s = true
