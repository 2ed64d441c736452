def comb (ad ad1 : Nat → Nat) (b n : Nat) : Nat → Nat := fun k => if b ≤ k ∧ k < b + n then ad1 k else ad k
theorem comb_in {ad ad1 : Nat → Nat} {b n k : Nat} (h1 : b ≤ k) (h2 : k < b + n) : comb ad ad1 b n k = ad1 k := if_pos ⟨h1, h2⟩
theorem comb_out {ad ad1 : Nat → Nat} {b n k : Nat} (h : ¬ (b ≤ k ∧ k < b + n)) : comb ad ad1 b n k = ad k := if_neg h
/-- the words of 'new' of class ci at a site -/
def CLs (own : String) (idx ci : Nat) : Prop := ∃ (q : vw_C) (ty0 : Nat → FieldType), vwCl[ci]? = some q ∧ (∀ w ∈ u_ws q.1 q.2.1 q.2.2, w ∈ GT) ∧ (∀ k, k < q.2.2 → parseFieldDescriptor (q.2.1 k).2.2.1 = some (ty0 k)) ∧ Cond.classLink own idx q.1 ∈ GT ∧ Cond.instantiable q.1 q.2.2 ∈ GT ∧ Cond.initialized q.1 ∈ GT ∧ (∀ j, j < q.2.2 → defaultValue (ty0 j) = vp_V (dfl ci) j) ∧ q.2.2 = (fkL.getD ci []).length
def SIw (own : String) (idx : Nat) (y : MethodName) (cc' : ByteArray) (nL' : Nat) : Prop := (Cond.methodLink own idx y ∈ GT ∨ ∃ host, Cond.methodLinkNest own idx y host ∈ NW) ∧ Cond.instanceMethod y ∈ GT ∧ Cond.initialized y.cls ∈ GT ∧ Cond.code y cc' nL' none ∈ GT ∧ y.name = "<init>" ∧ (y.cls ≠ "java/lang/invoke/MethodHandle" ∧ y.cls ≠ "java/lang/invoke/VarHandle" ∧ (parseMethodDescriptor y.desc).map (fun d => d.parameters.length) = some 0)
theorem PcI_blind {D : va_G} {cA : Nat → ClassId} {a sz ci : Nat} {av : List Value} : FrameBlind (va_Pc av (PcI D cA a sz ci)) := fun x U g mk q => by
  obtain ⟨q0, q1, q2, q3, q4, q5⟩ := q
  exact ⟨q0, q1, q2, va_K.moved (u := U) (U := U.calling g mk x) (Vm.Alike.refl U.vm) q3, NW_same (s := U) rfl q4, va_AOI.moved (u := U) (U := U.calling g mk x) (Vm.Alike.refl U.vm) q5⟩
set_option maxHeartbeats 4000000 in
/-- new, dup, invokespecial: a finished block comes behind the world -/
theorem n_new3 {l : Launch} {D : va_G} {cA : Nat → ClassId} {R : Room} {Qf : List Frame → Array Value → State → State → Prop} {a b ci : Nat} {cc : ByteArray} {own : String} {nL : Nat} {pc : Nat} {lv : List (Nat × Value)} {st : List Value} {fs : List Value} {m : Nat} {ad : Nat → Nat} {h : Hp} {cells slots : Nat}
    {idx idx2 ci' n' d mc' ms' MC MS N' b' : Nat} {y : MethodName} {cc' : ByteArray} {nL' : Nat} (hb' : b' = b + 1 + m) (hd1 : decode cc pc = .ok (.new idx, 3)) (hd2 : decode cc (pc + 3) = .ok (.dup, 1)) (hd3 : decode cc (pc + 3 + 1) = .ok (.invokespecial idx2, 3)) (hC : CLs own idx ci') (hN' : (fkL.getD ci' []).length = N') (hs : SIw own idx2 y cc' nL') (hM : ∀ q sz, CI l D cA d mc' ms' y cc' nL' q sz b' ci' n' h) (hR : R = rmc (d + 1) MC MS) (hm : nL' ≤ 45) (hcells : cells + 1 + mc' ≤ MC) (hslots : slots + N' + ms' ≤ MS) (hst : (st.map fun v => v.category).sum ≤ 7) (hcb : closedB (b + 1) m = true) (hcb' : closedB b' n' = true)
    (k : ∀ ad1 : Nat → Nat, JN l D cA R Qf a b ci cc own nL (pc + 3 + 1 + 3) lv (.ref (ad1 b') :: st) fs (m + n') (comb ad ad1 b' n') h (cells + 1 + mc') (slots + N' + ms')) : JN l D cA R Qf a b ci cc own nL pc lv st fs m ad h cells slots := by
  subst hb'
  obtain ⟨⟨C, T, N⟩, ty0, c1, c2, c3, c4, c5, c6, c7, c8⟩ := hC
  obtain ⟨w1, w2, w3, w4, w5, w6⟩ := hs
  intro p e s mm args below meth c H locs ls A P Dj S V
  have hts := A.2.2.2.2.2.2.1
  have hK := A.2.2.2.2.2.2.2.2.1
  have hNe : N = N' := c8.trans hN'
  subst hNe
  subst hR
  refine va_new (ci := ci') (fs := dfl ci') A.1 A.2.1 hts c2 ty0 c3 A.2.2.2.2.2.1 (hts _ c4) (hts _ c5) (hts _ c6) hK P Dj S (fun q h => Fr_up h) c1 c7 (by show cells + 1 ≤ MC; omega) (by show slots + N ≤ MS; omega) hd1 (fun q H1 P1 D1 S1 => ?_)
  refine lv_dup A.1 A.2.1 hd2 rfl ?_
  have hq1 : va_P D vwCl [(q, .inr (ci', dfl ci'))] H1 := fun k9 x hx => by
    have h9 : k9 < 1 := (List.getElem?_eq_some_iff.mp hx).1
    rw [show k9 = 0 by omega] at hx
    cases hx
    exact P1 (((a, .inr (ci, fs)) :: WdA ad cA h (b + 1) m).length) _ (by rw [List.getElem?_append_right (Nat.le_refl _), Nat.sub_self]; rfl)
  have hPre : PreS s H1 (va_Pc [.ref q] (PcI D cA q H1.size ci')) (.ref q :: []) := ⟨PcI_blind, fun U hU hW => ⟨rfl, by rw [hU], by rw [hU]; exact hq1, va_K.moved hW.alike hK, NW_moved hW A.2.2.2.2.2.2.2.1, va_AOI.moved hW.alike A.2.2.2.2.2.2.2.2.2.2⟩⟩
  have hRm : (rmc d mc' ms').frames + 1 ≤ (rmc (d + 1) MC MS).frames ∧ 8 + (nL' + 11) + (rmc d mc' ms').locals ≤ (rmc (d + 1) MC MS).locals := ⟨Nat.le_refl _, by show 8 + (nL' + 11) + 64 * d ≤ 64 * (d + 1); omega⟩
  have hst8 : ((Value.ref q :: st).map fun v => v.category).sum ≤ 8 := by
    rw [List.map_cons, List.sum_cons]
    show 1 + _ ≤ 8
    omega
  have hr : va_Run p l e (rmc (d + 1) MC MS) s mm args below meth c H1 locs (cells + 1) (slots + N) mc' ms' (F0 mm (pc + 3 + 1) ls (.ref q :: .ref q :: st)) (.ref q :: st) (QI D cA q H1.size (b + 1 + m) n' h (Value.ref q :: []).toArray) (Fr q H1.size) := by
    rcases w1 with w1 | ⟨host, w1⟩
    · exact va_runI (As := []) (rest := .ref q :: st) (n := 0) ⟨A.1, A.2.1, A.2.2.1, A.2.2.2.2.2.1, hts⟩ (hM q H1.size) ⟨callB_of 0 hts (GT_code (fun _ h => h) w4) rfl rfl rfl (hts _ w3) (hts _ w1) w6 hRm, w5, hts _ w2⟩ hPre rfl rfl V.1 rfl (lv_room hst8) hd3 ⟨by show cells + 1 + mc' ≤ MC; omega, by show slots + N + ms' ≤ MS; omega⟩
    · exact va_runIN (As := []) (rest := .ref q :: st) (n := 0) (host := host) ⟨A.1, A.2.1, A.2.2.1, A.2.2.2.2.2.1, hts⟩ (hM q H1.size) ⟨va_cnB 0 hts (GT_code (fun _ h => h) w4) rfl rfl rfl (A.2.2.2.2.2.2.2.1 _ w1) (hts _ w3) w6 hRm, w5, hts _ w2⟩ hPre rfl rfl V.1 rfl (lv_room hst8) hd3 ⟨by show cells + 1 + mc' ≤ MC; omega, by show slots + N + ms' ≤ MS; omega⟩
  intro T1 hT X
  obtain ⟨v', st₀, t, T', L, e0, X', hL, e1, e2, ⟨hv, ⟨ad1, hq, hP2, hD2⟩, hz, hk⟩, sg⟩ := hr T1 hT X
  cases hv
  rw [e0] at hz hk
  have hlt0 : ∀ (i : Nat) (x : Nat × va_E), ((a, .inr (ci, fs)) :: WdA ad cA h (b + 1) m)[i]? = some x → x.1 < H1.size ∧ x.1 ≠ q := fun i x hx => by
    have hil : i < ((a, .inr (ci, fs)) :: WdA ad cA h (b + 1) m).length := (List.getElem?_eq_some_iff.mp hx).1
    have h9 : (((a, .inr (ci, fs)) :: WdA ad cA h (b + 1) m) ++ [(q, .inr (ci', dfl ci'))])[i]? = some x := by rw [List.getElem?_append_left hil]; exact hx
    refine ⟨(P1 i x h9).lt, fun hxq => ?_⟩
    have h8 := D1.1 i (((a, .inr (ci, fs)) :: WdA ad cA h (b + 1) m).length) x (q, .inr (ci', dfl ci')) h9 (by rw [List.getElem?_append_right (Nat.le_refl _), Nat.sub_self]; rfl) hxq
    omega
  have P3 : va_P D vwCl (((a, .inr (ci, fs)) :: WdA ad cA h (b + 1) m) ++ WdA ad1 cA h (b + 1 + m) n') T'.heap := va_P.app (fun i x hx => by
    have h7 := hlt0 i x hx
    have hil : i < ((a, .inr (ci, fs)) :: WdA ad cA h (b + 1) m).length := (List.getElem?_eq_some_iff.mp hx).1
    have h9 : (((a, .inr (ci, fs)) :: WdA ad cA h (b + 1) m) ++ [(q, .inr (ci', dfl ci'))])[i]? = some x := by rw [List.getElem?_append_left hil]; exact hx
    exact (P1 i x h9).kept (by rw [e1]; exact hk x.1 h7.1 (fun z => by rcases z with z | z <;> omega))) (by rw [e1]; exact hP2)
  have D3 : va_D (Fr a s.heap.size) (((a, .inr (ci, fs)) :: WdA ad cA h (b + 1) m) ++ WdA ad1 cA h (b + 1 + m) n') := by
    refine va_D.app Dj (hD2.weaken (fun i x hx hf => ?_)) (fun i j x y hx hy hxy => ?_)
    · rcases hf with hf | hf
      · rw [hf]
        exact D1.2 _ _ (show (((a, .inr (ci, fs)) :: WdA ad cA h (b + 1) m) ++ [(q, .inr (ci', dfl ci'))])[((a, .inr (ci, fs)) :: WdA ad cA h (b + 1) m).length]? = some (q, .inr (ci', dfl ci')) by rw [List.getElem?_append_right (Nat.le_refl _), Nat.sub_self]; rfl)
      · exact Or.inr (Nat.le_trans S1.1 hf)
    · have h7 := hlt0 i x hx
      rcases hD2.2 j y hy with z | z <;> omega
  have eqW : ((a, .inr (ci, fs)) :: WdA ad cA h (b + 1) m) ++ WdA ad1 cA h (b + 1 + m) n' = (a, .inr (ci, fs)) :: WdA (comb ad ad1 (b + 1 + m) n') cA h (b + 1) (m + n') := by
    rw [List.cons_append, ← WdA_app]
    congr 1
    congr 1
    · exact (WdA_congr hcb (fun _ _ _ => rfl) (fun _ _ _ => rfl) (fun i h1 h2 => comb_out (by omega))).symm
    · exact (WdA_congr hcb' (fun _ _ _ => rfl) (fun _ _ _ => rfl) (fun i h1 h2 => comb_in h1 h2)).symm
  rw [eqW] at P3 D3
  have S3 : va_S (Fr a s.heap.size) s.heap T'.heap (locs ++ L) := ⟨Nat.le_trans S1.1 (by rw [e1]; exact hz), fun x h1 h2 => by
      have h3 : x < H1.size := Nat.lt_of_lt_of_le h1 S1.1
      rw [e1, hk x h3 (fun z => by
        rcases z with z | z
        · have h4 := D1.2 _ _ (show (((a, .inr (ci, fs)) :: WdA ad cA h (b + 1) m) ++ [(q, .inr (ci', dfl ci'))])[((a, .inr (ci, fs)) :: WdA ad cA h (b + 1) m).length]? = some (q, .inr (ci', dfl ci')) by rw [List.getElem?_append_right (Nat.le_refl _), Nat.sub_self]; rfl)
          exact h2 (by rw [z]; exact h4)
        · omega)]
      exact S1.2.1 x h1 h2, fun x hx => by
      rcases List.mem_append.mp hx with z | z
      · exact S1.2.2 x z
      · rcases hL x z with z | z
        · have h4 := D1.2 _ _ (show (((a, .inr (ci, fs)) :: WdA ad cA h (b + 1) m) ++ [(q, .inr (ci', dfl ci'))])[((a, .inr (ci, fs)) :: WdA ad cA h (b + 1) m).length]? = some (q, .inr (ci', dfl ci')) by rw [List.getElem?_append_right (Nat.le_refl _), Nat.sub_self]; rfl)
          rw [z]
          exact h4
        · exact Or.inr (Nat.le_trans S1.1 z)⟩
  obtain ⟨t2, a1, b1⟩ := k ad1 p e s mm args below meth c T'.heap (locs ++ L) ls A P3 D3 S3 V T' rfl X'
  refine ⟨t2, sg t2 ?_, b1⟩
  rw [hq]
  exact a1
