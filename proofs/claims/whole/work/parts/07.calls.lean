section JC
variable {l : Launch} {D : va_G} {ad : Nat → Nat} {cA : Nat → ClassId} {E : State → Prop} {R : Room} {cs : Nat × Nat} {Qf : List Frame → Array Value → State → State → Prop} {cc : ByteArray} {own : String} {nL : Nat} {ret : Option FieldType} {pc : Nat} {lv : List (Nat × Value)} {st : List Value} {h : Hp} {α : Type} {o : α}
theorem PcS_blind {av : List Value} : FrameBlind (va_Pc av (PcS D ad cA h)) := fun a U g mk q => by
  obtain ⟨q0, q1, q2, q3, q4⟩ := q
  exact ⟨q0, q1, va_K.moved (u := U) (U := U.calling g mk a) (Vm.Alike.refl U.vm) q2, NW_same (s := U) rfl q3, q4⟩
theorem PcS_of {s U : State} {H : Heap} (hU : U.heap = H) (hW : s.WarmedH U.vm) (hP : va_P D vwCl (Wd ad cA h) H) (hK : va_K D vwCl (tysW cA) s) (hN : ∀ w ∈ NW, va_Nw w s) (hi : Inj ad) : PcS D ad cA h U := ⟨by rw [hU]; exact hP, va_K.moved hW.alike hK, NW_moved hW hN, hi⟩
/-- a method's contract, out of its body -/
theorem Cr_of {d : Nat} {y : MethodName} {av : List Value} {v : Option Value} {h' : Hp} {lv0 : List (Nat × Value)} (hy : plainName y.cls = true) (ho : y.cls = own) (hn : (lg_sl av).length ≤ nL) (hl : lv_args 0 av = lv0) (k : J l D ad cA (fun _ => True) (rmd d) (0, 0) (mQ D ad cA v h') cc own nL ret 0 lv0 [] h) : Cr l D ad cA d y cc nL ret av h v h' := by
  refine Met.ofW (cc := cc) (maxL := nL) (ret := ret) hy rfl ?_
  intro p e s m args below meth c s₁ B hml hv
  obtain ⟨rfl, hP, hK, hN, hi⟩ := hv
  have hts := atoms_spec (ws := Cond.code y cc nL ret :: GT) B.pre
  have V := lv_entry av (n := nL) hn
  rw [lg_entry_eq]
  rw [hl] at V
  subst ho
  exact k p e s m av.toArray below meth c s.heap [] _ ⟨B.exec, B.bytes, hml, B.returns, B.notSynchronized, findClass_of_methodNamed B.named, fun w hw => hts w (List.mem_cons_of_mem _ hw), hN, hK, hi, trivial⟩ hP va_S.rf V
theorem j_iret {x : Int32} {o : Int32 × Hp} (hd : decode cc pc = .ok (.ireturn, 1)) (hr : ret = some .int) (hf : some (x, h) = some o) : (J l D ad cA (E) (R) ((0, 0)) (mQ D ad cA (some (.int o.1)) o.2) cc own nL ret (pc) (lv) ([.int x]) (h)) := by
  cases hf
  exact fun p e s m args below meth c H locs ls A P S V => W.iret (v := x) A.1 A.2.1 (by rw [A.2.2.2.1, hr]) (fun t ht hW => ⟨rfl, by rw [ht]; exact P, S.F ht⟩) S.2.2 hd A.2.2.2.2.1
theorem j_lret {x : Int64} {o : Int64 × Hp} (hd : decode cc pc = .ok (.lreturn, 1)) (hr : ret = some .long) (hf : some (x, h) = some o) : (J l D ad cA (E) (R) ((0, 0)) (mQ D ad cA (some (.long o.1)) o.2) cc own nL ret (pc) (lv) ([.long x]) (h)) := by
  cases hf
  exact fun p e s m args below meth c H locs ls A P S V => W.lret (v := x) A.1 A.2.1 (by rw [A.2.2.2.1, hr]) (fun t ht hW => ⟨rfl, by rw [ht]; exact P, S.F ht⟩) S.2.2 hd A.2.2.2.2.1
theorem j_vret {o : Unit × Hp} (hd : decode cc pc = .ok (.return_, 1)) (hr : ret = none) (hf : some ((), h) = some o) : (J l D ad cA (E) (R) ((0, 0)) (mQ D ad cA none o.2) cc own nL ret (pc) (lv) ([]) (h)) := by
  cases hf
  exact fun p e s m args below meth c H locs ls A P S V => W.vret A.1 A.2.1 (by rw [A.2.2.2.1, hr]) (fun t ht hW => ⟨rfl, by rw [ht]; exact P, S.F ht⟩) S.2.2 hd A.2.2.2.2.1
def lp {F : Type} (bot : F) (G : F → F) : Nat → F
  | 0 => bot
  | n + 1 => G (lp bot G n)
theorem tsw {x : Int32} {lo hi : Nat} (hh : hi + 1 < 2 ^ 31) (h : ∀ j : Nat, lo ≤ j → j ≤ hi → ¬ x = nI j) : x.toInt < lo ∨ hi < x.toInt := by
  by_cases h1 : x.toInt < lo
  · exact Or.inl h1
  · by_cases h2 : (hi : Int) < x.toInt
    · exact Or.inr h2
    · exfalso
      have h3 : vp_in x (hi + 1) := vp_in_iff.mpr ⟨by omega, by omega⟩
      obtain ⟨j, hj, rfl⟩ := vp_in_of h3 (by omega)
      rw [nI_toInt (by omega)] at h1 h2
      exact h j (by omega) (by omega) rfl
def isB (x : Int32) : Bool := decide (x = 0) || decide (x = 1)
theorem isB_of {x : Int32} (h : isB x = true) : x = 0 ∨ x = 1 := by
  unfold isB at h
  simpa using h
theorem j_zret {x : Int32} {o : Int32 × Hp} (hd : decode cc pc = .ok (.ireturn, 1)) (hr : ret = some .boolean) (hf : (if isB x = true then some (x, h) else none) = some o) : (J l D ad cA (E) (R) ((0, 0)) (mQ D ad cA (some (.int o.1)) o.2) cc own nL ret (pc) (lv) ([.int x]) (h)) := by
  obtain ⟨hb, hf⟩ := ite_some hf
  have hb := isB_of hb
  cases hf
  exact fun p e s m args below meth c H locs ls A P S V => W.zret (v := x) (ty := .boolean) A.1 A.2.1 (by rw [A.2.2.2.1, hr]) (by rcases hb with rfl | rfl <;> rfl) (fun t ht hW => ⟨rfl, by rw [ht]; exact P, S.F ht⟩) S.2.2 hd A.2.2.2.2.1
theorem j_after {p : Program} {e : Env} {s : State} {m : MethodId} {args : Array Value} {below : List Frame} {meth : Method} {c : Code} {H : Heap} {locs : List Loc} {ls : Array Slot} {st0 : List Value} {a : Array Value} {v : Option Value} {h' : Hp} (hr : va_Run p l e R s m args below meth c H locs cs.1 cs.2 0 0 (F0 m pc ls st0) st (Qr D ad cA v h' a) (Ar ad)) (S : va_S (Ar ad) s.heap H locs) (A : Amb D ad cA E cc own nL ret p s m args meth c) (V : lv_has ls nL lv) (k : (J l D ad cA (E) (R) (cs) (Qf) cc own nL ret (pc + 3) (lv) (v.toList ++ st) (h'))) : W p l e R s m args below meth c H locs cs.1 cs.2 (Qf below args s) (F0 m pc ls st0) := by
  intro T hT X
  obtain ⟨v', st₀, t, T', L, h0, X', hL, e1, e2, ⟨hv, hP, hz, hk⟩, sg⟩ := hr T hT X
  cases hv
  rw [h0] at hz hk
  have S' : va_S (Ar ad) s.heap T'.heap (locs ++ L) := ⟨Nat.le_trans S.1 (by rw [e1]; exact hz), fun q h1 h2 => by rw [e1, hk q (Nat.lt_of_lt_of_le h1 S.1) h2]; exact S.2.1 q h1 h2, fun q hq => by
      rcases List.mem_append.mp hq with h | h
      · exact S.2.2 q h
      · exact hL q h⟩
  obtain ⟨t2, a1, b1⟩ := k p e s m args below meth c T'.heap (locs ++ L) ls A (by rw [e1]; exact hP) S' V T' rfl X'
  exact ⟨t2, sg t2 a1, b1⟩
/-- the words of a call's site -/
def SV (own : String) (idx ci : Nat) (y : MethodName) (cc' : ByteArray) (nL' : Nat) (ret' : Option FieldType) (n : Nat) : Prop := (∃ q : vw_C, vwCl[ci]? = some q ∧ q.1 = y.cls) ∧ Cond.methodLink own idx y ∈ GT ∧ Cond.instanceMethod y ∈ GT ∧ Cond.selects y.cls y y ∈ GT ∧ Cond.initialized y.cls ∈ GT ∧ Cond.code y cc' nL' ret' ∈ GT ∧ (y.cls ≠ "java/lang/invoke/MethodHandle" ∧ y.cls ≠ "java/lang/invoke/VarHandle" ∧ (parseMethodDescriptor y.desc).map (fun d => d.parameters.length) = some n)
def SS (own : String) (idx : Nat) (y : MethodName) (cc' : ByteArray) (nL' : Nat) (ret' : Option FieldType) (n : Nat) : Prop := Cond.methodLink own idx y ∈ GT ∧ Cond.static y ∈ GT ∧ Cond.initialized y.cls ∈ GT ∧ Cond.code y cc' nL' ret' ∈ GT ∧ (y.cls ≠ "java/lang/invoke/MethodHandle" ∧ y.cls ≠ "java/lang/invoke/VarHandle" ∧ (parseMethodDescriptor y.desc).map (fun d => d.parameters.length) = some n)
def SN (own : String) (idx : Nat) (y : MethodName) (cc' : ByteArray) (nL' : Nat) (ret' : Option FieldType) (n : Nat) : Prop := (∃ host, Cond.methodLinkNest own idx y host ∈ NW) ∧ Cond.static y ∈ GT ∧ Cond.initialized y.cls ∈ GT ∧ Cond.code y cc' nL' ret' ∈ GT ∧ (y.cls ≠ "java/lang/invoke/MethodHandle" ∧ y.cls ≠ "java/lang/invoke/VarHandle" ∧ (parseMethodDescriptor y.desc).map (fun d => d.parameters.length) = some n)
theorem g_V {idx ci : Nat} {y : MethodName} {cc' : ByteArray} {nL' n : Nat} {ret' : Option FieldType} {d a : Nat} {As : List Value} {v : Option Value} {h' : Hp} (hd : decode cc pc = .ok (.invokevirtual idx, 3)) (hs : SV own idx ci y cc' nL' ret' n) (hk : kd a = ci) (hc : ci < 10) (hn : As.length = n) (hst : (st.map fun v => v.category).sum ≤ 8) (hR : (rmd d).frames + 1 ≤ R.frames ∧ 8 + (nL' + 11) + (rmd d).locals ≤ R.locals) (hro : cs.1 ≤ R.cells ∧ cs.2 ≤ R.slots) (hM : Cr l D ad cA d y cc' nL' ret' (.ref (ad a) :: As) h v h') (k : (J l D ad cA (E) (R) (cs) (Qf) cc own nL ret (pc + 3) (lv) (v.toList ++ st) (h'))) : (J l D ad cA (E) (R) (cs) (Qf) cc own nL ret (pc) (lv) (As.reverse ++ .ref (ad a) :: st) (h)) := by
  obtain ⟨⟨q, hq, hqc⟩, w1, w2, w3, w4, w5, w6⟩ := hs
  refine fun p e s m args below meth c H locs ls A P S V => ?_
  have hts := A.2.2.2.2.2.2.1
  have hK := A.2.2.2.2.2.2.2.2.1
  refine j_after (va_runV (As := As) (rest := st) (b := ad a) (C := y.cls) (n := n) ⟨A.1, A.2.1, A.2.2.1, A.2.2.2.2.2.1, hts⟩ hM ⟨callB_of n hts (GT_code (fun _ h => h) w5) rfl rfl rfl (hts _ w4) (hts _ w1) w6 hR, hts _ w2, hts _ w3⟩ ⟨PcS_blind, ?_, fun U hU hW => ⟨rfl, PcS_of hU hW P hK A.2.2.2.2.2.2.2.1 A.2.2.2.2.2.2.2.2.2.1⟩⟩ rfl hn V.1 rfl (lv_room hst) hd ⟨hro.1, hro.2⟩) S A V k
  have hr := va_recv hK P (q0 := a) (ci := ci) hq (by rw [Wd_at (kd_lt hk (by omega)), cell_obj hk hc])
  rw [hqc] at hr
  exact hr
theorem g_S {idx : Nat} {y : MethodName} {cc' : ByteArray} {nL' n : Nat} {ret' : Option FieldType} {d : Nat} {As : List Value} {v : Option Value} {h' : Hp} (hd : decode cc pc = .ok (.invokestatic idx, 3)) (hs : SS own idx y cc' nL' ret' n) (hn : As.length = n) (hst : (st.map fun v => v.category).sum ≤ 8) (hR : (rmd d).frames + 1 ≤ R.frames ∧ 8 + (nL' + 11) + (rmd d).locals ≤ R.locals) (hro : cs.1 ≤ R.cells ∧ cs.2 ≤ R.slots) (hM : Cr l D ad cA d y cc' nL' ret' As h v h') (k : (J l D ad cA (E) (R) (cs) (Qf) cc own nL ret (pc + 3) (lv) (v.toList ++ st) (h'))) : (J l D ad cA (E) (R) (cs) (Qf) cc own nL ret (pc) (lv) (As.reverse ++ st) (h)) := by
  obtain ⟨w1, w2, w4, w5, w6⟩ := hs
  refine fun p e s m args below meth c H locs ls A P S V => ?_
  have hts := A.2.2.2.2.2.2.1
  have hK := A.2.2.2.2.2.2.2.2.1
  exact j_after (va_runS (As := As) (rest := st) (n := n) ⟨A.1, A.2.1, A.2.2.1, A.2.2.2.2.2.1, hts⟩ hM ⟨callB_of n hts (GT_code (fun _ h => h) w5) rfl rfl rfl (hts _ w4) (hts _ w1) w6 hR, hts _ w2⟩ ⟨PcS_blind, fun U hU hW => ⟨rfl, PcS_of hU hW P hK A.2.2.2.2.2.2.2.1 A.2.2.2.2.2.2.2.2.2.1⟩⟩ rfl hn V.1 rfl (lv_room hst) hd ⟨hro.1, hro.2⟩) S A V k
theorem g_N {idx : Nat} {y : MethodName} {cc' : ByteArray} {nL' n : Nat} {ret' : Option FieldType} {d : Nat} {As : List Value} {v : Option Value} {h' : Hp} (hd : decode cc pc = .ok (.invokestatic idx, 3)) (hs : SN own idx y cc' nL' ret' n) (hn : As.length = n) (hst : (st.map fun v => v.category).sum ≤ 8) (hR : (rmd d).frames + 1 ≤ R.frames ∧ 8 + (nL' + 11) + (rmd d).locals ≤ R.locals) (hro : cs.1 ≤ R.cells ∧ cs.2 ≤ R.slots) (hM : Cr l D ad cA d y cc' nL' ret' As h v h') (k : (J l D ad cA (E) (R) (cs) (Qf) cc own nL ret (pc + 3) (lv) (v.toList ++ st) (h'))) : (J l D ad cA (E) (R) (cs) (Qf) cc own nL ret (pc) (lv) (As.reverse ++ st) (h)) := by
  obtain ⟨⟨host, w1⟩, w2, w4, w5, w6⟩ := hs
  refine fun p e s m args below meth c H locs ls A P S V => ?_
  have hts := A.2.2.2.2.2.2.1
  have hK := A.2.2.2.2.2.2.2.2.1
  exact j_after (va_runSN (As := As) (rest := st) (n := n) (host := host) ⟨A.1, A.2.1, A.2.2.1, A.2.2.2.2.2.1, hts⟩ hM ⟨va_cnB n hts (GT_code (fun _ h => h) w5) rfl rfl rfl (A.2.2.2.2.2.2.2.1 _ w1) (hts _ w4) w6 hR, hts _ w2, trivial⟩ ⟨PcS_blind, fun U hU hW => ⟨rfl, PcS_of hU hW P hK A.2.2.2.2.2.2.2.1 A.2.2.2.2.2.2.2.2.2.1⟩⟩ rfl hn V.1 rfl (lv_room hst) hd ⟨hro.1, hro.2⟩) S A V k
theorem j_callVi {idx ci : Nat} {y : MethodName} {cc' : ByteArray} {nL' n : Nat} {ret' : Option FieldType} {d a : Nat} {As sx : List Value} {f : Option (Int32 × Hp)} {g : Int32 × Hp → Option α} (hd : decode cc pc = .ok (.invokevirtual idx, 3)) (hs : SV own idx ci y cc' nL' ret' n) (hk : kd a = ci) (hc : ci < 10) (hn : As.length = n) (hx : As.reverse ++ .ref (ad a) :: st = sx) (hm : nL' ≤ 45) (hst : (st.map fun v => v.category).sum ≤ 8) (hM : ∀ q : Int32 × Hp, f = some q → Cr l D ad cA d y cc' nL' ret' (.ref (ad a) :: As) h (some (.int q.1)) q.2) (hf : f.bind g = some o) (k : ∀ q : Int32 × Hp, g q = some o → (J l D ad cA (E) (rmd (d + 1)) ((0, 0)) (Qf) cc own nL ret (pc + 3) (lv) (.int q.1 :: st) (q.2))) : (J l D ad cA (E) (rmd (d + 1)) ((0, 0)) (Qf) cc own nL ret (pc) (lv) (sx) (h)) := by
  obtain ⟨q, h1, h2⟩ := Option.bind_eq_some_iff.mp hf
  subst hx
  exact g_V hd hs hk hc hn hst (⟨Nat.le_refl _, by show 8 + (nL' + 11) + 64 * d ≤ 64 * (d + 1); omega⟩) ⟨Nat.le_refl _, Nat.le_refl _⟩ (hM q h1) (k q h2)
theorem j_callVl {idx ci : Nat} {y : MethodName} {cc' : ByteArray} {nL' n : Nat} {ret' : Option FieldType} {d a : Nat} {As sx : List Value} {f : Option (Int64 × Hp)} {g : Int64 × Hp → Option α} (hd : decode cc pc = .ok (.invokevirtual idx, 3)) (hs : SV own idx ci y cc' nL' ret' n) (hk : kd a = ci) (hc : ci < 10) (hn : As.length = n) (hx : As.reverse ++ .ref (ad a) :: st = sx) (hm : nL' ≤ 45) (hst : (st.map fun v => v.category).sum ≤ 8) (hM : ∀ q : Int64 × Hp, f = some q → Cr l D ad cA d y cc' nL' ret' (.ref (ad a) :: As) h (some (.long q.1)) q.2) (hf : f.bind g = some o) (k : ∀ q : Int64 × Hp, g q = some o → (J l D ad cA (E) (rmd (d + 1)) ((0, 0)) (Qf) cc own nL ret (pc + 3) (lv) (.long q.1 :: st) (q.2))) : (J l D ad cA (E) (rmd (d + 1)) ((0, 0)) (Qf) cc own nL ret (pc) (lv) (sx) (h)) := by
  obtain ⟨q, h1, h2⟩ := Option.bind_eq_some_iff.mp hf
  subst hx
  exact g_V hd hs hk hc hn hst (⟨Nat.le_refl _, by show 8 + (nL' + 11) + 64 * d ≤ 64 * (d + 1); omega⟩) ⟨Nat.le_refl _, Nat.le_refl _⟩ (hM q h1) (k q h2)
theorem j_callVv {idx ci : Nat} {y : MethodName} {cc' : ByteArray} {nL' n : Nat} {ret' : Option FieldType} {d a : Nat} {As sx : List Value} {f : Option (Unit × Hp)} {g : Unit × Hp → Option α} (hd : decode cc pc = .ok (.invokevirtual idx, 3)) (hs : SV own idx ci y cc' nL' ret' n) (hk : kd a = ci) (hc : ci < 10) (hn : As.length = n) (hx : As.reverse ++ .ref (ad a) :: st = sx) (hm : nL' ≤ 45) (hst : (st.map fun v => v.category).sum ≤ 8) (hM : ∀ q : Unit × Hp, f = some q → Cr l D ad cA d y cc' nL' ret' (.ref (ad a) :: As) h (none) q.2) (hf : f.bind g = some o) (k : ∀ q : Unit × Hp, g q = some o → (J l D ad cA (E) (rmd (d + 1)) ((0, 0)) (Qf) cc own nL ret (pc + 3) (lv) (st) (q.2))) : (J l D ad cA (E) (rmd (d + 1)) ((0, 0)) (Qf) cc own nL ret (pc) (lv) (sx) (h)) := by
  obtain ⟨q, h1, h2⟩ := Option.bind_eq_some_iff.mp hf
  subst hx
  exact g_V hd hs hk hc hn hst (⟨Nat.le_refl _, by show 8 + (nL' + 11) + 64 * d ≤ 64 * (d + 1); omega⟩) ⟨Nat.le_refl _, Nat.le_refl _⟩ (hM q h1) (k q h2)
theorem j_callSi {idx : Nat} {y : MethodName} {cc' : ByteArray} {nL' n : Nat} {ret' : Option FieldType} {d : Nat} {As sx : List Value} {f : Option (Int32 × Hp)} {g : Int32 × Hp → Option α} (hd : decode cc pc = .ok (.invokestatic idx, 3)) (hs : SS own idx y cc' nL' ret' n)  (hn : As.length = n) (hx : As.reverse ++ st = sx) (hm : nL' ≤ 45) (hst : (st.map fun v => v.category).sum ≤ 8) (hM : ∀ q : Int32 × Hp, f = some q → Cr l D ad cA d y cc' nL' ret' (As) h (some (.int q.1)) q.2) (hf : f.bind g = some o) (k : ∀ q : Int32 × Hp, g q = some o → (J l D ad cA (E) (rmd (d + 1)) ((0, 0)) (Qf) cc own nL ret (pc + 3) (lv) (.int q.1 :: st) (q.2))) : (J l D ad cA (E) (rmd (d + 1)) ((0, 0)) (Qf) cc own nL ret (pc) (lv) (sx) (h)) := by
  obtain ⟨q, h1, h2⟩ := Option.bind_eq_some_iff.mp hf
  subst hx
  exact g_S hd hs hn hst (⟨Nat.le_refl _, by show 8 + (nL' + 11) + 64 * d ≤ 64 * (d + 1); omega⟩) ⟨Nat.le_refl _, Nat.le_refl _⟩ (hM q h1) (k q h2)
theorem j_callSl {idx : Nat} {y : MethodName} {cc' : ByteArray} {nL' n : Nat} {ret' : Option FieldType} {d : Nat} {As sx : List Value} {f : Option (Int64 × Hp)} {g : Int64 × Hp → Option α} (hd : decode cc pc = .ok (.invokestatic idx, 3)) (hs : SS own idx y cc' nL' ret' n)  (hn : As.length = n) (hx : As.reverse ++ st = sx) (hm : nL' ≤ 45) (hst : (st.map fun v => v.category).sum ≤ 8) (hM : ∀ q : Int64 × Hp, f = some q → Cr l D ad cA d y cc' nL' ret' (As) h (some (.long q.1)) q.2) (hf : f.bind g = some o) (k : ∀ q : Int64 × Hp, g q = some o → (J l D ad cA (E) (rmd (d + 1)) ((0, 0)) (Qf) cc own nL ret (pc + 3) (lv) (.long q.1 :: st) (q.2))) : (J l D ad cA (E) (rmd (d + 1)) ((0, 0)) (Qf) cc own nL ret (pc) (lv) (sx) (h)) := by
  obtain ⟨q, h1, h2⟩ := Option.bind_eq_some_iff.mp hf
  subst hx
  exact g_S hd hs hn hst (⟨Nat.le_refl _, by show 8 + (nL' + 11) + 64 * d ≤ 64 * (d + 1); omega⟩) ⟨Nat.le_refl _, Nat.le_refl _⟩ (hM q h1) (k q h2)
theorem j_callSv {idx : Nat} {y : MethodName} {cc' : ByteArray} {nL' n : Nat} {ret' : Option FieldType} {d : Nat} {As sx : List Value} {f : Option (Unit × Hp)} {g : Unit × Hp → Option α} (hd : decode cc pc = .ok (.invokestatic idx, 3)) (hs : SS own idx y cc' nL' ret' n)  (hn : As.length = n) (hx : As.reverse ++ st = sx) (hm : nL' ≤ 45) (hst : (st.map fun v => v.category).sum ≤ 8) (hM : ∀ q : Unit × Hp, f = some q → Cr l D ad cA d y cc' nL' ret' (As) h (none) q.2) (hf : f.bind g = some o) (k : ∀ q : Unit × Hp, g q = some o → (J l D ad cA (E) (rmd (d + 1)) ((0, 0)) (Qf) cc own nL ret (pc + 3) (lv) (st) (q.2))) : (J l D ad cA (E) (rmd (d + 1)) ((0, 0)) (Qf) cc own nL ret (pc) (lv) (sx) (h)) := by
  obtain ⟨q, h1, h2⟩ := Option.bind_eq_some_iff.mp hf
  subst hx
  exact g_S hd hs hn hst (⟨Nat.le_refl _, by show 8 + (nL' + 11) + 64 * d ≤ 64 * (d + 1); omega⟩) ⟨Nat.le_refl _, Nat.le_refl _⟩ (hM q h1) (k q h2)
theorem j_callNi {idx : Nat} {y : MethodName} {cc' : ByteArray} {nL' n : Nat} {ret' : Option FieldType} {d : Nat} {As sx : List Value} {f : Option (Int32 × Hp)} {g : Int32 × Hp → Option α} (hd : decode cc pc = .ok (.invokestatic idx, 3)) (hs : SN own idx y cc' nL' ret' n)  (hn : As.length = n) (hx : As.reverse ++ st = sx) (hm : nL' ≤ 45) (hst : (st.map fun v => v.category).sum ≤ 8) (hM : ∀ q : Int32 × Hp, f = some q → Cr l D ad cA d y cc' nL' ret' (As) h (some (.int q.1)) q.2) (hf : f.bind g = some o) (k : ∀ q : Int32 × Hp, g q = some o → (J l D ad cA (E) (rmd (d + 1)) ((0, 0)) (Qf) cc own nL ret (pc + 3) (lv) (.int q.1 :: st) (q.2))) : (J l D ad cA (E) (rmd (d + 1)) ((0, 0)) (Qf) cc own nL ret (pc) (lv) (sx) (h)) := by
  obtain ⟨q, h1, h2⟩ := Option.bind_eq_some_iff.mp hf
  subst hx
  exact g_N hd hs hn hst (⟨Nat.le_refl _, by show 8 + (nL' + 11) + 64 * d ≤ 64 * (d + 1); omega⟩) ⟨Nat.le_refl _, Nat.le_refl _⟩ (hM q h1) (k q h2)
theorem j_callNl {idx : Nat} {y : MethodName} {cc' : ByteArray} {nL' n : Nat} {ret' : Option FieldType} {d : Nat} {As sx : List Value} {f : Option (Int64 × Hp)} {g : Int64 × Hp → Option α} (hd : decode cc pc = .ok (.invokestatic idx, 3)) (hs : SN own idx y cc' nL' ret' n)  (hn : As.length = n) (hx : As.reverse ++ st = sx) (hm : nL' ≤ 45) (hst : (st.map fun v => v.category).sum ≤ 8) (hM : ∀ q : Int64 × Hp, f = some q → Cr l D ad cA d y cc' nL' ret' (As) h (some (.long q.1)) q.2) (hf : f.bind g = some o) (k : ∀ q : Int64 × Hp, g q = some o → (J l D ad cA (E) (rmd (d + 1)) ((0, 0)) (Qf) cc own nL ret (pc + 3) (lv) (.long q.1 :: st) (q.2))) : (J l D ad cA (E) (rmd (d + 1)) ((0, 0)) (Qf) cc own nL ret (pc) (lv) (sx) (h)) := by
  obtain ⟨q, h1, h2⟩ := Option.bind_eq_some_iff.mp hf
  subst hx
  exact g_N hd hs hn hst (⟨Nat.le_refl _, by show 8 + (nL' + 11) + 64 * d ≤ 64 * (d + 1); omega⟩) ⟨Nat.le_refl _, Nat.le_refl _⟩ (hM q h1) (k q h2)
theorem j_callNv {idx : Nat} {y : MethodName} {cc' : ByteArray} {nL' n : Nat} {ret' : Option FieldType} {d : Nat} {As sx : List Value} {f : Option (Unit × Hp)} {g : Unit × Hp → Option α} (hd : decode cc pc = .ok (.invokestatic idx, 3)) (hs : SN own idx y cc' nL' ret' n)  (hn : As.length = n) (hx : As.reverse ++ st = sx) (hm : nL' ≤ 45) (hst : (st.map fun v => v.category).sum ≤ 8) (hM : ∀ q : Unit × Hp, f = some q → Cr l D ad cA d y cc' nL' ret' (As) h (none) q.2) (hf : f.bind g = some o) (k : ∀ q : Unit × Hp, g q = some o → (J l D ad cA (E) (rmd (d + 1)) ((0, 0)) (Qf) cc own nL ret (pc + 3) (lv) (st) (q.2))) : (J l D ad cA (E) (rmd (d + 1)) ((0, 0)) (Qf) cc own nL ret (pc) (lv) (sx) (h)) := by
  obtain ⟨q, h1, h2⟩ := Option.bind_eq_some_iff.mp hf
  subst hx
  exact g_N hd hs hn hst (⟨Nat.le_refl _, by show 8 + (nL' + 11) + 64 * d ≤ 64 * (d + 1); omega⟩) ⟨Nat.le_refl _, Nat.le_refl _⟩ (hM q h1) (k q h2)
theorem j_mmax {idx d : Nat} {x y : Int32} (hd : decode cc pc = .ok (.invokestatic idx, 3)) (hl : Cond.methodLink own idx Lib.Math.max.name ∈ GT) (hs : Cond.static Lib.Math.max.name ∈ GT) (hi : Cond.initialized "java/lang/Math" ∈ GT) (hc : Cond.code Lib.Math.max.name Lib.Math.max.code 2 (some .int) ∈ GT) (hst : (st.map fun v => v.category).sum ≤ 8) (k : (J l D ad cA (E) (rmd (d + 1)) ((0, 0)) (Qf) cc own nL ret (pc + 3) (lv) (.int (if x < y then y else x) :: st) (h))) : (J l D ad cA (E) (rmd (d + 1)) ((0, 0)) (Qf) cc own nL ret (pc) (lv) (.int y :: .int x :: st) (h)) := fun p e s m args below meth c H locs ls A P S V => va_mmax A.1 A.2.1 (A.2.2.1.trans V.1.symm) A.2.2.2.2.2.1 (A.2.2.2.2.2.2.1 _ hl) (A.2.2.2.2.2.2.1 _ hs) (A.2.2.2.2.2.2.1 _ hi) (A.2.2.2.2.2.2.1 _ hc) (by show 1 ≤ d + 1; omega) (by show _ ≤ 64 * (d + 1); omega) (Nat.le_refl _) (Nat.le_refl _) hd (k p e s m args below meth c H locs ls A P S V)
theorem j_mmin {idx d : Nat} {x y : Int32} (hd : decode cc pc = .ok (.invokestatic idx, 3)) (hl : Cond.methodLink own idx Lib.Math.min.name ∈ GT) (hs : Cond.static Lib.Math.min.name ∈ GT) (hi : Cond.initialized "java/lang/Math" ∈ GT) (hc : Cond.code Lib.Math.min.name Lib.Math.min.code 2 (some .int) ∈ GT) (hst : (st.map fun v => v.category).sum ≤ 8) (k : (J l D ad cA (E) (rmd (d + 1)) ((0, 0)) (Qf) cc own nL ret (pc + 3) (lv) (.int (if y < x then y else x) :: st) (h))) : (J l D ad cA (E) (rmd (d + 1)) ((0, 0)) (Qf) cc own nL ret (pc) (lv) (.int y :: .int x :: st) (h)) := fun p e s m args below meth c H locs ls A P S V => va_mmin A.1 A.2.1 (A.2.2.1.trans V.1.symm) A.2.2.2.2.2.1 (A.2.2.2.2.2.2.1 _ hl) (A.2.2.2.2.2.2.1 _ hs) (A.2.2.2.2.2.2.1 _ hi) (A.2.2.2.2.2.2.1 _ hc) (by show 1 ≤ d + 1; omega) (by show _ ≤ 64 * (d + 1); omega) (Nat.le_refl _) (Nat.le_refl _) hd (k p e s m args below meth c H locs ls A P S V)
theorem j_mabs {idx d : Nat} {x : Int32} (hd : decode cc pc = .ok (.invokestatic idx, 3)) (hl : Cond.methodLink own idx Lib.Math.abs.name ∈ GT) (hs : Cond.static Lib.Math.abs.name ∈ GT) (hi : Cond.initialized "java/lang/Math" ∈ GT) (hc : Cond.code Lib.Math.abs.name Lib.Math.abs.code 1 (some .int) ∈ GT) (hst : (st.map fun v => v.category).sum ≤ 8) (k : (J l D ad cA (E) (rmd (d + 1)) ((0, 0)) (Qf) cc own nL ret (pc + 3) (lv) (.int (if 0 ≤ x then x else 0 - x) :: st) (h))) : (J l D ad cA (E) (rmd (d + 1)) ((0, 0)) (Qf) cc own nL ret (pc) (lv) (.int x :: st) (h)) := fun p e s m args below meth c H locs ls A P S V => va_mabs A.1 A.2.1 (A.2.2.1.trans V.1.symm) A.2.2.2.2.2.1 (A.2.2.2.2.2.2.1 _ hl) (A.2.2.2.2.2.2.1 _ hs) (A.2.2.2.2.2.2.1 _ hi) (A.2.2.2.2.2.2.1 _ hc) (by show 1 ≤ d + 1; omega) (by show _ ≤ 64 * (d + 1); omega) (Nat.le_refl _) (Nat.le_refl _) hd (k p e s m args below meth c H locs ls A P S V)
theorem j_mmaxl {idx d : Nat} {x y : Int64} (hd : decode cc pc = .ok (.invokestatic idx, 3)) (hl : Cond.methodLink own idx Lib.MathLoose.max_long.x ∈ GT) (hs : Cond.static Lib.MathLoose.max_long.x ∈ GT) (hi : Cond.initialized "java/lang/Math" ∈ GT) (hc : Cond.code Lib.MathLoose.max_long.x Lib.MathLoose.max_long.code 4 (some .long) ∈ GT) (hst : (st.map fun v => v.category).sum ≤ 8) (k : (J l D ad cA (E) (rmd (d + 1)) ((0, 0)) (Qf) cc own nL ret (pc + 3) (lv) (.long (if y < x then x else y) :: st) (h))) : (J l D ad cA (E) (rmd (d + 1)) ((0, 0)) (Qf) cc own nL ret (pc) (lv) (.long y :: .long x :: st) (h)) := fun p e s m args below meth c H locs ls A P S V => va_mmax_long A.1 A.2.1 (A.2.2.1.trans V.1.symm) A.2.2.2.2.2.1 (A.2.2.2.2.2.2.1 _ hl) (A.2.2.2.2.2.2.1 _ hs) (A.2.2.2.2.2.2.1 _ hi) (A.2.2.2.2.2.2.1 _ hc) (by show 1 ≤ d + 1; omega) (by show _ ≤ 64 * (d + 1); omega) (Nat.le_refl _) (Nat.le_refl _) hd (k p e s m args below meth c H locs ls A P S V)
theorem nfw {d : Nat} (hst : (st.map fun v => v.category).sum ≤ 8) : (st.map fun v => v.category).sum + (nativeFrameWords "java/lang/System" "arraycopy" 5 + 11) ≤ (rmd (d + 1)).locals := by
  have h1 : nativeFrameWords "java/lang/System" "arraycopy" 5 + 11 ≤ 40 := by decide +kernel
  show _ ≤ 64 * (d + 1)
  omega
theorem j_copy {idx d a b n0 n1 : Nat} {sp dp n : Int32} {g : Hp → Option α} (hd : decode cc pc = .ok (.invokestatic idx, 3)) (hl : Cond.methodLink own idx arraycopyName ∈ GT) (hna : Cond.native arraycopyName ∈ GT) (hs : Cond.static arraycopyName ∈ GT) (hi : Cond.initialized "java/lang/System" ∈ GT) (ha : kd a = 10) (hb : kd b = 10) (hla : ln a = n0) (hlb : ln b = n1) (h1 : ¬ sp < 0) (h2 : ¬ dp < 0) (h3 : ¬ n < 0) (h4 : sp.toNatClampNeg + n.toNatClampNeg ≤ n0) (h5 : dp.toNatClampNeg + n.toNatClampNeg ≤ n1) (hst : (st.map fun v => v.category).sum ≤ 8) (hf : lt (rI h b (va_cpy (h.1 a) (h.1 b) sp.toNatClampNeg dp.toNatClampNeg n.toNatClampNeg)) g = some o) (k : ∀ h, g h = some o → (J l D ad cA (E) (rmd (d + 1)) ((0, 0)) (Qf) cc own nL ret (pc + 3) (lv) (st) (h))) : (J l D ad cA (E) (rmd (d + 1)) ((0, 0)) (Qf) cc own nL ret (pc) (lv) (.int n :: .int dp :: .ref (ad b) :: .int sp :: .ref (ad a) :: st) (h)) := fun p e s m args below meth c H locs ls A P S V => va_copyi A.1 A.2.1 (A.2.2.1.trans V.1.symm) A.2.2.2.2.2.1 (A.2.2.2.2.2.2.1 _ hl) (A.2.2.2.2.2.2.1 _ hna) (A.2.2.2.2.2.2.1 _ hs) (A.2.2.2.2.2.2.1 _ hi) A.2.2.2.2.2.2.2.2.1 P (Wd_D A.2.2.2.2.2.2.2.2.2.1) S a b 0 0 (by rw [Wd_at (kd_lt ha), cell_I ha hla]) (by rw [Wd_at (kd_lt hb), cell_I hb hlb]) rfl rfl rfl h1 h2 h3 h4 h5 (fun _ _ => rfl) (by show 1 ≤ d + 1; omega) (nfw hst) hd (fun H locs P _ S => k _ hf p e s m args below meth c H locs ls A (by rw [← Wd_sI (kd_lt hb), cell_I (cA := cA) hb hlb, rI_self]; exact P) S V)
end JC
