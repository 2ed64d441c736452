/-! constructors: the cells of the layout from b on, n of them, at the addresses ad -/
def WdA (ad : Nat → Nat) (cA : Nat → ClassId) (h : Hp) (b n : Nat) : va_W := (List.range n).map (fun j => (ad (b + j), cellE ad cA h (b + j)))
theorem WdA_at {ad : Nat → Nat} {cA : Nat → ClassId} {h : Hp} {b n j : Nat} (hj : j < n) : (WdA ad cA h b n)[j]? = some (ad (b + j), cellE ad cA h (b + j)) := by
  unfold WdA
  rw [List.getElem?_map, List.getElem?_range hj]
  rfl
theorem WdA_out {ad : Nat → Nat} {cA : Nat → ClassId} {h : Hp} {b n j : Nat} (hj : ¬ j < n) : (WdA ad cA h b n)[j]? = none := by
  unfold WdA
  rw [List.getElem?_map, List.getElem?_eq_none (by rw [List.length_range]; omega)]
  rfl
theorem WdA_len {ad : Nat → Nat} {cA : Nat → ClassId} {h : Hp} {b n : Nat} : (WdA ad cA h b n).length = n := by
  unfold WdA
  simp
theorem WdA_app {ad : Nat → Nat} {cA : Nat → ClassId} {h : Hp} {b m n : Nat} : WdA ad cA h b m ++ WdA ad cA h (b + m) n = WdA ad cA h b (m + n) := by
  apply List.ext_getElem?
  intro i
  by_cases h1 : i < m
  · rw [List.getElem?_append_left (by rw [WdA_len]; exact h1), WdA_at h1, WdA_at (by omega)]
  · rw [List.getElem?_append_right (by rw [WdA_len]; omega), WdA_len]
    by_cases h2 : i - m < n
    · rw [WdA_at h2, WdA_at (by omega), show b + m + (i - m) = b + i by omega]
    · rw [WdA_out h2, WdA_out (by omega)]
theorem WdA_head {ad : Nat → Nat} {cA : Nat → ClassId} {h : Hp} {b m : Nat} : (ad b, cellE ad cA h b) :: WdA ad cA h (b + 1) m = WdA ad cA h b (m + 1) := by
  rw [Nat.add_comm m 1, ← WdA_app]
  rfl
/-- the references of cell k lie in [b, e) -/
def refsIn (b e k : Nat) : Bool := if kd k < 10 then (fkL.getD (kd k) []).all (fun t => decide (t < 2) || (decide (b ≤ k + (t - 2)) && decide (k + (t - 2) < e))) else if kd k = 10 then true else if kd k = 11 then true else if kd k = 12 then true else decide (b ≤ k) && decide (k + 5 ≤ e)
def closedB (b n : Nat) : Bool := (List.range n).all (fun j => refsIn b (b + n) (b + j))
theorem cellE_ad {ad ad' : Nat → Nat} {cA : Nat → ClassId} {h h' : Hp} {b e k : Nat} (hr : refsIn b e k = true) (hk1 : h'.1 k = h.1 k) (hk2 : h'.2 k = h.2 k) (ha : ∀ i, b ≤ i → i < e → ad' i = ad i) : cellE ad' cA h' k = cellE ad cA h k := by
  rw [cellE_congr (h := h) (h' := h') hk1 hk2]
  unfold cellE
  unfold refsIn at hr
  by_cases h1 : kd k < 10
  · rw [if_pos h1, if_pos h1]
    rw [if_pos h1] at hr
    congr 2
    unfold flds
    apply List.ext_getElem?
    intro i
    rw [List.getElem?_mapIdx, List.getElem?_mapIdx]
    cases ht : (fkL.getD (kd k) [])[i]? with
    | none => rfl
    | some t =>
      have h2 := List.all_eq_true.mp hr t (List.mem_of_getElem? ht)
      show some (fv ad' h k i t) = some (fv ad h k i t)
      congr 1
      unfold fv
      match t, h2 with
      | 0, _ => rfl
      | 1, _ => rfl
      | n + 2, h2 =>
        simp only [Bool.or_eq_true, Bool.and_eq_true, decide_eq_true_eq] at h2
        show Value.ref (ad' (k + n)) = Value.ref (ad (k + n))
        rw [ha (k + n) (by omega) (by omega)]
  · rw [if_neg h1, if_neg h1]
    rw [if_neg h1] at hr
    by_cases g1 : kd k = 10
    · rw [if_pos g1, if_pos g1]
    · rw [if_neg g1, if_neg g1]
      rw [if_neg g1] at hr
      by_cases g2 : kd k = 11
      · rw [if_pos g2, if_pos g2]
      · rw [if_neg g2, if_neg g2]
        rw [if_neg g2] at hr
        by_cases g3 : kd k = 12
        · rw [if_pos g3, if_pos g3]
        · rw [if_neg g3, if_neg g3]
          rw [if_neg g3] at hr
          simp only [Bool.and_eq_true, decide_eq_true_eq] at hr
          have e9 : (fun i => if i < 4 then some (ad' (k + 1 + i)) else none) = (fun i => if i < 4 then some (ad (k + 1 + i)) else none) := by
            funext i
            by_cases hi : i < 4
            · rw [if_pos hi, if_pos hi, ha (k + 1 + i) (by omega) (by omega)]
            · rw [if_neg hi, if_neg hi]
          rw [e9]
theorem WdA_congr {ad ad' : Nat → Nat} {cA : Nat → ClassId} {h h' : Hp} {b n : Nat} (hc : closedB b n = true) (h1 : ∀ k, b ≤ k → k < b + n → h'.1 k = h.1 k) (h2 : ∀ k, b ≤ k → k < b + n → h'.2 k = h.2 k) (ha : ∀ i, b ≤ i → i < b + n → ad' i = ad i) : WdA ad' cA h' b n = WdA ad cA h b n := by
  apply List.ext_getElem?
  intro i
  by_cases hi : i < n
  · rw [WdA_at hi, WdA_at hi, ha (b + i) (by omega) (by omega), cellE_ad (List.all_eq_true.mp hc i (List.mem_range.mpr hi)) (h1 _ (by omega) (by omega)) (h2 _ (by omega) (by omega)) ha]
  · rw [WdA_out hi, WdA_out hi]
theorem WdA_set {ad : Nat → Nat} {cA : Nat → ClassId} {h h' : Hp} {b m j : Nat} (hj : j < m) (h1 : ∀ k, k ≠ b + j → h'.1 k = h.1 k) (h2 : ∀ k, k ≠ b + j → h'.2 k = h.2 k) : (WdA ad cA h b m).set j (ad (b + j), cellE ad cA h' (b + j)) = WdA ad cA h' b m := by
  apply List.ext_getElem?
  intro i
  by_cases hi : i < m
  · by_cases e : j = i
    · subst e
      rw [List.getElem?_set_self (by rw [WdA_len]; exact hj), WdA_at hj]
    · rw [List.getElem?_set_ne e, WdA_at hi, WdA_at hi, cellE_congr (h1 (b + i) (by omega)) (h2 (b + i) (by omega))]
  · rw [WdA_out hi, List.getElem?_eq_none]
    rw [List.length_set, WdA_len]
    omega
/-- class int[][] is over int[] -/
def va_AOI (U : State) : Prop := (Cond.arrayOver (.array .int)).before #[] U = true
theorem va_AOI.moved {u U : State} (hvm : u.vm.Alike U.vm) (h : va_AOI u) : va_AOI U := by
  have e := Cond.arrayOver_setVmC (args := #[]) (s := u) (vm' := U.vm) hvm (.array .int)
  have h1 : (Cond.arrayOver (.array .int)).before #[] (u.setVm U.vm) = true := e.trans h
  exact h1
def AmbC (D : va_G) (cA : Nat → ClassId) (cc : ByteArray) (own : String) (nL : Nat) (p : Program) (s : State) (m : MethodId) (args : Array Value) (meth : Method) (c : Code) : Prop :=
  p.tables.exec = Jvm.exec ∧ c.code = cc ∧ c.maxLocals = nL ∧ meth.sig.returnType = none ∧ meth.locks = false ∧ s.vm.findClass own = some m.cls ∧ (∀ w ∈ GT, w.before args s = true) ∧ (∀ w ∈ NW, va_Nw w s) ∧ va_K D vwCl (tysW cA) s ∧ meth.name = "<init>" ∧ va_AOI s
def Fr (a sz : Nat) : Nat → Prop := fun q => q = a ∨ sz ≤ q
def JN (l : Launch) (D : va_G) (cA : Nat → ClassId) (R : Room) (Qf : List Frame → Array Value → State → State → Prop) (a b ci : Nat) (cc : ByteArray) (own : String) (nL : Nat) (pc : Nat) (lv : List (Nat × Value)) (st : List Value) (fs : List Value) (m : Nat) (ad : Nat → Nat) (h : Hp) (cells slots : Nat) : Prop :=
  ∀ (p : Program) (e : Env) (s : State) (mm : MethodId) (args : Array Value) (below : List Frame) (meth : Method) (c : Code) (H : Heap) (locs : List Loc) (ls : Array Slot), AmbC D cA cc own nL p s mm args meth c → va_P D vwCl ((a, .inr (ci, fs)) :: WdA ad cA h (b + 1) m) H → va_D (Fr a s.heap.size) ((a, .inr (ci, fs)) :: WdA ad cA h (b + 1) m) → va_S (Fr a s.heap.size) s.heap H locs → lv_has ls nL lv → W p l e R s mm args below meth c H locs cells slots (Qf below args s) (F0 mm pc ls st)
abbrev rmc (d mc ms : Nat) : Room := { frames := d, cells := mc, slots := ms, locals := 64 * d }
def dfv (t : Nat) : Value := match t with
  | 0 => .int 0
  | 1 => .long 0
  | _ => .null
def dfl (ci : Nat) : List Value := (fkL.getD ci []).map dfv
def PcI (D : va_G) (cA : Nat → ClassId) (a sz ci : Nat) (U : State) : Prop := U.heap.size = sz ∧ va_P D vwCl [(a, .inr (ci, dfl ci))] U.heap ∧ va_K D vwCl (tysW cA) U ∧ (∀ w ∈ NW, va_Nw w U) ∧ va_AOI U
def QI (D : va_G) (cA : Nat → ClassId) (a sz b n : Nat) (h : Hp) : Array Value → State → Outcome → State → Prop := fun _ st oc t => oc = .returned none ∧ (∃ ad : Nat → Nat, a = ad b ∧ va_P D vwCl (WdA ad cA h b n) t.heap ∧ va_D (Fr a sz) (WdA ad cA h b n)) ∧ va_F (Fr a sz) st t
def CI (l : Launch) (D : va_G) (cA : Nat → ClassId) (d mc ms : Nat) (y : MethodName) (cc : ByteArray) (nL a sz b ci n : Nat) (h : Hp) : Prop :=
  Met l y (Cond.code y cc nL none :: GT) (rmc d mc ms) (va_Pc [.ref a] (PcI D cA a sz ci)) (QI D cA a sz b n h) mc ms (Fr a sz)
section JNR
variable {l : Launch} {D : va_G} {cA : Nat → ClassId} {R : Room} {Qf : List Frame → Array Value → State → State → Prop} {a b ci : Nat} {cc : ByteArray} {own : String} {nL : Nat} {pc : Nat} {lv : List (Nat × Value)} {st : List Value} {fs : List Value} {m : Nat} {ad : Nat → Nat} {h : Hp} {cells slots : Nat}
theorem n_iconst {n : Int} {v : Int32} (hd : decode cc pc = .ok (.iconst n, 1)) (hv : Int32.ofInt n = v) (k : (JN l D cA R Qf a b ci cc own nL (pc + 1) (lv) (.int v :: st) (fs) (m) (ad) (h) (cells) (slots))) : (JN l D cA R Qf a b ci cc own nL (pc) (lv) (st) (fs) (m) (ad) (h) (cells) (slots)) := fun p e s mm args below meth c H locs ls A P Dj S V => lv_iconst A.1 A.2.1 hd hv (k p e s mm args below meth c H locs ls A P Dj S V)
theorem n_bipush {n : Int} {v : Int32} (hd : decode cc pc = .ok (.bipush n, 2)) (hv : (Int8.ofInt n).toInt32 = v) (k : (JN l D cA R Qf a b ci cc own nL (pc + 2) (lv) (.int v :: st) (fs) (m) (ad) (h) (cells) (slots))) : (JN l D cA R Qf a b ci cc own nL (pc) (lv) (st) (fs) (m) (ad) (h) (cells) (slots)) := fun p e s mm args below meth c H locs ls A P Dj S V => lv_bipush A.1 A.2.1 hd hv (k p e s mm args below meth c H locs ls A P Dj S V)
theorem n_sipush {n : Int} {v : Int32} (hd : decode cc pc = .ok (.sipush n, 3)) (hv : (Int16.ofInt n).toInt32 = v) (k : (JN l D cA R Qf a b ci cc own nL (pc + 3) (lv) (.int v :: st) (fs) (m) (ad) (h) (cells) (slots))) : (JN l D cA R Qf a b ci cc own nL (pc) (lv) (st) (fs) (m) (ad) (h) (cells) (slots)) := fun p e s mm args below meth c H locs ls A P Dj S V => lv_sipush A.1 A.2.1 hd hv (k p e s mm args below meth c H locs ls A P Dj S V)
theorem n_aload_n {kk : Fin 4} {i : Nat} {x : Nat} (q : Nat) (hd : decode cc pc = .ok (.aload_n kk, 1)) (hi : (kk : Nat) = i) (hq : lv[q]? = some (i, .ref x)) (k : (JN l D cA R Qf a b ci cc own nL (pc + 1) (lv) (.ref x :: st) (fs) (m) (ad) (h) (cells) (slots))) : (JN l D cA R Qf a b ci cc own nL (pc) (lv) (st) (fs) (m) (ad) (h) (cells) (slots)) := fun p e s mm args below meth c H locs ls A P Dj S V => lv_aload_n A.1 A.2.1 hd hi (lv_at V q hq) (k p e s mm args below meth c H locs ls A P Dj S V)
theorem n_iload_n {kk : Fin 4} {i : Nat} {x : Int32} (q : Nat) (hd : decode cc pc = .ok (.iload_n kk, 1)) (hi : (kk : Nat) = i) (hq : lv[q]? = some (i, .int x)) (k : (JN l D cA R Qf a b ci cc own nL (pc + 1) (lv) (.int x :: st) (fs) (m) (ad) (h) (cells) (slots))) : (JN l D cA R Qf a b ci cc own nL (pc) (lv) (st) (fs) (m) (ad) (h) (cells) (slots)) := fun p e s mm args below meth c H locs ls A P Dj S V => lv_iload_n A.1 A.2.1 hd hi (lv_at V q hq) (k p e s mm args below meth c H locs ls A P Dj S V)
theorem n_istore_n {kk : Fin 4} {i : Nat} {x : Int32} {lv' : List (Nat × Value)} (hd : decode cc pc = .ok (.istore_n kk, 1)) (hi : (kk : Nat) = i) (hn : i < nL) (hl : (i, Value.int x) :: lv.filter (fun q => !(q.1 == i) && !(q.1 + 1 == i && q.2.category == 2)) = lv') (k : (JN l D cA R Qf a b ci cc own nL (pc + 1) (lv') (st) (fs) (m) (ad) (h) (cells) (slots))) : (JN l D cA R Qf a b ci cc own nL (pc) (lv) (.int x :: st) (fs) (m) (ad) (h) (cells) (slots)) := fun p e s mm args below meth c H locs ls A P Dj S V => lv_istore_n A.1 A.2.1 hd hi V hn hl (fun ls V => k p e s mm args below meth c H locs ls A P Dj S V)
theorem n_iinc {i : Nat} {n : Int} {x v : Int32} {lv' : List (Nat × Value)} (q : Nat) (hd : decode cc pc = .ok (.iinc i n, 3)) (hq : lv[q]? = some (i, .int x)) (hv : x + Int32.ofInt n = v) (hn : i < nL) (hl : (i, Value.int v) :: lv.filter (fun q => !(q.1 == i) && !(q.1 + 1 == i && q.2.category == 2)) = lv') (k : (JN l D cA R Qf a b ci cc own nL (pc + 3) (lv') (st) (fs) (m) (ad) (h) (cells) (slots))) : (JN l D cA R Qf a b ci cc own nL (pc) (lv) (st) (fs) (m) (ad) (h) (cells) (slots)) := fun p e s mm args below meth c H locs ls A P Dj S V => lv_iinc A.1 A.2.1 hd V hq hv hn hl (fun ls V => k p e s mm args below meth c H locs ls A P Dj S V)
theorem n_iadd {x y v : Int32} (hd : decode cc pc = .ok (.iadd, 1)) (hv : x + y = v) (k : (JN l D cA R Qf a b ci cc own nL (pc + 1) (lv) (.int v :: st) (fs) (m) (ad) (h) (cells) (slots))) : (JN l D cA R Qf a b ci cc own nL (pc) (lv) (.int y :: .int x :: st) (fs) (m) (ad) (h) (cells) (slots)) := fun p e s mm args below meth c H locs ls A P Dj S V => lv_iadd A.1 A.2.1 hd (by rw [hv]; exact k p e s mm args below meth c H locs ls A P Dj S V)
theorem n_dup {v : Value} (hd : decode cc pc = .ok (.dup, 1)) (hv : v.category = 1) (k : (JN l D cA R Qf a b ci cc own nL (pc + 1) (lv) (v :: v :: st) (fs) (m) (ad) (h) (cells) (slots))) : (JN l D cA R Qf a b ci cc own nL (pc) (lv) (v :: st) (fs) (m) (ad) (h) (cells) (slots)) := fun p e s mm args below meth c H locs ls A P Dj S V => lv_dup A.1 A.2.1 hd hv (k p e s mm args below meth c H locs ls A P Dj S V)
theorem n_goto {off : Int} {tgt : Nat} (hd : decode cc pc = .ok (.goto off, 3)) (ht : (pc : Int) + off = (tgt : Int)) (k : (JN l D cA R Qf a b ci cc own nL (tgt) (lv) (st) (fs) (m) (ad) (h) (cells) (slots))) : (JN l D cA R Qf a b ci cc own nL (pc) (lv) (st) (fs) (m) (ad) (h) (cells) (slots)) := fun p e s mm args below meth c H locs ls A P Dj S V => lv_goto A.1 A.2.1 hd ht (k p e s mm args below meth c H locs ls A P Dj S V)
theorem n_icmp_ge_t {x y : Int32} {off : Int} {tgt : Nat} (hd : decode cc pc = .ok (.if_icmp .ge off, 3)) (ht : (pc : Int) + off = (tgt : Int)) (hc : y ≤ x) (k : (JN l D cA R Qf a b ci cc own nL (tgt) (lv) (st) (fs) (m) (ad) (h) (cells) (slots))) : (JN l D cA R Qf a b ci cc own nL (pc) (lv) (.int y :: .int x :: st) (fs) (m) (ad) (h) (cells) (slots)) := fun p e s mm args below meth c H locs ls A P Dj S V => lv_icmp_ge A.1 A.2.1 hd ht (fun _ => k p e s mm args below meth c H locs ls A P Dj S V) (fun q => absurd hc q)
theorem n_icmp_ge_f {x y : Int32} {off : Int} {tgt : Nat} (hd : decode cc pc = .ok (.if_icmp .ge off, 3)) (ht : (pc : Int) + off = (tgt : Int)) (hc : ¬ y ≤ x) (k : (JN l D cA R Qf a b ci cc own nL (pc + 3) (lv) (st) (fs) (m) (ad) (h) (cells) (slots))) : (JN l D cA R Qf a b ci cc own nL (pc) (lv) (.int y :: .int x :: st) (fs) (m) (ad) (h) (cells) (slots)) := fun p e s mm args below meth c H locs ls A P Dj S V => lv_icmp_ge A.1 A.2.1 hd ht (fun q => absurd q hc) (fun _ => k p e s mm args below meth c H locs ls A P Dj S V)
theorem n_objInit {idx x d mc ms : Nat} (hd : decode cc pc = .ok (.invokespecial idx, 3)) (hl : Cond.methodLink own idx Lib.objectInit ∈ GT) (hin : Cond.instanceMethod Lib.objectInit ∈ GT) (hco : Cond.code Lib.objectInit ⟨#[0xb1]⟩ 1 none ∈ GT) (hR : R = rmc (d + 1) mc ms) (hst : (st.map fun v => v.category).sum ≤ 8) (k : (JN l D cA R Qf a b ci cc own nL (pc + 3) (lv) (st) (fs) (m) (ad) (h) (cells) (slots))) : (JN l D cA R Qf a b ci cc own nL (pc) (lv) (.ref x :: st) (fs) (m) (ad) (h) (cells) (slots)) := fun p e s mm args below meth c H locs ls A P Dj S V => W.objInit A.1 A.2.1 A.2.2.2.2.2.1 (A.2.2.2.2.2.2.1 _ hl) (A.2.2.2.2.2.2.1 _ hin) (A.2.2.2.2.2.2.1 _ hco) rfl (V.1.trans A.2.2.1.symm) rfl hd (by rw [hR]; show 1 ≤ d + 1; omega) (by
  have h9 := lv_room (m := mm) (pc := pc) (ls := ls) (rest := (Value.ref x :: st)) hst
  rw [hR]
  show _ ≤ 64 * (d + 1)
  omega) (k p e s mm args below meth c H locs ls A P Dj S V)
theorem n_getR {idx s9 : Nat} {v : Value} (hd : decode cc pc = .ok (.getfield idx, 3)) (hF : FL own idx ci s9) (hv : fs[s9]? = some v) (k : (JN l D cA R Qf a b ci cc own nL (pc + 3) (lv) (v :: st) (fs) (m) (ad) (h) (cells) (slots))) : (JN l D cA R Qf a b ci cc own nL (pc) (lv) (.ref a :: st) (fs) (m) (ad) (h) (cells) (slots)) := by
  obtain ⟨⟨C, T, N⟩, h1, h2, h3, h4, h5⟩ := hF
  exact fun p e s mm args below meth c H locs ls A P Dj S V => va_get (v := v) A.1 A.2.1 A.2.2.2.2.2.2.1 h3 A.2.2.2.2.2.1 A.2.2.2.2.2.2.2.2.1 P 0 rfl h1 s9 h2 (A.2.2.2.2.2.2.1 _ h4) (fun _ h9 => by dsimp only at h5; rw [← h5]; exact h9) hv hd (k p e s mm args below meth c H locs ls A P Dj S V)
/-- a field's place, for a store: its class's tables, final or not, its type -/
def FQ (own : String) (ci s : Nat) (fin : Bool) (ty : FieldType) : Prop := ∃ (q : vw_C) (ty0 : Nat → FieldType), vwCl[ci]? = some q ∧ (∀ k, k < q.2.2 → parseFieldDescriptor (q.2.1 k).2.2.1 = some (ty0 k)) ∧ (∀ a, a < q.2.2 → ∀ b, b < q.2.2 → a ≠ b → (q.2.1 a).2.1 ≠ (q.2.1 b).2.1) ∧ (q.2.1 s).2.2.2 = fin ∧ parseFieldDescriptor (q.2.1 s).2.2.1 = some ty ∧ (q.2.1 s).1 = own
theorem n_put {idx s9 : Nat} {v : Value} {fs' : List Value} {ty : FieldType} (hd : decode cc pc = .ok (.putfield idx, 3)) (hF : FL own idx ci s9) (hP : FQ own ci s9 false ty) (hn : narrow ty v = v) (hfit : fits ty v = true) (hl : s9 < fs.length) (hs : fs.set s9 v = fs') (k : (JN l D cA R Qf a b ci cc own nL (pc + 3) (lv) (st) (fs') (m) (ad) (h) (cells) (slots))) : (JN l D cA R Qf a b ci cc own nL (pc) (lv) (v :: .ref a :: st) (fs) (m) (ad) (h) (cells) (slots)) := by
  obtain ⟨⟨C, T, N⟩, h1, h2, h3, h4, h5⟩ := hF
  obtain ⟨⟨C', T', N'⟩, ty0, g1, g2, g3, g4, g5, g6⟩ := hP
  have hq := Option.some.inj (g1.symm.trans h1)
  cases hq
  subst hs
  exact fun p e s mm args below meth c H locs ls A P Dj S V => va_put (v := v) (ty := ty) A.1 A.2.1 A.2.2.2.2.2.2.1 h3 ty0 g2 g3 A.2.2.2.2.2.1 A.2.2.2.2.2.2.2.2.1 P Dj S 0 rfl h1 s9 h2 (A.2.2.2.2.2.2.1 _ h4) (fun _ h9 => by dsimp only at h5; rw [← h5]; exact h9) g4 g5 hn hfit hl hd (fun H locs P Dj S => k p e s mm args below meth c H locs ls A P Dj S V)
theorem n_putF {idx s9 : Nat} {v : Value} {fs' : List Value} {ty : FieldType} (hd : decode cc pc = .ok (.putfield idx, 3)) (hF : FL own idx ci s9) (hP : FQ own ci s9 true ty) (hn : narrow ty v = v) (hfit : fits ty v = true) (hl : s9 < fs.length) (hs : fs.set s9 v = fs') (k : (JN l D cA R Qf a b ci cc own nL (pc + 3) (lv) (st) (fs') (m) (ad) (h) (cells) (slots))) : (JN l D cA R Qf a b ci cc own nL (pc) (lv) (v :: .ref a :: st) (fs) (m) (ad) (h) (cells) (slots)) := by
  obtain ⟨⟨C, T, N⟩, h1, h2, h3, h4, h5⟩ := hF
  obtain ⟨⟨C', T', N'⟩, ty0, g1, g2, g3, g4, g5, g6⟩ := hP
  have hq := Option.some.inj (g1.symm.trans h1)
  cases hq
  subst hs
  exact fun p e s mm args below meth c H locs ls A P Dj S V => va_putF (v := v) (ty := ty) A.1 A.2.1 A.2.2.2.2.2.2.1 h3 ty0 g2 g3 A.2.2.2.2.2.1 A.2.2.2.2.2.2.2.2.1 P Dj S 0 rfl h1 s9 h2 (A.2.2.2.2.2.2.1 _ h4) (fun _ h9 => by dsimp only at h5; rw [← h5]; exact h9) g4 A.2.2.2.2.2.2.2.2.2.1 g6 g5 hn hfit hl hd (fun H locs P Dj S => k p e s mm args below meth c H locs ls A P Dj S V)
theorem Fr_up {a sz q : Nat} (h : sz ≤ q) : Fr a sz q := Or.inr h
theorem WdA_snoc {ad : Nat → Nat} {cA : Nat → ClassId} {h : Hp} {b m q : Nat} {e : va_E} (hc : closedB b m = true) (he : e = cellE (va_up ad (b + m) q) cA h (b + m)) : WdA ad cA h b m ++ [(q, e)] = WdA (va_up ad (b + m) q) cA h b (m + 1) := by
  rw [← WdA_app]
  congr 1
  · exact (WdA_congr hc (fun _ _ _ => rfl) (fun _ _ _ => rfl) (fun i _ h2 => va_up_ne _ _ (by omega))).symm
  · show [(q, e)] = [(va_up ad (b + m) q (b + m + 0), cellE _ cA h (b + m + 0))]
    rw [Nat.add_zero, va_up_self, he]
theorem n_newaI {k9 N' : Nat} {n : Int32} (hk9 : k9 = b + 1 + m) (hd : decode cc pc = .ok (.newarray .int, 2)) (harr : Cond.arrayClass .int ∈ GT) (hk : kd k9 = 10) (hn : ln k9 = N') (hz : h.1 k9 = fun _ => 0) (hcb : closedB (b + 1) m = true) (h0 : ¬ n < 0) (hN : n.toNatClampNeg = N') (hby : N' * componentBytes .int ≤ 536870912) (hcells : cells + 1 ≤ R.cells) (hslots : slots + N' ≤ R.slots) (k : ∀ q : Nat, (JN l D cA R Qf a b ci cc own nL (pc + 2) (lv) (.ref q :: st) (fs) (m + 1) (va_up ad k9 q) (h) (cells + 1) (slots + N'))) : (JN l D cA R Qf a b ci cc own nL (pc) (lv) (.int n :: st) (fs) (m) (ad) (h) (cells) (slots)) := by
  subst hk9
  refine fun p e s mm args below meth c H locs ls A P Dj S V => va_newa (atype := .int) (a0 := (N', .inl (fun _ => 0))) A.1 A.2.1 (A.2.2.2.2.2.2.1 _ harr) rfl A.2.2.2.2.2.2.2.2.1 P Dj S (fun q h => Fr_up h) (fun _ => rfl) h0 hN hby hcells hslots hd (fun q c9 H K9 P Dj S => ?_)
  have hc9 : c9 = cA 0 := by
    have q1 : va_RA s c9 .int := (K9.2 4 (c9, .int) rfl).2
    have q2 : va_RA s (cA 0) .int := (A.2.2.2.2.2.2.2.2.1.2 0 (cA 0, .int) rfl).2
    exact Option.some.inj (q1.symm.trans q2)
  subst hc9
  rw [List.cons_append, WdA_snoc hcb (by rw [cell_I hk hn, hz])] at P Dj
  exact k q p e s mm args below meth c H locs ls A P Dj S V
theorem n_newaL {k9 N' : Nat} {n : Int32} (hk9 : k9 = b + 1 + m) (hd : decode cc pc = .ok (.newarray .long, 2)) (harr : Cond.arrayClass .long ∈ GT) (hk : kd k9 = 11) (hn : ln k9 = N') (hz : h.2 k9 = fun _ => 0) (hcb : closedB (b + 1) m = true) (h0 : ¬ n < 0) (hN : n.toNatClampNeg = N') (hby : N' * componentBytes .long ≤ 536870912) (hcells : cells + 1 ≤ R.cells) (hslots : slots + N' ≤ R.slots) (k : ∀ q : Nat, (JN l D cA R Qf a b ci cc own nL (pc + 2) (lv) (.ref q :: st) (fs) (m + 1) (va_up ad k9 q) (h) (cells + 1) (slots + N'))) : (JN l D cA R Qf a b ci cc own nL (pc) (lv) (.int n :: st) (fs) (m) (ad) (h) (cells) (slots)) := by
  subst hk9
  refine fun p e s mm args below meth c H locs ls A P Dj S V => va_newa (atype := .long) (a0 := (N', .inr (.inl (fun _ => 0)))) A.1 A.2.1 (A.2.2.2.2.2.2.1 _ harr) rfl A.2.2.2.2.2.2.2.2.1 P Dj S (fun q h => Fr_up h) (fun _ => rfl) h0 hN hby hcells hslots hd (fun q c9 H K9 P Dj S => ?_)
  have hc9 : c9 = cA 1 := by
    have q1 : va_RA s c9 .long := (K9.2 4 (c9, .long) rfl).2
    have q2 : va_RA s (cA 1) .long := (A.2.2.2.2.2.2.2.2.1.2 1 (cA 1, .long) rfl).2
    exact Option.some.inj (q1.symm.trans q2)
  subst hc9
  rw [List.cons_append, WdA_snoc hcb (by rw [cell_L hk hn, hz])] at P Dj
  exact k q p e s mm args below meth c H locs ls A P Dj S V
theorem n_newaZ {k9 N' : Nat} {n : Int32} (hk9 : k9 = b + 1 + m) (hd : decode cc pc = .ok (.newarray .boolean, 2)) (harr : Cond.arrayClass .boolean ∈ GT) (hk : kd k9 = 12) (hn : ln k9 = N') (hz : h.1 k9 = fun _ => 0) (hcb : closedB (b + 1) m = true) (h0 : ¬ n < 0) (hN : n.toNatClampNeg = N') (hby : N' * componentBytes .boolean ≤ 536870912) (hcells : cells + 1 ≤ R.cells) (hslots : slots + N' ≤ R.slots) (k : ∀ q : Nat, (JN l D cA R Qf a b ci cc own nL (pc + 2) (lv) (.ref q :: st) (fs) (m + 1) (va_up ad k9 q) (h) (cells + 1) (slots + N'))) : (JN l D cA R Qf a b ci cc own nL (pc) (lv) (.int n :: st) (fs) (m) (ad) (h) (cells) (slots)) := by
  subst hk9
  refine fun p e s mm args below meth c H locs ls A P Dj S V => va_newa (atype := .boolean) (a0 := (N', .inl (fun _ => 0))) A.1 A.2.1 (A.2.2.2.2.2.2.1 _ harr) rfl A.2.2.2.2.2.2.2.2.1 P Dj S (fun q h => Fr_up h) (fun _ => rfl) h0 hN hby hcells hslots hd (fun q c9 H K9 P Dj S => ?_)
  have hc9 : c9 = cA 2 := by
    have q1 : va_RA s c9 .boolean := (K9.2 4 (c9, .boolean) rfl).2
    have q2 : va_RA s (cA 2) .boolean := (A.2.2.2.2.2.2.2.2.1.2 2 (cA 2, .boolean) rfl).2
    exact Option.some.inj (q1.symm.trans q2)
  subst hc9
  rw [List.cons_append, WdA_snoc hcb (by rw [cell_Z hk hn, hz])] at P Dj
  exact k q p e s mm args below meth c H locs ls A P Dj S V
theorem n_iast {k9 n i9 : Nat} {i x : Int32} (j : Nat) (hj : j < m) (hk9 : k9 = b + 1 + j) (hd : decode cc pc = .ok (.iastore, 1)) (hk : kd k9 = 10) (hn : ln k9 = n) (hi : ix i n = true) (hi9 : i.toNatClampNeg = i9) (k : (JN l D cA R Qf a b ci cc own nL (pc + 1) (lv) (st) (fs) (m) (ad) (sI h k9 i9 x) (cells) (slots))) : (JN l D cA R Qf a b ci cc own nL (pc) (lv) (.int x :: .int i :: .ref (ad k9) :: st) (fs) (m) (ad) (h) (cells) (slots)) := by
  subst hk9
  subst hi9
  refine fun p e s mm args below meth c H locs ls A P Dj S V => va_iast A.1 A.2.1 A.2.2.2.2.2.2.2.2.1 P Dj S (j + 1) 0 (by rw [List.getElem?_cons_succ, WdA_at hj, cell_I hk hn]) rfl (ix_in hi) hd (fun H locs P Dj S => ?_)
  have e1 : ((a, .inr (ci, fs)) :: WdA ad cA h (b + 1) m).set (j + 1) (ad (b + 1 + j), .inl (cA 0, n, .inl (upd (h.1 (b + 1 + j)) i.toNatClampNeg x))) = (a, .inr (ci, fs)) :: WdA ad cA (sI h (b + 1 + j) i.toNatClampNeg x) (b + 1) m := by
    rw [List.set_cons_succ, ← WdA_set (h' := sI h (b + 1 + j) i.toNatClampNeg x) hj (fun k e => rI_ne h _ e) (fun _ _ => rfl), cell_I (cA := cA) hk hn]
    unfold sI
    rw [rI_self]
  rw [e1] at P Dj
  exact k p e s mm args below meth c H locs ls A P Dj S V
theorem n_ret {d mc ms n : Nat} {h' : Hp} {v : Nat → Nat} (hd : decode cc pc = .ok (.return_, 1)) (hfs : fs = flds (va_up ad b a) h' b (fkL.getD ci [])) (hk : kd b = ci) (hc10 : ci < 10) (hn : m + 1 = n) (hc : closedB (b + 1) m = true) (h1 : ∀ k, b + 1 ≤ k → k < b + 1 + m → h'.1 k = h.1 k) (h2 : ∀ k, b + 1 ≤ k → k < b + 1 + m → h'.2 k = h.2 k) : JN l D cA R (fun below args s => MQ below (QI D cA a s.heap.size b n h') args s mc ms (Fr a s.heap.size)) a b ci cc own nL pc lv [] fs m ad h mc ms := by
  subst hn
  have e1 : (a, .inr (ci, fs)) :: WdA ad cA h (b + 1) m = WdA (va_up ad b a) cA h' b (m + 1) := by
    rw [← WdA_head, va_up_self, cell_obj hk hc10, hfs]
    congr 1
    exact (WdA_congr hc h1 h2 (fun i hi _ => va_up_ne _ _ (by omega))).symm
  intro p e s mm args below meth c H locs ls A P Dj S V
  rw [e1] at P Dj
  exact W.vret A.1 A.2.1 A.2.2.2.1 (fun t ht hW => ⟨rfl, ⟨va_up ad b a, (va_up_self _ _ _).symm, by rw [ht]; exact P, Dj⟩, S.F ht⟩) S.2.2 hd A.2.2.2.2.1
theorem CI_of {d mc ms n sz : Nat} {y : MethodName} {h' : Hp} (hy : plainName y.cls = true) (ho : y.cls = own) (hyn : y.name = "<init>") (hn : 1 ≤ nL) (k : JN l D cA (rmc d mc ms) (fun below args s => MQ below (QI D cA a s.heap.size b n h') args s mc ms (Fr a s.heap.size)) a b ci cc own nL 0 [(0, .ref a)] [] (dfl ci) 0 ad h 0 0) : CI l D cA d mc ms y cc nL a sz b ci n h' := by
  refine Met.ofW (cc := cc) (maxL := nL) (ret := none) hy rfl ?_
  intro p e s m args below meth c s₁ B hml hv
  obtain ⟨rfl, hsz, hP, hK, hN, hi⟩ := hv
  have hts := atoms_spec (ws := Cond.code y cc nL none :: GT) B.pre
  have V := lv_entry [.ref a] (n := nL) hn
  rw [lg_entry_eq]
  subst ho
  subst hsz
  have hin : meth.name = "<init>" := (name_of_methodNamed B.named B.method).1.trans hyn
  refine k p e s m [.ref a].toArray below meth c s.heap [] _ ⟨B.exec, B.bytes, hml, B.returns, B.notSynchronized, findClass_of_methodNamed B.named, fun w hw => hts w (List.mem_cons_of_mem _ hw), hN, hK, hin, hi⟩ hP ?_ va_S.rf V
  refine ⟨fun i j p q hp hq _ => ?_, fun k q hq => ?_⟩
  · have h1 : i < 1 := (List.getElem?_eq_some_iff.mp hp).1
    have h2 : j < 1 := (List.getElem?_eq_some_iff.mp hq).1
    omega
  · have h1 : k < 1 := (List.getElem?_eq_some_iff.mp hq).1
    rw [show k = 0 by omega] at hq
    cases hq
    exact Or.inl rfl
end JNR
