def va_AOA (ty : FieldType) (U : State) : Prop := (Cond.arrayOver (.array ty)).before #[] U = true
theorem va_AOA.use {ty : FieldType} {A : Array Value} {U : State} (h : va_AOA ty U) : (Cond.arrayOver (.array ty)).before A U = true := h
/-! ===== BEGIN new T[n][m]: the outer array a place, the inner ones among the pooled ===== -/
/-- f, but v at every address of l -/
def vr_up {α : Type} (f : Nat → α) (l : List Nat) (v : α) : Nat → α := fun a => if a ∈ l then v else f a
theorem vr_up_in {α : Type} {f : Nat → α} {l : List Nat} {v : α} {a : Nat} (h : a ∈ l) : vr_up f l v a = v := if_pos h
theorem vr_up_ne {α : Type} {f : Nat → α} {l : List Nat} {v : α} {a : Nat} (h : a ∉ l) : vr_up f l v a = f a := if_neg h
theorem vr_rows {L l : List Nat} {f : Nat → va_E} {e : va_E} (h : ∀ a, a ∈ l → a ∉ L) : va_pl L f ++ l.map (fun a => (a, e)) = va_pl (L ++ l) (vr_up f l e) := by
  unfold va_pl
  rw [List.map_append]
  congr 1
  · apply List.map_congr_left
    intro a ha
    rw [vr_up_ne (fun q => h a q ha)]
  · apply List.map_congr_left
    intro a ha
    rw [vr_up_in ha]
theorem vr_lay {X rows : va_W} {x : Nat × va_E} {pl : va_W} {D : va_G} {cl : List vw_C} {H : Heap} (hP : va_P D cl (((X ++ pl) ++ [x]) ++ rows) H) : va_P D cl ((X ++ [x]) ++ (pl ++ rows)) H := by
  rw [List.append_assoc (X ++ pl)] at hP
  have h := va_P.swap hP
  rw [← List.append_assoc X] at h
  have h2 := va_P.swap h
  rw [List.append_assoc (X ++ [x])] at h2
  exact h2
theorem vr_layD {X rows : va_W} {x : Nat × va_E} {pl : va_W} {A : Nat → Prop} (hD : va_D A (((X ++ pl) ++ [x]) ++ rows)) : va_D A ((X ++ [x]) ++ (pl ++ rows)) := by
  rw [List.append_assoc (X ++ pl)] at hD
  have h := va_D.swap hD
  rw [← List.append_assoc X] at h
  have h2 := va_D.swap h
  rw [List.append_assoc (X ++ [x])] at h2
  exact h2
theorem vr_outer (c : ClassId) (N h0 : Nat) : ∀ i : Nat, Jvm.Free.Multi.outerC c N h0 i = arrV c N (fun j => va_rf (if j < i then some (h0 + 1 + j) else none))
  | 0 => by
    show ({ cls := c, slots := Array.replicate N .null, vm := .none } : Cell) = _
    rw [arrV_new]
    refine congrArg (arrV c N) (funext fun j => ?_)
    simp [va_rf]
  | i + 1 => by
    show (Jvm.Free.Multi.outerC c N h0 i).setSlot i (.ref (h0 + 1 + i)) = _
    rw [vr_outer c N h0 i, arrV_store]
    refine congrArg (arrV c N) (funext fun j => ?_)
    by_cases e : j = i
    · subst e
      simp [updV, va_rf]
    · by_cases h : j < i
      · simp [updV, e, h, Nat.lt_succ_of_lt h]
      · simp [updV, e, h, show ¬ j < i + 1 by omega]
section VGM
variable {p : Program} {l : Launch} {e : Env} {R : Room} {s : State} {m : MethodId} {args : Array Value} {below : List Frame} {meth : Method} {c : Code} {H : Heap} {locs : List Loc} {cells slots : Nat} {Q : State → Prop}
variable {cc : ByteArray} {pc : Nat} {ls : Array Slot} {rest : List Value} {D : va_G} {cl : List vw_C} {A : Nat → Prop} {a : Nat} {tys : List (ClassId × FieldType)} {ws : va_W} {H0 : Heap}
theorem va_mna {X : va_W} {L : List Nat} {f : Nat → va_E} {cc : ByteArray} (hexec : p.tables.exec = Jvm.exec) (hb : c.code = cc) {own : String} {index : Nat} {ty : FieldType} {cy : ClassId} (hown : s.vm.findClass own = some m.cls) (hclink : (Cond.classLink own index ("[" ++ (FieldType.array ty).toString)).before args s = true) (hover : va_AOA ty s) (harr : (Cond.arrayClass ty).before args s = true) (hcy : s.vm.findClass (FieldType.array ty).toString = some cy)
    (hK : va_K D cl tys s) (hP : va_P D cl (X ++ va_pl L f) H) (hD : va_D A (X ++ va_pl L f)) (hS : va_S A H0 H locs) (hA : ∀ q, H0.size ≤ q → A q) {n k : Int32} {N' K' : Nat} {z : vp_A} (hn : ¬ n < 0) (hk : ¬ k < 0) (hN : n.toNatClampNeg = N') (hM : k.toNatClampNeg = K')
    (hb1 : N' * 4 ≤ 536870912) (hb2 : K' * componentBytes ty ≤ 536870912) (hb3 : K' ≤ 536870912) (hdf : fits ty (defaultValue ty) = true) (hdd : (defaultValue ty).isDefault = true) (hcells : cells + (1 + N') ≤ R.cells) (hslots : slots + (N' + N' * K') ≤ R.slots) (hz : ∀ c : ClassId, Jvm.Free.Multi.innerC c K' (defaultValue ty) = vp_cell c z) (hdg : decode cc pc = .ok (.multianewarray index 2, 4))
    (kk : ∀ (q : Nat) (r : Nat → Nat) (cA : ClassId) (H1 : Heap), (∀ i j : Nat, i < N' → j < N' → r i = r j → i = j) → (∀ i : Nat, i < N' → r i ∉ L) → va_K D cl (tys ++ [(cA, .array ty)]) s →
      va_P D cl ((X ++ [(q, .inl (cA, N', .inr (.inr (.inr (.inr (fun i => if i < N' then some (r i) else none))))))]) ++ va_pl (L ++ (List.range N').map r) (vr_up f ((List.range N').map r) (.inl (cy, z)))) H1 → va_D A ((X ++ [(q, .inl (cA, N', .inr (.inr (.inr (.inr (fun i => if i < N' then some (r i) else none))))))]) ++ va_pl (L ++ (List.range N').map r) (vr_up f ((List.range N').map r) (.inl (cy, z)))) → va_S A H0 H1 locs →
      W p l e R s m args below meth c H1 locs (cells + 1 + N') (slots + N' + N' * K') Q (F0 m (pc + 4) ls (.ref q :: rest))) : W p l e R s m args below meth c H locs cells slots Q (F0 m pc ls (.int k :: .int n :: rest)) := by
  subst hN
  subst hM
  intro T hT Xs
  obtain ⟨vm₁, cA, comp, -, fA, fC, hO, -, X', step⟩ := Xs.multianewarray2F hexec hown hclink (va_AOA.use hover) harr (g := F0 m pc ls (.int k :: .int n :: rest)) rfl (by rw [hb]; exact hdg) rfl hn hk hb1 hb2 hb3 hdf hdd hcells hslots
  have ec : some cy = some comp := hcy.symm.trans fC
  cases ec
  generalize hF : Jvm.Free.Multi.fill (T.setVm vm₁) cA cy n.toNatClampNeg k.toNatClampNeg (defaultValue ty) n.toNatClampNeg = F at X' step
  have hTh : (T.setVm vm₁).heap = H := hT
  obtain ⟨f1, f2, -, -⟩ := Jvm.Free.Multi.fill_facts (T.setVm vm₁) cA cy n.toNatClampNeg k.toNatClampNeg (defaultValue ty) n.toNatClampNeg
  rw [hF, hTh] at f1 f2
  have hold : ∀ x : Nat, x < H.size → F.heap[x]? = H[x]? := fun x hx => by
    have := Jvm.Free.Multi.fill_old (T.setVm vm₁) cA cy n.toNatClampNeg k.toNatClampNeg (defaultValue ty) (a := x) (by rw [hTh]; exact hx) n.toNatClampNeg
    rw [hF, hTh] at this
    exact this
  have hrow : ∀ j : Nat, j < n.toNatClampNeg → F.heap[H.size + 1 + j]? = some (vp_cell cy z) := fun j hj => by
    have := Jvm.Free.Multi.fill_inner (T.setVm vm₁) cA cy n.toNatClampNeg k.toNatClampNeg (defaultValue ty) n.toNatClampNeg j hj
    rw [hF, hTh, hz] at this
    exact this
  have hout : Jvm.Free.Multi.outerC cA n.toNatClampNeg H.size n.toNatClampNeg = vp_cell cA (n.toNatClampNeg, .inr (.inr (.inr (.inr (fun i => if i < n.toNatClampNeg then some (H.size + 1 + i) else none))))) := by
    rw [vp_cell_q]
    exact vr_outer cA n.toNatClampNeg H.size n.toNatClampNeg
  rw [hout] at f2
  have hlt : ∀ a, a ∈ L → a < H.size := fun a ha => by
    obtain ⟨k9, hk9⟩ := va_pl_get (X := X) (f := f) ha
    exact (hP k9 _ hk9).lt
  have hnl : ∀ i : Nat, i < n.toNatClampNeg → H.size + 1 + i ∉ L := fun i _ h => by
    have := hlt _ h
    omega
  have hnm : ∀ a, a ∈ (List.range n.toNatClampNeg).map (fun i => H.size + 1 + i) → a ∉ L := fun a ha h => by
    obtain ⟨i, -, rfl⟩ := List.mem_map.mp ha
    have := hlt _ h
    omega
  have hP0 : va_P D cl (X ++ va_pl L f) F.heap := hP.kept (fun k9 x hx => hold x.1 ((hP k9 x hx).lt))
  have hP1 : va_P D cl ((X ++ va_pl L f) ++ [(H.size, .inl (cA, n.toNatClampNeg, .inr (.inr (.inr (.inr (fun i => if i < n.toNatClampNeg then some (H.size + 1 + i) else none))))))]) F.heap := hP0.app (fun k9 x hx => by
    have h0 : k9 < 1 := (List.getElem?_eq_some_iff.mp hx).1
    rw [show k9 = 0 by omega] at hx
    cases hx
    exact f2)
  have hP2 : va_P D cl (((X ++ va_pl L f) ++ [(H.size, .inl (cA, n.toNatClampNeg, .inr (.inr (.inr (.inr (fun i => if i < n.toNatClampNeg then some (H.size + 1 + i) else none))))))]) ++ ((List.range n.toNatClampNeg).map (fun i => H.size + 1 + i)).map (fun a => (a, .inl (cy, z)))) F.heap := hP1.app (fun k9 x hx => by
    obtain ⟨a, ha, rfl⟩ := List.mem_map.mp (List.mem_of_getElem? hx)
    obtain ⟨i, hi, rfl⟩ := List.mem_map.mp ha
    exact hrow i (List.mem_range.mp hi))
  have hD2 : va_D A (((X ++ va_pl L f) ++ [(H.size, .inl (cA, n.toNatClampNeg, .inr (.inr (.inr (.inr (fun i => if i < n.toNatClampNeg then some (H.size + 1 + i) else none))))))]) ++ ((List.range n.toNatClampNeg).map (fun i => H.size + 1 + i)).map (fun a => (a, .inl (cy, z)))) := by
    have hD1 := hD.push (e := .inl (cA, n.toNatClampNeg, .inr (.inr (.inr (.inr (fun i => if i < n.toNatClampNeg then some (H.size + 1 + i) else none)))))) hP rfl (hA _ hS.1)
    generalize hW1 : (X ++ va_pl L f) ++ [(H.size, .inl (cA, n.toNatClampNeg, .inr (.inr (.inr (.inr (fun i => if i < n.toNatClampNeg then some (H.size + 1 + i) else none))))))] = W1 at hD1 hP1 ⊢
    have hle : ∀ (k9 : Nat) (x : Nat × va_E), W1[k9]? = some x → x.1 ≤ H.size := fun k9 x hx => by
      rw [← hW1] at hx
      by_cases hl : k9 < (X ++ va_pl L f).length
      · rw [List.getElem?_append_left hl] at hx
        exact Nat.le_of_lt ((hP k9 x hx).lt)
      · rw [List.getElem?_append_right (by omega)] at hx
        have h0 : k9 - (X ++ va_pl L f).length < 1 := (List.getElem?_eq_some_iff.mp hx).1
        rw [show k9 - (X ++ va_pl L f).length = 0 by omega] at hx
        cases hx
        exact Nat.le_refl _
    have hr : ∀ (k9 : Nat) (x : Nat × va_E), (((List.range n.toNatClampNeg).map (fun i => H.size + 1 + i)).map (fun a => ((a, .inl (cy, z)) : Nat × va_E)))[k9]? = some x → x.1 = H.size + 1 + k9 := fun k9 x hx => by
      rw [List.getElem?_map, List.getElem?_map] at hx
      by_cases h9 : k9 < n.toNatClampNeg
      · rw [List.getElem?_range h9] at hx
        cases hx
        rfl
      · have hn0 : (List.range n.toNatClampNeg)[k9]? = none := List.getElem?_eq_none (by rw [List.length_range]; omega)
        rw [hn0] at hx
        cases hx
    refine ⟨fun i j x y hi hj hxy => ?_, fun k9 x hx => ?_⟩
    · by_cases h1 : i < W1.length <;> by_cases h2 : j < W1.length
      · rw [List.getElem?_append_left h1] at hi
        rw [List.getElem?_append_left h2] at hj
        exact hD1.1 i j x y hi hj hxy
      · rw [List.getElem?_append_left h1] at hi
        rw [List.getElem?_append_right (by omega)] at hj
        have := hle _ _ hi
        have := hr _ _ hj
        omega
      · rw [List.getElem?_append_right (by omega)] at hi
        rw [List.getElem?_append_left h2] at hj
        have := hle _ _ hj
        have := hr _ _ hi
        omega
      · rw [List.getElem?_append_right (by omega)] at hi hj
        have := hr _ _ hi
        have := hr _ _ hj
        omega
    · by_cases h1 : k9 < W1.length
      · rw [List.getElem?_append_left h1] at hx
        exact hD1.2 k9 x hx
      · rw [List.getElem?_append_right (by omega)] at hx
        have := hr _ _ hx
        exact hA _ (by have := hS.1; omega)
  have hAr : ArrOfT s cA (.array ty) := fun N9 z9 => by
    obtain ⟨-, k9, hk9, cm9, hkk9⟩ := (hO 0 0 0).1
    exact ⟨(fun q hq => by cases hq), k9, hk9, cm9, hkk9⟩
  have hK2 : va_K D cl (tys ++ [(cA, .array ty)]) s := ⟨hK.1, fun k9 x hx => by
    by_cases hl : k9 < tys.length
    · rw [List.getElem?_append_left hl] at hx
      exact hK.2 k9 x hx
    · rw [List.getElem?_append_right (by omega)] at hx
      have h0 : k9 - tys.length < 1 := (List.getElem?_eq_some_iff.mp hx).1
      rw [show k9 - tys.length = 0 by omega] at hx
      cases hx
      exact ⟨hAr, fA⟩⟩
  obtain ⟨t, a1, b1⟩ := kk H.size (fun i => H.size + 1 + i) cA F.heap (fun i j _ _ h => by have h9 : H.size + 1 + i = H.size + 1 + j := h; omega) hnl hK2 (by rw [← vr_rows hnm]; exact vr_lay hP2) (by rw [← vr_rows hnm]; exact vr_layD hD2) ⟨by rw [f1]; have := hS.1; omega, fun x h1 h2 => (hold x (Nat.lt_of_lt_of_le h1 hS.1)).trans (hS.2.1 x h1 h2), hS.2.2⟩ F rfl X'
  refine ⟨t, step t ?_, b1⟩
  have e : T.heap.size = H.size := by rw [hT]
  rw [e]
  exact a1
end VGM
/-! ===== END ===== -/
theorem z40 (c : ClassId) : Jvm.Free.Multi.innerC c 40 (defaultValue .int) = vp_cell c (40, .inl (fun _ => 0)) := by
  show ({ cls := c, slots := Array.replicate 40 (.int 0), vm := .none } : Cell) = _
  rw [arrV_new]
  rfl
set_option maxHeartbeats 4000000 in
theorem n_multi {l : Launch} {D : va_G} {cA : Nat → ClassId} {R : Room} {Qf : List Frame → Array Value → State → State → Prop} {a b ci : Nat} {cc : ByteArray} {own : String} {nL : Nat} {pc : Nat} {lv : List (Nat × Value)} {st : List Value} {fs : List Value} {m : Nat} {ad : Nat → Nat} {h : Hp} {cells slots : Nat} {idx k9 : Nat} (hk9 : k9 = b + 1 + m) (hd : decode cc pc = .ok (.multianewarray idx 2, 4)) (hcl : Cond.classLink own idx "[[I" ∈ GT) (harr : Cond.arrayClass .int ∈ GT) (hk : kd k9 = 13) (hcb : closedB (b + 1) m = true) (hz : ∀ i, i < 4 → h.1 (k9 + 1 + i) = fun _ => 0) (hcells : cells + 5 ≤ R.cells) (hslots : slots + 164 ≤ R.slots)
    (k : ∀ (q : Nat) (r : Nat → Nat), JN l D cA R Qf a b ci cc own nL (pc + 4) lv (.ref q :: st) fs (m + 5) (comb (va_up ad k9 q) (fun x => r (x - (k9 + 1))) (k9 + 1) 4) h (cells + 5) (slots + 164)) : JN l D cA R Qf a b ci cc own nL pc lv (.int 40 :: .int 4 :: st) fs m ad h cells slots := by
  subst hk9
  intro p e s mm args below meth c H locs ls A P Dj S V
  have hts := A.2.2.2.2.2.2.1
  have hK := A.2.2.2.2.2.2.2.2.1
  have hcy : s.vm.findClass (FieldType.array .int).toString = some (cA 0) := (hK.2 0 (cA 0, .int) rfl).2
  rw [← List.append_nil ((a, .inr (ci, fs)) :: WdA ad cA h (b + 1) m)] at P Dj
  refine va_mna (X := (a, .inr (ci, fs)) :: WdA ad cA h (b + 1) m) (L := []) (f := fun _ => .inr (0, [])) (ty := .int) (z := (40, .inl (fun _ => 0))) (N' := 4) (K' := 40) A.1 A.2.1 A.2.2.2.2.2.1 (hts _ hcl) A.2.2.2.2.2.2.2.2.2.2 (hts _ harr) hcy hK P Dj S (fun q h => Fr_up h) (by decide) (by decide) (by decide) (by decide) (by decide) (by decide) (by decide) rfl rfl (by show cells + (1 + 4) ≤ R.cells; omega) (by show slots + (4 + 4 * 40) ≤ R.slots; omega) z40 hd (fun q r c9 H1 hr1 _ K1 P1 D1 S1 => ?_)
  have hc9 : c9 = cA 3 := by
    have q1 : va_RA s c9 (.array .int) := (K1.2 4 (c9, .array .int) rfl).2
    have q2 : va_RA s (cA 3) (.array .int) := (hK.2 3 (cA 3, .array .int) rfl).2
    exact Option.some.inj (q1.symm.trans q2)
  subst hc9
  generalize hv : vr_up (fun _ => (.inr (0, []) : va_E)) ((List.range 4).map r) (.inl (cA 0, (40, .inl (fun _ => 0)))) = vf at P1 D1
  have hvr : ∀ i, i < 4 → vf (r i) = .inl (cA 0, (40, .inl (fun _ => 0))) := fun i hi => by
    rw [← hv]
    exact vr_up_in (List.mem_map.mpr ⟨i, List.mem_range.mpr hi, rfl⟩)
  have eqW : (((a, .inr (ci, fs)) :: WdA ad cA h (b + 1) m) ++ [(q, .inl (cA 3, 4, .inr (.inr (.inr (.inr (fun i => if i < 4 then some (r i) else none))))))]) ++ va_pl ([] ++ (List.range 4).map r) vf = (a, .inr (ci, fs)) :: WdA (comb (va_up ad (b + 1 + m) q) (fun x => r (x - (b + 1 + m + 1))) (b + 1 + m + 1) 4) cA h (b + 1) (m + 5) := by
    rw [List.cons_append, List.cons_append]
    congr 1
    rw [← WdA_app, List.append_assoc]
    congr 1
    · exact (WdA_congr hcb (fun _ _ _ => rfl) (fun _ _ _ => rfl) (fun i h1 h2 => by rw [comb_out (by omega), va_up_ne _ _ (by omega)])).symm
    · have ek : ∀ i, i < 4 → kd (b + 1 + m + 1 + i) = 10 ∧ ln (b + 1 + m + 1 + i) = 40 := fun i hi => lk_row hk hi
      have er : ∀ i, i < 4 → comb (va_up ad (b + 1 + m) q) (fun x => r (x - (b + 1 + m + 1))) (b + 1 + m + 1) 4 (b + 1 + m + 1 + i) = r i := fun i hi => by
        rw [comb_in (by omega) (by omega)]
        show r (b + 1 + m + 1 + i - (b + 1 + m + 1)) = r i
        congr 1
        omega
      have e0 : comb (va_up ad (b + 1 + m) q) (fun x => r (x - (b + 1 + m + 1))) (b + 1 + m + 1) 4 (b + 1 + m) = q := by
        rw [comb_out (by omega), va_up_self]
      generalize comb (va_up ad (b + 1 + m) q) (fun x => r (x - (b + 1 + m + 1))) (b + 1 + m + 1) 4 = ad' at er e0 ⊢
      have ec : ∀ i, i < 4 → cellE ad' cA h (b + 1 + m + 1 + i) = .inl (cA 0, (40, .inl (fun _ => 0))) := fun i hi => by
        rw [cell_I (ek i hi).1 (ek i hi).2, hz i hi]
      have e3 : cellE ad' cA h (b + 1 + m) = .inl (cA 3, 4, .inr (.inr (.inr (.inr (fun i => if i < 4 then some (r i) else none))))) := by
        rw [cell_Q hk]
        have e9 : (fun i => if i < 4 then some (ad' (b + 1 + m + 1 + i)) else none) = (fun i => if i < 4 then some (r i) else none) := by
          funext i
          by_cases hi : i < 4
          · rw [if_pos hi, if_pos hi, er i hi]
          · rw [if_neg hi, if_neg hi]
        rw [e9]
      show [(q, _)] ++ [(r 0, vf (r 0)), (r 1, vf (r 1)), (r 2, vf (r 2)), (r 3, vf (r 3))] = [(ad' (b + 1 + m + 0), cellE ad' cA h (b + 1 + m + 0)), (ad' (b + 1 + m + 1 + 0), cellE ad' cA h (b + 1 + m + 1 + 0)), (ad' (b + 1 + m + 1 + 1), cellE ad' cA h (b + 1 + m + 1 + 1)), (ad' (b + 1 + m + 1 + 2), cellE ad' cA h (b + 1 + m + 1 + 2)), (ad' (b + 1 + m + 1 + 3), cellE ad' cA h (b + 1 + m + 1 + 3))]
      rw [er 0 (by decide), er 1 (by decide), er 2 (by decide), er 3 (by decide), ec 0 (by decide), ec 1 (by decide), ec 2 (by decide), ec 3 (by decide), hvr 0 (by decide), hvr 1 (by decide), hvr 2 (by decide), hvr 3 (by decide), Nat.add_zero, e0, e3]
      rfl
  rw [eqW] at P1 D1
  exact W.cs (by omega) (by omega) (k q r p e s mm args below meth c H1 locs ls A P1 D1 S1 V)
def row4 : Nat → Int32 := (upd (upd (upd (upd (fun _ => 0) 0 (-1)) 1 (-1)) 2 (-1)) 3 (-1))
set_option maxHeartbeats 4000000 in
set_option maxRecDepth 100000 in
theorem c_fill4 (l : Launch) (D : va_G) (cA : Nat → ClassId) (x : Nat) (d : Nat) : Met l yJ7_fill_53178 (Cond.code yJ7_fill_53178 cJ7_fill_53178 4 none :: GT) (rmc d 0 0) (va_Pc [.ref x, .int (-1)] (fun U => va_P D vwCl [(x, .inl (cA 0, 4, .inl (fun _ => 0)))] U.heap ∧ va_K D vwCl (tysW cA) U)) (va_Qv (fun _ : Unit => True) (fun _ t => va_P D vwCl [(x, .inl (cA 0, 4, .inl row4))] t.heap) (fun q => q = x)) 0 0 (fun q => q = x) := by
  refine Met.ofW (cc := cJ7_fill_53178) (maxL := 4) (ret := none) (by decide +kernel) rfl ?_
  intro p e s m args below meth c s₁ B hml hv
  obtain ⟨rfl, hP, hK⟩ := hv
  have hx := B.exec
  have hb := B.bytes
  have hr := B.returns
  have hlocks := B.notSynchronized
  have hS : va_S (fun q => q = x) s.heap s.heap [] := va_S.rf
  have hD : va_D (fun q => q = x) [(x, (.inl (cA 0, 4, .inl (fun _ => 0)) : va_E))] := ⟨fun i j p q hp hq _ => by
    have h1 : i < 1 := (List.getElem?_eq_some_iff.mp hp).1
    have h2 : j < 1 := (List.getElem?_eq_some_iff.mp hq).1
    omega, fun k q hq => by
    have h1 : k < 1 := (List.getElem?_eq_some_iff.mp hq).1
    rw [show k = 0 by omega] at hq
    cases hq
    rfl⟩
  have hl := lv_entry ([.ref x, .int (-1)]) (n := 4) (Nat.le_of_ble_eq_true rfl)
  rw [lg_entry_eq]
  generalize (lg_sl ([.ref x, .int (-1)]) ++ List.replicate (4 - (lg_sl ([.ref x, .int (-1)])).length) Slot.unset).toArray = ls at hl ⊢
  have hl : lv_has ls 4 [(0, .ref x), (1, .int (-1))] := hl
  refine lv_iconst (v := 0) hx hb dJ7_fill_53178_0 (by decide) ?_
  refine lv_istore_n (lv' := [(2, .int 0), (0, .ref x), (1, .int (-1))]) hx hb dJ7_fill_53178_1 rfl hl (by decide) rfl (fun ls hl => ?_)
  refine lv_aload_n hx hb dJ7_fill_53178_2 rfl (lv_at hl 1 rfl) ?_
  refine va_alen (v := 4) hx hb hK hP 0 0 rfl rfl (by decide) dJ7_fill_53178_3 ?_
  refine lv_istore_n (lv' := [(3, .int 4), (2, .int 0), (0, .ref x), (1, .int (-1))]) hx hb dJ7_fill_53178_4 rfl hl (by decide) rfl (fun ls hl => ?_)
  refine lv_iload_n hx hb dJ7_fill_53178_5 rfl (lv_at hl 1 rfl) ?_
  refine lv_iload_n hx hb dJ7_fill_53178_6 rfl (lv_at hl 0 rfl) ?_
  refine lv_icmp_ge (tgt := 20) hx hb dJ7_fill_53178_7 (by decide) (fun q => absurd q (by decide)) (fun _ => ?_)
  refine lv_aload_n hx hb dJ7_fill_53178_10 rfl (lv_at hl 2 rfl) ?_
  refine lv_iload_n hx hb dJ7_fill_53178_11 rfl (lv_at hl 1 rfl) ?_
  refine lv_iload_n hx hb dJ7_fill_53178_12 rfl (lv_at hl 3 rfl) ?_
  refine va_iast hx hb hK hP hD hS 0 0 rfl rfl (ix_in (by decide)) dJ7_fill_53178_13 (fun H locs hP hD hS => ?_)
  have hP : va_P D vwCl [(x, .inl (cA 0, 4, .inl (upd (fun _ => 0) 0 (-1))))] H := hP
  have hD : va_D (fun q => q = x) [(x, .inl (cA 0, 4, .inl (upd (fun _ => 0) 0 (-1))))] := hD
  refine lv_iinc (v := 1) (lv' := [(2, .int 1), (3, .int 4), (0, .ref x), (1, .int (-1))]) hx hb dJ7_fill_53178_14 hl (k := 1) rfl (by decide) (by decide) rfl (fun ls hl => ?_)
  refine lv_goto (tgt := 5) hx hb dJ7_fill_53178_17 (by decide) ?_
  refine lv_iload_n hx hb dJ7_fill_53178_5 rfl (lv_at hl 0 rfl) ?_
  refine lv_iload_n hx hb dJ7_fill_53178_6 rfl (lv_at hl 1 rfl) ?_
  refine lv_icmp_ge (tgt := 20) hx hb dJ7_fill_53178_7 (by decide) (fun q => absurd q (by decide)) (fun _ => ?_)
  refine lv_aload_n hx hb dJ7_fill_53178_10 rfl (lv_at hl 2 rfl) ?_
  refine lv_iload_n hx hb dJ7_fill_53178_11 rfl (lv_at hl 0 rfl) ?_
  refine lv_iload_n hx hb dJ7_fill_53178_12 rfl (lv_at hl 3 rfl) ?_
  refine va_iast hx hb hK hP hD hS 0 0 rfl rfl (ix_in (by decide)) dJ7_fill_53178_13 (fun H locs hP hD hS => ?_)
  have hP : va_P D vwCl [(x, .inl (cA 0, 4, .inl (upd (upd (fun _ => 0) 0 (-1)) 1 (-1))))] H := hP
  have hD : va_D (fun q => q = x) [(x, .inl (cA 0, 4, .inl (upd (upd (fun _ => 0) 0 (-1)) 1 (-1))))] := hD
  refine lv_iinc (v := 2) (lv' := [(2, .int 2), (3, .int 4), (0, .ref x), (1, .int (-1))]) hx hb dJ7_fill_53178_14 hl (k := 0) rfl (by decide) (by decide) rfl (fun ls hl => ?_)
  refine lv_goto (tgt := 5) hx hb dJ7_fill_53178_17 (by decide) ?_
  refine lv_iload_n hx hb dJ7_fill_53178_5 rfl (lv_at hl 0 rfl) ?_
  refine lv_iload_n hx hb dJ7_fill_53178_6 rfl (lv_at hl 1 rfl) ?_
  refine lv_icmp_ge (tgt := 20) hx hb dJ7_fill_53178_7 (by decide) (fun q => absurd q (by decide)) (fun _ => ?_)
  refine lv_aload_n hx hb dJ7_fill_53178_10 rfl (lv_at hl 2 rfl) ?_
  refine lv_iload_n hx hb dJ7_fill_53178_11 rfl (lv_at hl 0 rfl) ?_
  refine lv_iload_n hx hb dJ7_fill_53178_12 rfl (lv_at hl 3 rfl) ?_
  refine va_iast hx hb hK hP hD hS 0 0 rfl rfl (ix_in (by decide)) dJ7_fill_53178_13 (fun H locs hP hD hS => ?_)
  have hP : va_P D vwCl [(x, .inl (cA 0, 4, .inl (upd (upd (upd (fun _ => 0) 0 (-1)) 1 (-1)) 2 (-1))))] H := hP
  have hD : va_D (fun q => q = x) [(x, .inl (cA 0, 4, .inl (upd (upd (upd (fun _ => 0) 0 (-1)) 1 (-1)) 2 (-1))))] := hD
  refine lv_iinc (v := 3) (lv' := [(2, .int 3), (3, .int 4), (0, .ref x), (1, .int (-1))]) hx hb dJ7_fill_53178_14 hl (k := 0) rfl (by decide) (by decide) rfl (fun ls hl => ?_)
  refine lv_goto (tgt := 5) hx hb dJ7_fill_53178_17 (by decide) ?_
  refine lv_iload_n hx hb dJ7_fill_53178_5 rfl (lv_at hl 0 rfl) ?_
  refine lv_iload_n hx hb dJ7_fill_53178_6 rfl (lv_at hl 1 rfl) ?_
  refine lv_icmp_ge (tgt := 20) hx hb dJ7_fill_53178_7 (by decide) (fun q => absurd q (by decide)) (fun _ => ?_)
  refine lv_aload_n hx hb dJ7_fill_53178_10 rfl (lv_at hl 2 rfl) ?_
  refine lv_iload_n hx hb dJ7_fill_53178_11 rfl (lv_at hl 0 rfl) ?_
  refine lv_iload_n hx hb dJ7_fill_53178_12 rfl (lv_at hl 3 rfl) ?_
  refine va_iast hx hb hK hP hD hS 0 0 rfl rfl (ix_in (by decide)) dJ7_fill_53178_13 (fun H locs hP hD hS => ?_)
  have hP : va_P D vwCl [(x, .inl (cA 0, 4, .inl (upd (upd (upd (upd (fun _ => 0) 0 (-1)) 1 (-1)) 2 (-1)) 3 (-1))))] H := hP
  have hD : va_D (fun q => q = x) [(x, .inl (cA 0, 4, .inl (upd (upd (upd (upd (fun _ => 0) 0 (-1)) 1 (-1)) 2 (-1)) 3 (-1))))] := hD
  refine lv_iinc (v := 4) (lv' := [(2, .int 4), (3, .int 4), (0, .ref x), (1, .int (-1))]) hx hb dJ7_fill_53178_14 hl (k := 0) rfl (by decide) (by decide) rfl (fun ls hl => ?_)
  refine lv_goto (tgt := 5) hx hb dJ7_fill_53178_17 (by decide) ?_
  refine lv_iload_n hx hb dJ7_fill_53178_5 rfl (lv_at hl 0 rfl) ?_
  refine lv_iload_n hx hb dJ7_fill_53178_6 rfl (lv_at hl 1 rfl) ?_
  refine lv_icmp_ge (tgt := 20) hx hb dJ7_fill_53178_7 (by decide) (fun _ => ?_) (fun q => absurd (by decide) q)
  exact W.vret hx hb hr (fun t ht hW => ⟨⟨(), rfl, trivial, by show va_P D vwCl [(x, .inl (cA 0, 4, .inl row4))] t.heap; rw [ht]; exact hP⟩, hS.F ht⟩) hS.2.2 dJ7_fill_53178_20 hlocks
set_option maxHeartbeats 4000000 in
theorem n_fill {l : Launch} {D : va_G} {cA : Nat → ClassId} {R : Room} {Qf : List Frame → Array Value → State → State → Prop} {a b ci : Nat} {cc : ByteArray} {own : String} {nL : Nat} {pc : Nat} {lv : List (Nat × Value)} {st : List Value} {fs : List Value} {m : Nat} {ad : Nat → Nat} {h : Hp} {cells slots : Nat} {idx k9 d MC MS : Nat} (j : Nat) (hj : j < m) (hk9 : k9 = b + 1 + j) (hd : decode cc pc = .ok (.invokestatic idx, 3)) (hs : SS own idx yJ7_fill_53178 cJ7_fill_53178 4 none 2) (hk : kd k9 = 10) (hn : ln k9 = 4) (hz : h.1 k9 = fun _ => 0) (hR : R = rmc (d + 1) MC MS) (hst : (st.map fun v => v.category).sum ≤ 8) (hcells : cells ≤ MC) (hslots : slots ≤ MS)
    (k : JN l D cA R Qf a b ci cc own nL (pc + 3) lv st fs m ad (rI h k9 row4) cells slots) : JN l D cA R Qf a b ci cc own nL pc lv (.int (-1) :: .ref (ad k9) :: st) fs m ad h cells slots := by
  subst hk9
  subst hR
  obtain ⟨w1, w2, w4, w5, w6⟩ := hs
  intro p e s mm args below meth c H locs ls A P Dj S V
  have hts := A.2.2.2.2.2.2.1
  have hK := A.2.2.2.2.2.2.2.2.1
  have hat : ((a, .inr (ci, fs)) :: WdA ad cA h (b + 1) m)[j + 1]? = some (ad (b + 1 + j), .inl (cA 0, 4, .inl (fun _ => 0))) := by rw [List.getElem?_cons_succ, WdA_at hj, cell_I hk hn, hz]
  have hq1 : va_P D vwCl [(ad (b + 1 + j), .inl (cA 0, 4, .inl (fun _ => 0)))] H := fun k9 x hx => by
    have h9 : k9 < 1 := (List.getElem?_eq_some_iff.mp hx).1
    rw [show k9 = 0 by omega] at hx
    cases hx
    exact P (j + 1) _ hat
  have hr := va_runS (l := l) (e := e) (R := rmc (d + 1) MC MS) (below := below) (meth := meth) (locs := locs) (cells := cells) (slots := slots) (g := F0 mm pc ls (.int (-1) :: .ref (ad (b + 1 + j)) :: st)) (As := [.ref (ad (b + 1 + j)), .int (-1)]) (rest := st) (n := 2) (H := H) ⟨A.1, A.2.1, A.2.2.1, A.2.2.2.2.2.1, hts⟩ (c_fill4 l D cA (ad (b + 1 + j)) d) ⟨callB_of 2 hts (GT_code (fun _ h => h) w5) rfl rfl rfl (hts _ w4) (hts _ w1) w6 ⟨Nat.le_refl _, by show 8 + (4 + 11) + 64 * d ≤ 64 * (d + 1); omega⟩, hts _ w2⟩ ⟨fun a9 U g mk q => by obtain ⟨q0, q1, q2⟩ := q; exact ⟨q0, q1, va_K.moved (u := U) (U := U.calling g mk a9) (Vm.Alike.refl U.vm) q2⟩, fun U hU hW => ⟨rfl, by rw [hU]; exact hq1, va_K.moved hW.alike hK⟩⟩ rfl rfl V.1 rfl (lv_room hst) hd ⟨hcells, hslots⟩
  have hAx : Fr a s.heap.size (ad (b + 1 + j)) := Dj.2 (j + 1) _ hat
  refine va_callv hr S (fun q _ hq => by rw [hq]; exact hAx) (fun q hq => by rw [hq]; exact hAx) (fun u t H1 locs1 ht hvm hw hB hz1 hk1 S1 => ?_)
  rw [ht] at hB
  have P1 : va_P D vwCl (((a, .inr (ci, fs)) :: WdA ad cA h (b + 1) m).set (j + 1) (ad (b + 1 + j), .inl (cA 0, 4, .inl row4))) H1 := by
    intro i q hi
    by_cases e9 : j + 1 = i
    · subst e9
      rw [List.getElem?_set_self (List.getElem?_eq_some_iff.mp hat).1] at hi
      cases hi
      exact hB 0 _ rfl
    · rw [List.getElem?_set_ne e9] at hi
      exact (P i q hi).kept (hk1 q.1 ((P i q hi).lt) (fun z => e9 (Dj.1 (j + 1) i _ q hat hi z.symm)))
  have D1 := Dj.set (e := .inl (cA 0, 4, .inl row4)) hat
  have e1 : ((a, .inr (ci, fs)) :: WdA ad cA h (b + 1) m).set (j + 1) (ad (b + 1 + j), .inl (cA 0, 4, .inl row4)) = (a, .inr (ci, fs)) :: WdA ad cA (rI h (b + 1 + j) row4) (b + 1) m := by
    rw [List.set_cons_succ, ← WdA_set (h' := rI h (b + 1 + j) row4) hj (fun k e => rI_ne h _ e) (fun _ _ => rfl), cell_I (cA := cA) hk hn, rI_self]
  rw [e1] at P1 D1
  exact k p e s mm args below meth c H1 locs1 ls A P1 D1 S1 V
