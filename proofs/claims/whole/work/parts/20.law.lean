def EL (b L : Nat) (xs : Nat → Int32) (ad : Nat → Nat) (s : State) : Prop := va_X b L xs s s.heap ∧ b < s.heap.size ∧ ∀ k, k < nC → s.heap.size ≤ ad k
def lw_Q (_ : Array Value) (s : State) (o : Outcome) (t : State) : Prop := o = .returned (some (.int 1)) ∧ Framed s o t [] 600000 7302250
def lw_Z (below : List Frame) (a : Array Value) (s : State) : State → Prop := fun t => ∃ o, t.status = .running ∧ Ended t below o ∧ lw_Q a s o t
/-- the law's own end, with 1 on the stack, nothing written that was there before, its room as the claim has it -/
theorem lw_ret {p : Program} {l : Launch} {e : Env} {s : State} {m : MethodId} {below : List Frame} {meth : Method} {c : Code} {b : Nat} (hx : p.tables.exec = Jvm.exec) (hb : c.code = code) (hr : meth.sig.returnType = ret) (hlocks : meth.locks = false) {pc : Nat} {H : Heap} {ls : Array Slot} (hdg : decode code pc = .ok (.ireturn, 1)) : W p l e room_1 s m #[Value.ref b] below meth c H [] 600000 7302250 (lw_Z below #[Value.ref b] s) (F0 m pc ls [.int 1]) := by
  intro T hT X
  obtain ⟨fs, hret, hrun, hended, hW, hframe⟩ := X.leave (v := some (.int 1)) (hlocks := hlocks) (fun h => by rw [hr] at h; cases h)
  have hmeth' : T.vm.method? m = some meth := X.method'
  refine ⟨T.setFrames fs, ?_, .returned (some (.int 1)), hrun, hended, rfl, ⟨_, rfl⟩, hW, hframe⟩
  jvm_step X.here [X.here.top, hx, hb, hdg, hmeth', hr, ret, narrow_b1]
  (try refine ⟨rfl, ?_⟩); (try refine ⟨rfl, ?_⟩)
  first | (intro acts; rw [hret _ acts rfl rfl rfl]) | rw [hret _ _ rfl rfl rfl]
  exact Steps.refl _
def QL (b : Nat) : List Frame → Array Value → State → State → Prop := fun below args s t => args = #[Value.ref b] → lw_Z below args s t
section JL
variable {l : Launch} {D : va_G} {ad : Nat → Nat} {cA : Nat → ClassId} {cc : ByteArray} {own : String} {nL : Nat} {ret : Option FieldType} {pc : Nat} {lv : List (Nat × Value)} {st : List Value} {h : Hp} {α : Type} {o : α} {b L : Nat} {xs : Nat → Int32}
theorem EL_b {s : State} (hE : EL b L xs ad s) : ¬ Ar ad b := fun ⟨k, h1, h2⟩ => by
  have := hE.2.2 k h1
  have := hE.2.1
  omega
theorem j_nm {x : Int32} {g : Int32 → Option α} (hf : lt x g = some o) (k : ∀ w, g w = some o → (J l D ad cA (EL b L xs ad) room_1 (600000, 7302250) (QL b) cc own nL ret (pc) (lv) (.int w :: st) (h))) : (J l D ad cA (EL b L xs ad) room_1 (600000, 7302250) (QL b) cc own nL ret (pc) (lv) (.int x :: st) (h)) := k x hf
theorem j_sld {i : Int32} {A : Option α} (hd : decode cc pc = .ok (.iaload, 1)) (hf : (if ix i L = true then A else none) = some o) (k : A = some o → (J l D ad cA (EL b L xs ad) room_1 (600000, 7302250) (QL b) cc own nL ret (pc + 1) (lv) (.int (xs i.toNatClampNeg) :: st) (h))) : (J l D ad cA (EL b L xs ad) room_1 (600000, 7302250) (QL b) cc own nL ret (pc) (lv) (.int i :: .ref b :: st) (h)) := by
  obtain ⟨h0, hf⟩ := ite_some hf
  exact fun p e s m args below meth c H locs ls A P S V => va_sld A.1 A.2.1 A.2.2.2.2.2.2.2.2.2.2.1 A.2.2.2.2.2.2.2.2.2.2.2.1 (EL_b A.2.2.2.2.2.2.2.2.2.2) S (ix_in h0) hd (k hf p e s m args below meth c H locs ls A P S V)
theorem j_slen (hd : decode cc pc = .ok (.arraylength, 1)) (k : (J l D ad cA (EL b L xs ad) room_1 (600000, 7302250) (QL b) cc own nL ret (pc + 1) (lv) (.int (Int32.ofNat L) :: st) (h))) : (J l D ad cA (EL b L xs ad) room_1 (600000, 7302250) (QL b) cc own nL ret (pc) (lv) (.ref b :: st) (h)) := fun p e s m args below meth c H locs ls A P S V => va_slen A.1 A.2.1 A.2.2.2.2.2.2.2.2.2.2.1 A.2.2.2.2.2.2.2.2.2.2.2.1 (EL_b A.2.2.2.2.2.2.2.2.2.2) S hd (k p e s m args below meth c H locs ls A P S V)
theorem j_callLi {idx ci a n nL' : Nat} {y : MethodName} {cc' : ByteArray} {ret' : Option FieldType} {As sx : List Value} {f : Option (Int32 × Hp)} {g : Int32 × Hp → Option α} (hd : decode cc pc = .ok (.invokevirtual idx, 3)) (hs : SV own idx ci y cc' nL' ret' n) (hk : kd a = ci) (hc : ci < 10) (hn : As.length = n) (hx : As.reverse ++ .ref (ad a) :: st = sx) (hm : 8 + (nL' + 11) + 64 * 40 ≤ 84000) (hst : (st.map fun v => v.category).sum ≤ 8) (hM : ∀ q : Int32 × Hp, f = some q → Cr l D ad cA 40 y cc' nL' ret' (.ref (ad a) :: As) h (some (.int q.1)) q.2) (hf : f.bind g = some o) (k : ∀ q : Int32 × Hp, g q = some o → (J l D ad cA (EL b L xs ad) room_1 (600000, 7302250) (QL b) cc own nL ret (pc + 3) (lv) (.int q.1 :: st) (q.2))) : (J l D ad cA (EL b L xs ad) room_1 (600000, 7302250) (QL b) cc own nL ret (pc) (lv) (sx) (h)) := by
  obtain ⟨q, h1, h2⟩ := Option.bind_eq_some_iff.mp hf
  subst hx
  exact g_V hd hs hk hc hn hst ⟨Nat.le_of_ble_eq_true rfl, hm⟩ ⟨Nat.le_refl _, Nat.le_refl _⟩ (hM q h1) (k q h2)
theorem j_callLl {idx ci a n nL' : Nat} {y : MethodName} {cc' : ByteArray} {ret' : Option FieldType} {As sx : List Value} {f : Option (Int64 × Hp)} {g : Int64 × Hp → Option α} (hd : decode cc pc = .ok (.invokevirtual idx, 3)) (hs : SV own idx ci y cc' nL' ret' n) (hk : kd a = ci) (hc : ci < 10) (hn : As.length = n) (hx : As.reverse ++ .ref (ad a) :: st = sx) (hm : 8 + (nL' + 11) + 64 * 40 ≤ 84000) (hst : (st.map fun v => v.category).sum ≤ 8) (hM : ∀ q : Int64 × Hp, f = some q → Cr l D ad cA 40 y cc' nL' ret' (.ref (ad a) :: As) h (some (.long q.1)) q.2) (hf : f.bind g = some o) (k : ∀ q : Int64 × Hp, g q = some o → (J l D ad cA (EL b L xs ad) room_1 (600000, 7302250) (QL b) cc own nL ret (pc + 3) (lv) (.long q.1 :: st) (q.2))) : (J l D ad cA (EL b L xs ad) room_1 (600000, 7302250) (QL b) cc own nL ret (pc) (lv) (sx) (h)) := by
  obtain ⟨q, h1, h2⟩ := Option.bind_eq_some_iff.mp hf
  subst hx
  exact g_V hd hs hk hc hn hst ⟨Nat.le_of_ble_eq_true rfl, hm⟩ ⟨Nat.le_refl _, Nat.le_refl _⟩ (hM q h1) (k q h2)
theorem j_lawret (hd : decode code pc = .ok (.ireturn, 1)) : J l D ad cA (EL b L xs ad) room_1 (600000, 7302250) (QL b) code own nL (some .boolean) pc lv [.int 1] h := by
  intro p e s m args below meth c H locs ls A P S V
  by_cases ha : args = #[Value.ref b]
  · subst ha
    refine va_forget (fun q hq => ?_) ?_
    · obtain ⟨k, h1, h2⟩ := S.2.2 q hq
      rw [h2]
      exact A.2.2.2.2.2.2.2.2.2.2.2.2 k h1
    · intro T hT X
      obtain ⟨t, a1, b1⟩ := lw_ret (b := b) A.1 A.2.1 A.2.2.2.1 A.2.2.2.2.1 (pc := pc) (H := H) (ls := ls) hd T hT X
      exact ⟨t, a1, fun _ => b1⟩
  · intro T hT X
    exact ⟨_, Steps.refl _, fun h => absurd h ha⟩
end JL
theorem wc_X9_span : Cond.code yX9_span cX9_span 7 (some .long) ∈ GT := wg 1214 (by decide +kernel) rfl
theorem wm_X9_span : Cond.instanceMethod yX9_span ∈ GT := wg 1212 (by decide +kernel) rfl
theorem wl_X9_span : Cond.selects RX9 yX9_span yX9_span ∈ GT := wg 1213 (by decide +kernel) rfl
theorem s1211 : SV RL 101 9 yX9_span cX9_span 7 (some .long) 3 := ⟨⟨_, rfl, rfl⟩, wg 1211 (by decide +kernel) rfl, wm_X9_span, wl_X9_span, wi_RX9, wc_X9_span, ⟨by decide +kernel, by decide +kernel, by decide +kernel⟩⟩
theorem wc_X8_quota : Cond.code yX8_quota cX8_quota 3 (some .int) ∈ GT := wg 620 (by decide +kernel) rfl
theorem wm_X8_quota : Cond.instanceMethod yX8_quota ∈ GT := wg 618 (by decide +kernel) rfl
theorem wl_X8_quota : Cond.selects RX8 yX8_quota yX8_quota ∈ GT := wg 619 (by decide +kernel) rfl
theorem s617 : SV RL 102 8 yX8_quota cX8_quota 3 (some .int) 1 := ⟨⟨_, rfl, rfl⟩, wg 617 (by decide +kernel) rfl, wm_X8_quota, wl_X8_quota, wi_RX8, wc_X8_quota, ⟨by decide +kernel, by decide +kernel, by decide +kernel⟩⟩
theorem wc_X9_quota : Cond.code yX9_quota cX9_quota 12 (some .int) ∈ GT := wg 1222 (by decide +kernel) rfl
theorem wm_X9_quota : Cond.instanceMethod yX9_quota ∈ GT := wg 1220 (by decide +kernel) rfl
theorem wl_X9_quota : Cond.selects RX9 yX9_quota yX9_quota ∈ GT := wg 1221 (by decide +kernel) rfl
theorem s1219 : SV RL 105 9 yX9_quota cX9_quota 12 (some .int) 1 := ⟨⟨_, rfl, rfl⟩, wg 1219 (by decide +kernel) rfl, wm_X9_quota, wl_X9_quota, wi_RX9, wc_X9_quota, ⟨by decide +kernel, by decide +kernel, by decide +kernel⟩⟩
theorem wc_X8_alike : Cond.code yX8_alike cX8_alike 5 (some .int) ∈ GT := wg 628 (by decide +kernel) rfl
theorem wm_X8_alike : Cond.instanceMethod yX8_alike ∈ GT := wg 626 (by decide +kernel) rfl
theorem wl_X8_alike : Cond.selects RX8 yX8_alike yX8_alike ∈ GT := wg 627 (by decide +kernel) rfl
theorem s625 : SV RL 106 8 yX8_alike cX8_alike 5 (some .int) 1 := ⟨⟨_, rfl, rfl⟩, wg 625 (by decide +kernel) rfl, wm_X8_alike, wl_X8_alike, wi_RX8, wc_X8_alike, ⟨by decide +kernel, by decide +kernel, by decide +kernel⟩⟩
theorem wc_X9_alike : Cond.code yX9_alike cX9_alike 4 (some .int) ∈ GT := wg 1226 (by decide +kernel) rfl
theorem wm_X9_alike : Cond.instanceMethod yX9_alike ∈ GT := wg 1224 (by decide +kernel) rfl
theorem wl_X9_alike : Cond.selects RX9 yX9_alike yX9_alike ∈ GT := wg 1225 (by decide +kernel) rfl
theorem s1223 : SV RL 109 9 yX9_alike cX9_alike 4 (some .int) 1 := ⟨⟨_, rfl, rfl⟩, wg 1223 (by decide +kernel) rfl, wm_X9_alike, wl_X9_alike, wi_RX9, wc_X9_alike, ⟨by decide +kernel, by decide +kernel, by decide +kernel⟩⟩
theorem wc_X8_would : Cond.code yX8_would cX8_would 5 (some .int) ∈ GT := wg 632 (by decide +kernel) rfl
theorem wm_X8_would : Cond.instanceMethod yX8_would ∈ GT := wg 630 (by decide +kernel) rfl
theorem wl_X8_would : Cond.selects RX8 yX8_would yX8_would ∈ GT := wg 631 (by decide +kernel) rfl
theorem s629 : SV RL 110 8 yX8_would cX8_would 5 (some .int) 4 := ⟨⟨_, rfl, rfl⟩, wg 629 (by decide +kernel) rfl, wm_X8_would, wl_X8_would, wi_RX8, wc_X8_would, ⟨by decide +kernel, by decide +kernel, by decide +kernel⟩⟩
theorem wc_X9_would : Cond.code yX9_would cX9_would 5 (some .int) ∈ GT := wg 1230 (by decide +kernel) rfl
theorem wm_X9_would : Cond.instanceMethod yX9_would ∈ GT := wg 1228 (by decide +kernel) rfl
theorem wl_X9_would : Cond.selects RX9 yX9_would yX9_would ∈ GT := wg 1229 (by decide +kernel) rfl
theorem s1227 : SV RL 114 9 yX9_would cX9_would 5 (some .int) 4 := ⟨⟨_, rfl, rfl⟩, wg 1227 (by decide +kernel) rfl, wm_X9_would, wl_X9_would, wi_RX9, wc_X9_would, ⟨by decide +kernel, by decide +kernel, by decide +kernel⟩⟩
theorem wc_X8_needs : Cond.code yX8_needs cX8_needs 8 (some .int) ∈ GT := wg 636 (by decide +kernel) rfl
theorem wm_X8_needs : Cond.instanceMethod yX8_needs ∈ GT := wg 634 (by decide +kernel) rfl
theorem wl_X8_needs : Cond.selects RX8 yX8_needs yX8_needs ∈ GT := wg 635 (by decide +kernel) rfl
theorem s633 : SV RL 115 8 yX8_needs cX8_needs 8 (some .int) 3 := ⟨⟨_, rfl, rfl⟩, wg 633 (by decide +kernel) rfl, wm_X8_needs, wl_X8_needs, wi_RX8, wc_X8_needs, ⟨by decide +kernel, by decide +kernel, by decide +kernel⟩⟩
theorem wc_X9_needs : Cond.code yX9_needs cX9_needs 7 (some .int) ∈ GT := wg 1238 (by decide +kernel) rfl
theorem wm_X9_needs : Cond.instanceMethod yX9_needs ∈ GT := wg 1236 (by decide +kernel) rfl
theorem wl_X9_needs : Cond.selects RX9 yX9_needs yX9_needs ∈ GT := wg 1237 (by decide +kernel) rfl
theorem s1235 : SV RL 118 9 yX9_needs cX9_needs 7 (some .int) 3 := ⟨⟨_, rfl, rfl⟩, wg 1235 (by decide +kernel) rfl, wm_X9_needs, wl_X9_needs, wi_RX9, wc_X9_needs, ⟨by decide +kernel, by decide +kernel, by decide +kernel⟩⟩
theorem wc_X8_spell : Cond.code yX8_spell cX8_spell 3 (some .int) ∈ GT := wg 640 (by decide +kernel) rfl
theorem wm_X8_spell : Cond.instanceMethod yX8_spell ∈ GT := wg 638 (by decide +kernel) rfl
theorem wl_X8_spell : Cond.selects RX8 yX8_spell yX8_spell ∈ GT := wg 639 (by decide +kernel) rfl
theorem s637 : SV RL 119 8 yX8_spell cX8_spell 3 (some .int) 1 := ⟨⟨_, rfl, rfl⟩, wg 637 (by decide +kernel) rfl, wm_X8_spell, wl_X8_spell, wi_RX8, wc_X8_spell, ⟨by decide +kernel, by decide +kernel, by decide +kernel⟩⟩
theorem wc_X9_spell : Cond.code yX9_spell cX9_spell 3 (some .int) ∈ GT := wg 1242 (by decide +kernel) rfl
theorem wm_X9_spell : Cond.instanceMethod yX9_spell ∈ GT := wg 1240 (by decide +kernel) rfl
theorem wl_X9_spell : Cond.selects RX9 yX9_spell yX9_spell ∈ GT := wg 1241 (by decide +kernel) rfl
theorem s1239 : SV RL 122 9 yX9_spell cX9_spell 3 (some .int) 1 := ⟨⟨_, rfl, rfl⟩, wg 1239 (by decide +kernel) rfl, wm_X9_spell, wl_X9_spell, wi_RX9, wc_X9_spell, ⟨by decide +kernel, by decide +kernel, by decide +kernel⟩⟩
theorem wc_X8_paper : Cond.code yX8_paper cX8_paper 2 (some .int) ∈ GT := wg 652 (by decide +kernel) rfl
theorem wm_X8_paper : Cond.instanceMethod yX8_paper ∈ GT := wg 650 (by decide +kernel) rfl
theorem wl_X8_paper : Cond.selects RX8 yX8_paper yX8_paper ∈ GT := wg 651 (by decide +kernel) rfl
theorem s649 : SV RL 123 8 yX8_paper cX8_paper 2 (some .int) 1 := ⟨⟨_, rfl, rfl⟩, wg 649 (by decide +kernel) rfl, wm_X8_paper, wl_X8_paper, wi_RX8, wc_X8_paper, ⟨by decide +kernel, by decide +kernel, by decide +kernel⟩⟩
theorem wc_X9_paper : Cond.code yX9_paper cX9_paper 2 (some .int) ∈ GT := wg 1254 (by decide +kernel) rfl
theorem wm_X9_paper : Cond.instanceMethod yX9_paper ∈ GT := wg 1252 (by decide +kernel) rfl
theorem wl_X9_paper : Cond.selects RX9 yX9_paper yX9_paper ∈ GT := wg 1253 (by decide +kernel) rfl
theorem s1251 : SV RL 126 9 yX9_paper cX9_paper 2 (some .int) 1 := ⟨⟨_, rfl, rfl⟩, wg 1251 (by decide +kernel) rfl, wm_X9_paper, wl_X9_paper, wi_RX9, wc_X9_paper, ⟨by decide +kernel, by decide +kernel, by decide +kernel⟩⟩
theorem wc_X8_solve : Cond.code yX8_solve cX8_solve 1 (some .int) ∈ GT := wg 656 (by decide +kernel) rfl
theorem wm_X8_solve : Cond.instanceMethod yX8_solve ∈ GT := wg 654 (by decide +kernel) rfl
theorem wl_X8_solve : Cond.selects RX8 yX8_solve yX8_solve ∈ GT := wg 655 (by decide +kernel) rfl
theorem s653 : SV RL 127 8 yX8_solve cX8_solve 1 (some .int) 0 := ⟨⟨_, rfl, rfl⟩, wg 653 (by decide +kernel) rfl, wm_X8_solve, wl_X8_solve, wi_RX8, wc_X8_solve, ⟨by decide +kernel, by decide +kernel, by decide +kernel⟩⟩
theorem wc_X8_vote : Cond.code yX8_vote cX8_vote 5 (some .int) ∈ GT := wg 369 (by decide +kernel) rfl
theorem wm_X8_vote : Cond.instanceMethod yX8_vote ∈ GT := wg 367 (by decide +kernel) rfl
theorem wl_X8_vote : Cond.selects RX8 yX8_vote yX8_vote ∈ GT := wg 368 (by decide +kernel) rfl
theorem s366 : SV RL 13 8 yX8_vote cX8_vote 5 (some .int) 3 := ⟨⟨_, rfl, rfl⟩, wg 366 (by decide +kernel) rfl, wm_X8_vote, wl_X8_vote, wi_RX8, wc_X8_vote, ⟨by decide +kernel, by decide +kernel, by decide +kernel⟩⟩
theorem wc_X9_solve : Cond.code yX9_solve cX9_solve 1 (some .int) ∈ GT := wg 1258 (by decide +kernel) rfl
theorem wm_X9_solve : Cond.instanceMethod yX9_solve ∈ GT := wg 1256 (by decide +kernel) rfl
theorem wl_X9_solve : Cond.selects RX9 yX9_solve yX9_solve ∈ GT := wg 1257 (by decide +kernel) rfl
theorem s1255 : SV RL 130 9 yX9_solve cX9_solve 1 (some .int) 0 := ⟨⟨_, rfl, rfl⟩, wg 1255 (by decide +kernel) rfl, wm_X9_solve, wl_X9_solve, wi_RX9, wc_X9_solve, ⟨by decide +kernel, by decide +kernel, by decide +kernel⟩⟩
theorem wc_X8_cell : Cond.code yX8_cell cX8_cell 4 (some .int) ∈ GT := wg 733 (by decide +kernel) rfl
theorem wm_X8_cell : Cond.instanceMethod yX8_cell ∈ GT := wg 731 (by decide +kernel) rfl
theorem wl_X8_cell : Cond.selects RX8 yX8_cell yX8_cell ∈ GT := wg 732 (by decide +kernel) rfl
theorem s730 : SV RL 131 8 yX8_cell cX8_cell 4 (some .int) 2 := ⟨⟨_, rfl, rfl⟩, wg 730 (by decide +kernel) rfl, wm_X8_cell, wl_X8_cell, wi_RX8, wc_X8_cell, ⟨by decide +kernel, by decide +kernel, by decide +kernel⟩⟩
theorem wc_X9_cell : Cond.code yX9_cell cX9_cell 4 (some .int) ∈ GT := wg 1328 (by decide +kernel) rfl
theorem wm_X9_cell : Cond.instanceMethod yX9_cell ∈ GT := wg 1326 (by decide +kernel) rfl
theorem wl_X9_cell : Cond.selects RX9 yX9_cell yX9_cell ∈ GT := wg 1327 (by decide +kernel) rfl
theorem s1325 : SV RL 134 9 yX9_cell cX9_cell 4 (some .int) 2 := ⟨⟨_, rfl, rfl⟩, wg 1325 (by decide +kernel) rfl, wm_X9_cell, wl_X9_cell, wi_RX9, wc_X9_cell, ⟨by decide +kernel, by decide +kernel, by decide +kernel⟩⟩
theorem wc_X8_bound : Cond.code yX8_bound cX8_bound 4 (some .long) ∈ GT := wg 737 (by decide +kernel) rfl
theorem wm_X8_bound : Cond.instanceMethod yX8_bound ∈ GT := wg 735 (by decide +kernel) rfl
theorem wl_X8_bound : Cond.selects RX8 yX8_bound yX8_bound ∈ GT := wg 736 (by decide +kernel) rfl
theorem s734 : SV RL 135 8 yX8_bound cX8_bound 4 (some .long) 3 := ⟨⟨_, rfl, rfl⟩, wg 734 (by decide +kernel) rfl, wm_X8_bound, wl_X8_bound, wi_RX8, wc_X8_bound, ⟨by decide +kernel, by decide +kernel, by decide +kernel⟩⟩
theorem wc_X9_bound : Cond.code yX9_bound cX9_bound 19 (some .long) ∈ GT := wg 1332 (by decide +kernel) rfl
theorem wm_X9_bound : Cond.instanceMethod yX9_bound ∈ GT := wg 1330 (by decide +kernel) rfl
theorem wl_X9_bound : Cond.selects RX9 yX9_bound yX9_bound ∈ GT := wg 1331 (by decide +kernel) rfl
theorem s1329 : SV RL 138 9 yX9_bound cX9_bound 19 (some .long) 3 := ⟨⟨_, rfl, rfl⟩, wg 1329 (by decide +kernel) rfl, wm_X9_bound, wl_X9_bound, wi_RX9, wc_X9_bound, ⟨by decide +kernel, by decide +kernel, by decide +kernel⟩⟩
theorem wc_X8_judge : Cond.code yX8_judge cX8_judge 5 (some .int) ∈ GT := wg 751 (by decide +kernel) rfl
theorem wm_X8_judge : Cond.instanceMethod yX8_judge ∈ GT := wg 749 (by decide +kernel) rfl
theorem wl_X8_judge : Cond.selects RX8 yX8_judge yX8_judge ∈ GT := wg 750 (by decide +kernel) rfl
theorem s748 : SV RL 139 8 yX8_judge cX8_judge 5 (some .int) 3 := ⟨⟨_, rfl, rfl⟩, wg 748 (by decide +kernel) rfl, wm_X8_judge, wl_X8_judge, wi_RX8, wc_X8_judge, ⟨by decide +kernel, by decide +kernel, by decide +kernel⟩⟩
theorem wc_X9_judge : Cond.code yX9_judge cX9_judge 6 (some .int) ∈ GT := wg 1355 (by decide +kernel) rfl
theorem wm_X9_judge : Cond.instanceMethod yX9_judge ∈ GT := wg 1353 (by decide +kernel) rfl
theorem wl_X9_judge : Cond.selects RX9 yX9_judge yX9_judge ∈ GT := wg 1354 (by decide +kernel) rfl
theorem s1352 : SV RL 142 9 yX9_judge cX9_judge 6 (some .int) 3 := ⟨⟨_, rfl, rfl⟩, wg 1352 (by decide +kernel) rfl, wm_X9_judge, wl_X9_judge, wi_RX9, wc_X9_judge, ⟨by decide +kernel, by decide +kernel, by decide +kernel⟩⟩
theorem wc_X8_moved : Cond.code yX8_moved cX8_moved 2 (some .int) ∈ GT := wg 768 (by decide +kernel) rfl
theorem wm_X8_moved : Cond.instanceMethod yX8_moved ∈ GT := wg 766 (by decide +kernel) rfl
theorem wl_X8_moved : Cond.selects RX8 yX8_moved yX8_moved ∈ GT := wg 767 (by decide +kernel) rfl
theorem s765 : SV RL 143 8 yX8_moved cX8_moved 2 (some .int) 0 := ⟨⟨_, rfl, rfl⟩, wg 765 (by decide +kernel) rfl, wm_X8_moved, wl_X8_moved, wi_RX8, wc_X8_moved, ⟨by decide +kernel, by decide +kernel, by decide +kernel⟩⟩
theorem wc_X9_moved : Cond.code yX9_moved cX9_moved 5 (some .int) ∈ GT := wg 1364 (by decide +kernel) rfl
theorem wm_X9_moved : Cond.instanceMethod yX9_moved ∈ GT := wg 1362 (by decide +kernel) rfl
theorem wl_X9_moved : Cond.selects RX9 yX9_moved yX9_moved ∈ GT := wg 1363 (by decide +kernel) rfl
theorem s1361 : SV RL 146 9 yX9_moved cX9_moved 5 (some .int) 0 := ⟨⟨_, rfl, rfl⟩, wg 1361 (by decide +kernel) rfl, wm_X9_moved, wl_X9_moved, wi_RX9, wc_X9_moved, ⟨by decide +kernel, by decide +kernel, by decide +kernel⟩⟩
theorem wc_X8_spellPlan : Cond.code yX8_spellPlan cX8_spellPlan 3 (some .int) ∈ GT := wg 780 (by decide +kernel) rfl
theorem wm_X8_spellPlan : Cond.instanceMethod yX8_spellPlan ∈ GT := wg 778 (by decide +kernel) rfl
theorem wl_X8_spellPlan : Cond.selects RX8 yX8_spellPlan yX8_spellPlan ∈ GT := wg 779 (by decide +kernel) rfl
theorem s777 : SV RL 147 8 yX8_spellPlan cX8_spellPlan 3 (some .int) 0 := ⟨⟨_, rfl, rfl⟩, wg 777 (by decide +kernel) rfl, wm_X8_spellPlan, wl_X8_spellPlan, wi_RX8, wc_X8_spellPlan, ⟨by decide +kernel, by decide +kernel, by decide +kernel⟩⟩
theorem wc_X9_spellPlan : Cond.code yX9_spellPlan cX9_spellPlan 3 (some .int) ∈ GT := wg 1368 (by decide +kernel) rfl
theorem wm_X9_spellPlan : Cond.instanceMethod yX9_spellPlan ∈ GT := wg 1366 (by decide +kernel) rfl
theorem wl_X9_spellPlan : Cond.selects RX9 yX9_spellPlan yX9_spellPlan ∈ GT := wg 1367 (by decide +kernel) rfl
theorem s1365 : SV RL 150 9 yX9_spellPlan cX9_spellPlan 3 (some .int) 0 := ⟨⟨_, rfl, rfl⟩, wg 1365 (by decide +kernel) rfl, wm_X9_spellPlan, wl_X9_spellPlan, wi_RX9, wc_X9_spellPlan, ⟨by decide +kernel, by decide +kernel, by decide +kernel⟩⟩
theorem wc_X8_told : Cond.code yX8_told cX8_told 2 (some .int) ∈ GT := wg 785 (by decide +kernel) rfl
theorem wm_X8_told : Cond.instanceMethod yX8_told ∈ GT := wg 783 (by decide +kernel) rfl
theorem wl_X8_told : Cond.selects RX8 yX8_told yX8_told ∈ GT := wg 784 (by decide +kernel) rfl
theorem s782 : SV RL 151 8 yX8_told cX8_told 2 (some .int) 1 := ⟨⟨_, rfl, rfl⟩, wg 782 (by decide +kernel) rfl, wm_X8_told, wl_X8_told, wi_RX8, wc_X8_told, ⟨by decide +kernel, by decide +kernel, by decide +kernel⟩⟩
theorem wc_X9_told : Cond.code yX9_told cX9_told 2 (some .int) ∈ GT := wg 1372 (by decide +kernel) rfl
theorem wm_X9_told : Cond.instanceMethod yX9_told ∈ GT := wg 1370 (by decide +kernel) rfl
theorem wl_X9_told : Cond.selects RX9 yX9_told yX9_told ∈ GT := wg 1371 (by decide +kernel) rfl
theorem s1369 : SV RL 154 9 yX9_told cX9_told 2 (some .int) 1 := ⟨⟨_, rfl, rfl⟩, wg 1369 (by decide +kernel) rfl, wm_X9_told, wl_X9_told, wi_RX9, wc_X9_told, ⟨by decide +kernel, by decide +kernel, by decide +kernel⟩⟩
theorem wc_X8_row : Cond.code yX8_row cX8_row 3 (some .int) ∈ GT := wg 797 (by decide +kernel) rfl
theorem wm_X8_row : Cond.instanceMethod yX8_row ∈ GT := wg 795 (by decide +kernel) rfl
theorem wl_X8_row : Cond.selects RX8 yX8_row yX8_row ∈ GT := wg 796 (by decide +kernel) rfl
theorem s794 : SV RL 155 8 yX8_row cX8_row 3 (some .int) 2 := ⟨⟨_, rfl, rfl⟩, wg 794 (by decide +kernel) rfl, wm_X8_row, wl_X8_row, wi_RX8, wc_X8_row, ⟨by decide +kernel, by decide +kernel, by decide +kernel⟩⟩
theorem wc_X9_row : Cond.code yX9_row cX9_row 4 (some .int) ∈ GT := wg 1336 (by decide +kernel) rfl
theorem wm_X9_row : Cond.instanceMethod yX9_row ∈ GT := wg 1334 (by decide +kernel) rfl
theorem wl_X9_row : Cond.selects RX9 yX9_row yX9_row ∈ GT := wg 1335 (by decide +kernel) rfl
theorem s1333 : SV RL 158 9 yX9_row cX9_row 4 (some .int) 2 := ⟨⟨_, rfl, rfl⟩, wg 1333 (by decide +kernel) rfl, wm_X9_row, wl_X9_row, wi_RX9, wc_X9_row, ⟨by decide +kernel, by decide +kernel, by decide +kernel⟩⟩
theorem wc_X8_set : Cond.code yX8_set cX8_set 4 (some .int) ∈ GT := wg 805 (by decide +kernel) rfl
theorem wm_X8_set : Cond.instanceMethod yX8_set ∈ GT := wg 803 (by decide +kernel) rfl
theorem wl_X8_set : Cond.selects RX8 yX8_set yX8_set ∈ GT := wg 804 (by decide +kernel) rfl
theorem s802 : SV RL 159 8 yX8_set cX8_set 4 (some .int) 3 := ⟨⟨_, rfl, rfl⟩, wg 802 (by decide +kernel) rfl, wm_X8_set, wl_X8_set, wi_RX8, wc_X8_set, ⟨by decide +kernel, by decide +kernel, by decide +kernel⟩⟩
theorem wc_X9_set : Cond.code yX9_set cX9_set 4 (some .int) ∈ GT := wg 1343 (by decide +kernel) rfl
theorem wm_X9_set : Cond.instanceMethod yX9_set ∈ GT := wg 1341 (by decide +kernel) rfl
theorem wl_X9_set : Cond.selects RX9 yX9_set yX9_set ∈ GT := wg 1342 (by decide +kernel) rfl
theorem s1340 : SV RL 162 9 yX9_set cX9_set 4 (some .int) 3 := ⟨⟨_, rfl, rfl⟩, wg 1340 (by decide +kernel) rfl, wm_X9_set, wl_X9_set, wi_RX9, wc_X9_set, ⟨by decide +kernel, by decide +kernel, by decide +kernel⟩⟩
theorem wc_X8_get : Cond.code yX8_get cX8_get 3 (some .long) ∈ GT := wg 821 (by decide +kernel) rfl
theorem wm_X8_get : Cond.instanceMethod yX8_get ∈ GT := wg 819 (by decide +kernel) rfl
theorem wl_X8_get : Cond.selects RX8 yX8_get yX8_get ∈ GT := wg 820 (by decide +kernel) rfl
theorem s818 : SV RL 163 8 yX8_get cX8_get 3 (some .long) 2 := ⟨⟨_, rfl, rfl⟩, wg 818 (by decide +kernel) rfl, wm_X8_get, wl_X8_get, wi_RX8, wc_X8_get, ⟨by decide +kernel, by decide +kernel, by decide +kernel⟩⟩
theorem wc_X9_get : Cond.code yX9_get cX9_get 3 (some .long) ∈ GT := wg 1347 (by decide +kernel) rfl
theorem wm_X9_get : Cond.instanceMethod yX9_get ∈ GT := wg 1345 (by decide +kernel) rfl
theorem wl_X9_get : Cond.selects RX9 yX9_get yX9_get ∈ GT := wg 1346 (by decide +kernel) rfl
theorem s1344 : SV RL 167 9 yX9_get cX9_get 3 (some .long) 2 := ⟨⟨_, rfl, rfl⟩, wg 1344 (by decide +kernel) rfl, wm_X9_get, wl_X9_get, wi_RX9, wc_X9_get, ⟨by decide +kernel, by decide +kernel, by decide +kernel⟩⟩
theorem wc_X8_lay : Cond.code yX8_lay cX8_lay 4 (some .int) ∈ GT := wg 826 (by decide +kernel) rfl
theorem wm_X8_lay : Cond.instanceMethod yX8_lay ∈ GT := wg 824 (by decide +kernel) rfl
theorem wl_X8_lay : Cond.selects RX8 yX8_lay yX8_lay ∈ GT := wg 825 (by decide +kernel) rfl
theorem s823 : SV RL 168 8 yX8_lay cX8_lay 4 (some .int) 2 := ⟨⟨_, rfl, rfl⟩, wg 823 (by decide +kernel) rfl, wm_X8_lay, wl_X8_lay, wi_RX8, wc_X8_lay, ⟨by decide +kernel, by decide +kernel, by decide +kernel⟩⟩
theorem wc_X9_vote : Cond.code yX9_vote cX9_vote 4 (some .int) ∈ GT := wg 977 (by decide +kernel) rfl
theorem wm_X9_vote : Cond.instanceMethod yX9_vote ∈ GT := wg 975 (by decide +kernel) rfl
theorem wl_X9_vote : Cond.selects RX9 yX9_vote yX9_vote ∈ GT := wg 976 (by decide +kernel) rfl
theorem s974 : SV RL 17 9 yX9_vote cX9_vote 4 (some .int) 3 := ⟨⟨_, rfl, rfl⟩, wg 974 (by decide +kernel) rfl, wm_X9_vote, wl_X9_vote, wi_RX9, wc_X9_vote, ⟨by decide +kernel, by decide +kernel, by decide +kernel⟩⟩
theorem wc_X9_lay : Cond.code yX9_lay cX9_lay 5 (some .int) ∈ GT := wg 1351 (by decide +kernel) rfl
theorem wm_X9_lay : Cond.instanceMethod yX9_lay ∈ GT := wg 1349 (by decide +kernel) rfl
theorem wl_X9_lay : Cond.selects RX9 yX9_lay yX9_lay ∈ GT := wg 1350 (by decide +kernel) rfl
theorem s1348 : SV RL 171 9 yX9_lay cX9_lay 5 (some .int) 2 := ⟨⟨_, rfl, rfl⟩, wg 1348 (by decide +kernel) rfl, wm_X9_lay, wl_X9_lay, wi_RX9, wc_X9_lay, ⟨by decide +kernel, by decide +kernel, by decide +kernel⟩⟩
theorem wc_X8_image : Cond.code yX8_image cX8_image 1 (some .int) ∈ GT := wg 835 (by decide +kernel) rfl
theorem wm_X8_image : Cond.instanceMethod yX8_image ∈ GT := wg 833 (by decide +kernel) rfl
theorem wl_X8_image : Cond.selects RX8 yX8_image yX8_image ∈ GT := wg 834 (by decide +kernel) rfl
theorem s832 : SV RL 172 8 yX8_image cX8_image 1 (some .int) 0 := ⟨⟨_, rfl, rfl⟩, wg 832 (by decide +kernel) rfl, wm_X8_image, wl_X8_image, wi_RX8, wc_X8_image, ⟨by decide +kernel, by decide +kernel, by decide +kernel⟩⟩
theorem wc_X9_image : Cond.code yX9_image cX9_image 1 (some .int) ∈ GT := wg 1389 (by decide +kernel) rfl
theorem wm_X9_image : Cond.instanceMethod yX9_image ∈ GT := wg 1387 (by decide +kernel) rfl
theorem wl_X9_image : Cond.selects RX9 yX9_image yX9_image ∈ GT := wg 1388 (by decide +kernel) rfl
theorem s1386 : SV RL 175 9 yX9_image cX9_image 1 (some .int) 0 := ⟨⟨_, rfl, rfl⟩, wg 1386 (by decide +kernel) rfl, wm_X9_image, wl_X9_image, wi_RX9, wc_X9_image, ⟨by decide +kernel, by decide +kernel, by decide +kernel⟩⟩
theorem wc_X8_undo : Cond.code yX8_undo cX8_undo 1 (some .int) ∈ GT := wg 839 (by decide +kernel) rfl
theorem wm_X8_undo : Cond.instanceMethod yX8_undo ∈ GT := wg 837 (by decide +kernel) rfl
theorem wl_X8_undo : Cond.selects RX8 yX8_undo yX8_undo ∈ GT := wg 838 (by decide +kernel) rfl
theorem s836 : SV RL 176 8 yX8_undo cX8_undo 1 (some .int) 0 := ⟨⟨_, rfl, rfl⟩, wg 836 (by decide +kernel) rfl, wm_X8_undo, wl_X8_undo, wi_RX8, wc_X8_undo, ⟨by decide +kernel, by decide +kernel, by decide +kernel⟩⟩
theorem wc_X9_undo : Cond.code yX9_undo cX9_undo 1 (some .int) ∈ GT := wg 1394 (by decide +kernel) rfl
theorem wm_X9_undo : Cond.instanceMethod yX9_undo ∈ GT := wg 1392 (by decide +kernel) rfl
theorem wl_X9_undo : Cond.selects RX9 yX9_undo yX9_undo ∈ GT := wg 1393 (by decide +kernel) rfl
theorem s1391 : SV RL 179 9 yX9_undo cX9_undo 1 (some .int) 0 := ⟨⟨_, rfl, rfl⟩, wg 1391 (by decide +kernel) rfl, wm_X9_undo, wl_X9_undo, wi_RX9, wc_X9_undo, ⟨by decide +kernel, by decide +kernel, by decide +kernel⟩⟩
theorem wc_X8_votes : Cond.code yX8_votes cX8_votes 3 (some .int) ∈ GT := wg 384 (by decide +kernel) rfl
theorem wm_X8_votes : Cond.instanceMethod yX8_votes ∈ GT := wg 382 (by decide +kernel) rfl
theorem wl_X8_votes : Cond.selects RX8 yX8_votes yX8_votes ∈ GT := wg 383 (by decide +kernel) rfl
theorem s381 : SV RL 18 8 yX8_votes cX8_votes 3 (some .int) 2 := ⟨⟨_, rfl, rfl⟩, wg 381 (by decide +kernel) rfl, wm_X8_votes, wl_X8_votes, wi_RX8, wc_X8_votes, ⟨by decide +kernel, by decide +kernel, by decide +kernel⟩⟩
theorem wc_X9_votes : Cond.code yX9_votes cX9_votes 3 (some .int) ∈ GT := wg 997 (by decide +kernel) rfl
theorem wm_X9_votes : Cond.instanceMethod yX9_votes ∈ GT := wg 995 (by decide +kernel) rfl
theorem wl_X9_votes : Cond.selects RX9 yX9_votes yX9_votes ∈ GT := wg 996 (by decide +kernel) rfl
theorem s994 : SV RL 22 9 yX9_votes cX9_votes 3 (some .int) 2 := ⟨⟨_, rfl, rfl⟩, wg 994 (by decide +kernel) rfl, wm_X9_votes, wl_X9_votes, wi_RX9, wc_X9_votes, ⟨by decide +kernel, by decide +kernel, by decide +kernel⟩⟩
theorem wc_X8_seats : Cond.code yX8_seats cX8_seats 4 (some .int) ∈ GT := wg 401 (by decide +kernel) rfl
theorem wm_X8_seats : Cond.instanceMethod yX8_seats ∈ GT := wg 399 (by decide +kernel) rfl
theorem wl_X8_seats : Cond.selects RX8 yX8_seats yX8_seats ∈ GT := wg 400 (by decide +kernel) rfl
theorem s398 : SV RL 23 8 yX8_seats cX8_seats 4 (some .int) 2 := ⟨⟨_, rfl, rfl⟩, wg 398 (by decide +kernel) rfl, wm_X8_seats, wl_X8_seats, wi_RX8, wc_X8_seats, ⟨by decide +kernel, by decide +kernel, by decide +kernel⟩⟩
theorem wc_X9_seats : Cond.code yX9_seats cX9_seats 3 (some .int) ∈ GT := wg 1017 (by decide +kernel) rfl
theorem wm_X9_seats : Cond.instanceMethod yX9_seats ∈ GT := wg 1015 (by decide +kernel) rfl
theorem wl_X9_seats : Cond.selects RX9 yX9_seats yX9_seats ∈ GT := wg 1016 (by decide +kernel) rfl
theorem s1014 : SV RL 26 9 yX9_seats cX9_seats 3 (some .int) 2 := ⟨⟨_, rfl, rfl⟩, wg 1014 (by decide +kernel) rfl, wm_X9_seats, wl_X9_seats, wi_RX9, wc_X9_seats, ⟨by decide +kernel, by decide +kernel, by decide +kernel⟩⟩
theorem wc_X8_least : Cond.code yX8_least cX8_least 4 (some .int) ∈ GT := wg 405 (by decide +kernel) rfl
theorem wm_X8_least : Cond.instanceMethod yX8_least ∈ GT := wg 403 (by decide +kernel) rfl
theorem wl_X8_least : Cond.selects RX8 yX8_least yX8_least ∈ GT := wg 404 (by decide +kernel) rfl
theorem s402 : SV RL 27 8 yX8_least cX8_least 4 (some .int) 2 := ⟨⟨_, rfl, rfl⟩, wg 402 (by decide +kernel) rfl, wm_X8_least, wl_X8_least, wi_RX8, wc_X8_least, ⟨by decide +kernel, by decide +kernel, by decide +kernel⟩⟩
theorem wc_X9_least : Cond.code yX9_least cX9_least 3 (some .int) ∈ GT := wg 1022 (by decide +kernel) rfl
theorem wm_X9_least : Cond.instanceMethod yX9_least ∈ GT := wg 1020 (by decide +kernel) rfl
theorem wl_X9_least : Cond.selects RX9 yX9_least yX9_least ∈ GT := wg 1021 (by decide +kernel) rfl
theorem s1019 : SV RL 30 9 yX9_least cX9_least 3 (some .int) 2 := ⟨⟨_, rfl, rfl⟩, wg 1019 (by decide +kernel) rfl, wm_X9_least, wl_X9_least, wi_RX9, wc_X9_least, ⟨by decide +kernel, by decide +kernel, by decide +kernel⟩⟩
theorem wc_X8_join : Cond.code yX8_join cX8_join 4 (some .int) ∈ GT := wg 409 (by decide +kernel) rfl
theorem wm_X8_join : Cond.instanceMethod yX8_join ∈ GT := wg 407 (by decide +kernel) rfl
theorem wl_X8_join : Cond.selects RX8 yX8_join yX8_join ∈ GT := wg 408 (by decide +kernel) rfl
theorem s406 : SV RL 31 8 yX8_join cX8_join 4 (some .int) 2 := ⟨⟨_, rfl, rfl⟩, wg 406 (by decide +kernel) rfl, wm_X8_join, wl_X8_join, wi_RX8, wc_X8_join, ⟨by decide +kernel, by decide +kernel, by decide +kernel⟩⟩
theorem wc_X9_join : Cond.code yX9_join cX9_join 3 (some .int) ∈ GT := wg 1027 (by decide +kernel) rfl
theorem wm_X9_join : Cond.instanceMethod yX9_join ∈ GT := wg 1025 (by decide +kernel) rfl
theorem wl_X9_join : Cond.selects RX9 yX9_join yX9_join ∈ GT := wg 1026 (by decide +kernel) rfl
theorem s1024 : SV RL 34 9 yX9_join cX9_join 3 (some .int) 2 := ⟨⟨_, rfl, rfl⟩, wg 1024 (by decide +kernel) rfl, wm_X9_join, wl_X9_join, wi_RX9, wc_X9_join, ⟨by decide +kernel, by decide +kernel, by decide +kernel⟩⟩
theorem wc_X8_bar : Cond.code yX8_bar cX8_bar 3 (some .int) ∈ GT := wg 413 (by decide +kernel) rfl
theorem wm_X8_bar : Cond.instanceMethod yX8_bar ∈ GT := wg 411 (by decide +kernel) rfl
theorem wl_X8_bar : Cond.selects RX8 yX8_bar yX8_bar ∈ GT := wg 412 (by decide +kernel) rfl
theorem s410 : SV RL 35 8 yX8_bar cX8_bar 3 (some .int) 1 := ⟨⟨_, rfl, rfl⟩, wg 410 (by decide +kernel) rfl, wm_X8_bar, wl_X8_bar, wi_RX8, wc_X8_bar, ⟨by decide +kernel, by decide +kernel, by decide +kernel⟩⟩
theorem wc_X9_bar : Cond.code yX9_bar cX9_bar 2 (some .int) ∈ GT := wg 1031 (by decide +kernel) rfl
theorem wm_X9_bar : Cond.instanceMethod yX9_bar ∈ GT := wg 1029 (by decide +kernel) rfl
theorem wl_X9_bar : Cond.selects RX9 yX9_bar yX9_bar ∈ GT := wg 1030 (by decide +kernel) rfl
theorem s1028 : SV RL 39 9 yX9_bar cX9_bar 2 (some .int) 1 := ⟨⟨_, rfl, rfl⟩, wg 1028 (by decide +kernel) rfl, wm_X9_bar, wl_X9_bar, wi_RX9, wc_X9_bar, ⟨by decide +kernel, by decide +kernel, by decide +kernel⟩⟩
theorem wc_X8_way : Cond.code yX8_way cX8_way 3 (some .int) ∈ GT := wg 417 (by decide +kernel) rfl
theorem wm_X8_way : Cond.instanceMethod yX8_way ∈ GT := wg 415 (by decide +kernel) rfl
theorem wl_X8_way : Cond.selects RX8 yX8_way yX8_way ∈ GT := wg 416 (by decide +kernel) rfl
theorem s414 : SV RL 40 8 yX8_way cX8_way 3 (some .int) 1 := ⟨⟨_, rfl, rfl⟩, wg 414 (by decide +kernel) rfl, wm_X8_way, wl_X8_way, wi_RX8, wc_X8_way, ⟨by decide +kernel, by decide +kernel, by decide +kernel⟩⟩
theorem wc_X9_way : Cond.code yX9_way cX9_way 2 (some .int) ∈ GT := wg 1036 (by decide +kernel) rfl
theorem wm_X9_way : Cond.instanceMethod yX9_way ∈ GT := wg 1034 (by decide +kernel) rfl
theorem wl_X9_way : Cond.selects RX9 yX9_way yX9_way ∈ GT := wg 1035 (by decide +kernel) rfl
theorem s1033 : SV RL 43 9 yX9_way cX9_way 2 (some .int) 1 := ⟨⟨_, rfl, rfl⟩, wg 1033 (by decide +kernel) rfl, wm_X9_way, wl_X9_way, wi_RX9, wc_X9_way, ⟨by decide +kernel, by decide +kernel, by decide +kernel⟩⟩
theorem wc_X8_tell : Cond.code yX8_tell cX8_tell 3 (some .int) ∈ GT := wg 421 (by decide +kernel) rfl
theorem wm_X8_tell : Cond.instanceMethod yX8_tell ∈ GT := wg 419 (by decide +kernel) rfl
theorem wl_X8_tell : Cond.selects RX8 yX8_tell yX8_tell ∈ GT := wg 420 (by decide +kernel) rfl
theorem s418 : SV RL 44 8 yX8_tell cX8_tell 3 (some .int) 2 := ⟨⟨_, rfl, rfl⟩, wg 418 (by decide +kernel) rfl, wm_X8_tell, wl_X8_tell, wi_RX8, wc_X8_tell, ⟨by decide +kernel, by decide +kernel, by decide +kernel⟩⟩
theorem wc_X9_tell : Cond.code yX9_tell cX9_tell 3 (some .int) ∈ GT := wg 1041 (by decide +kernel) rfl
theorem wm_X9_tell : Cond.instanceMethod yX9_tell ∈ GT := wg 1039 (by decide +kernel) rfl
theorem wl_X9_tell : Cond.selects RX9 yX9_tell yX9_tell ∈ GT := wg 1040 (by decide +kernel) rfl
theorem s1038 : SV RL 47 9 yX9_tell cX9_tell 3 (some .int) 2 := ⟨⟨_, rfl, rfl⟩, wg 1038 (by decide +kernel) rfl, wm_X9_tell, wl_X9_tell, wi_RX9, wc_X9_tell, ⟨by decide +kernel, by decide +kernel, by decide +kernel⟩⟩
theorem wc_X8_feed : Cond.code yX8_feed cX8_feed 2 (some .int) ∈ GT := wg 425 (by decide +kernel) rfl
theorem wm_X8_feed : Cond.instanceMethod yX8_feed ∈ GT := wg 423 (by decide +kernel) rfl
theorem wl_X8_feed : Cond.selects RX8 yX8_feed yX8_feed ∈ GT := wg 424 (by decide +kernel) rfl
theorem s422 : SV RL 48 8 yX8_feed cX8_feed 2 (some .int) 1 := ⟨⟨_, rfl, rfl⟩, wg 422 (by decide +kernel) rfl, wm_X8_feed, wl_X8_feed, wi_RX8, wc_X8_feed, ⟨by decide +kernel, by decide +kernel, by decide +kernel⟩⟩
theorem wc_X9_feed : Cond.code yX9_feed cX9_feed 2 (some .int) ∈ GT := wg 1046 (by decide +kernel) rfl
theorem wm_X9_feed : Cond.instanceMethod yX9_feed ∈ GT := wg 1044 (by decide +kernel) rfl
theorem wl_X9_feed : Cond.selects RX9 yX9_feed yX9_feed ∈ GT := wg 1045 (by decide +kernel) rfl
theorem s1043 : SV RL 51 9 yX9_feed cX9_feed 2 (some .int) 1 := ⟨⟨_, rfl, rfl⟩, wg 1043 (by decide +kernel) rfl, wm_X9_feed, wl_X9_feed, wi_RX9, wc_X9_feed, ⟨by decide +kernel, by decide +kernel, by decide +kernel⟩⟩
theorem wc_X8_clear : Cond.code yX8_clear cX8_clear 2 (some .int) ∈ GT := wg 433 (by decide +kernel) rfl
theorem wm_X8_clear : Cond.instanceMethod yX8_clear ∈ GT := wg 431 (by decide +kernel) rfl
theorem wl_X8_clear : Cond.selects RX8 yX8_clear yX8_clear ∈ GT := wg 432 (by decide +kernel) rfl
theorem s430 : SV RL 52 8 yX8_clear cX8_clear 2 (some .int) 0 := ⟨⟨_, rfl, rfl⟩, wg 430 (by decide +kernel) rfl, wm_X8_clear, wl_X8_clear, wi_RX8, wc_X8_clear, ⟨by decide +kernel, by decide +kernel, by decide +kernel⟩⟩
theorem wc_X9_clear : Cond.code yX9_clear cX9_clear 2 (some .int) ∈ GT := wg 1051 (by decide +kernel) rfl
theorem wm_X9_clear : Cond.instanceMethod yX9_clear ∈ GT := wg 1049 (by decide +kernel) rfl
theorem wl_X9_clear : Cond.selects RX9 yX9_clear yX9_clear ∈ GT := wg 1050 (by decide +kernel) rfl
theorem s1048 : SV RL 56 9 yX9_clear cX9_clear 2 (some .int) 0 := ⟨⟨_, rfl, rfl⟩, wg 1048 (by decide +kernel) rfl, wm_X9_clear, wl_X9_clear, wi_RX9, wc_X9_clear, ⟨by decide +kernel, by decide +kernel, by decide +kernel⟩⟩
theorem wc_X8_read : Cond.code yX8_read cX8_read 3 (some .int) ∈ GT := wg 437 (by decide +kernel) rfl
theorem wm_X8_read : Cond.instanceMethod yX8_read ∈ GT := wg 435 (by decide +kernel) rfl
theorem wl_X8_read : Cond.selects RX8 yX8_read yX8_read ∈ GT := wg 436 (by decide +kernel) rfl
theorem s434 : SV RL 57 8 yX8_read cX8_read 3 (some .int) 1 := ⟨⟨_, rfl, rfl⟩, wg 434 (by decide +kernel) rfl, wm_X8_read, wl_X8_read, wi_RX8, wc_X8_read, ⟨by decide +kernel, by decide +kernel, by decide +kernel⟩⟩
theorem wc_X9_read : Cond.code yX9_read cX9_read 4 (some .int) ∈ GT := wg 1055 (by decide +kernel) rfl
theorem wm_X9_read : Cond.instanceMethod yX9_read ∈ GT := wg 1053 (by decide +kernel) rfl
theorem wl_X9_read : Cond.selects RX9 yX9_read yX9_read ∈ GT := wg 1054 (by decide +kernel) rfl
theorem s1052 : SV RL 60 9 yX9_read cX9_read 4 (some .int) 1 := ⟨⟨_, rfl, rfl⟩, wg 1052 (by decide +kernel) rfl, wm_X9_read, wl_X9_read, wi_RX9, wc_X9_read, ⟨by decide +kernel, by decide +kernel, by decide +kernel⟩⟩
theorem wc_X8_in : Cond.code yX8_in cX8_in 1 (some .int) ∈ GT := wg 466 (by decide +kernel) rfl
theorem wm_X8_in : Cond.instanceMethod yX8_in ∈ GT := wg 464 (by decide +kernel) rfl
theorem wl_X8_in : Cond.selects RX8 yX8_in yX8_in ∈ GT := wg 465 (by decide +kernel) rfl
theorem s463 : SV RL 61 8 yX8_in cX8_in 1 (some .int) 0 := ⟨⟨_, rfl, rfl⟩, wg 463 (by decide +kernel) rfl, wm_X8_in, wl_X8_in, wi_RX8, wc_X8_in, ⟨by decide +kernel, by decide +kernel, by decide +kernel⟩⟩
theorem wc_X9_in : Cond.code yX9_in cX9_in 3 (some .int) ∈ GT := wg 1105 (by decide +kernel) rfl
theorem wm_X9_in : Cond.instanceMethod yX9_in ∈ GT := wg 1103 (by decide +kernel) rfl
theorem wl_X9_in : Cond.selects RX9 yX9_in yX9_in ∈ GT := wg 1104 (by decide +kernel) rfl
theorem s1102 : SV RL 64 9 yX9_in cX9_in 3 (some .int) 0 := ⟨⟨_, rfl, rfl⟩, wg 1102 (by decide +kernel) rfl, wm_X9_in, wl_X9_in, wi_RX9, wc_X9_in, ⟨by decide +kernel, by decide +kernel, by decide +kernel⟩⟩
theorem wc_X8_house : Cond.code yX8_house cX8_house 4 (some .int) ∈ GT := wg 477 (by decide +kernel) rfl
theorem wm_X8_house : Cond.instanceMethod yX8_house ∈ GT := wg 475 (by decide +kernel) rfl
theorem wl_X8_house : Cond.selects RX8 yX8_house yX8_house ∈ GT := wg 476 (by decide +kernel) rfl
theorem s474 : SV RL 65 8 yX8_house cX8_house 4 (some .int) 2 := ⟨⟨_, rfl, rfl⟩, wg 474 (by decide +kernel) rfl, wm_X8_house, wl_X8_house, wi_RX8, wc_X8_house, ⟨by decide +kernel, by decide +kernel, by decide +kernel⟩⟩
theorem wc_X9_house : Cond.code yX9_house cX9_house 3 (some .int) ∈ GT := wg 1114 (by decide +kernel) rfl
theorem wm_X9_house : Cond.instanceMethod yX9_house ∈ GT := wg 1112 (by decide +kernel) rfl
theorem wl_X9_house : Cond.selects RX9 yX9_house yX9_house ∈ GT := wg 1113 (by decide +kernel) rfl
theorem s1111 : SV RL 68 9 yX9_house cX9_house 3 (some .int) 2 := ⟨⟨_, rfl, rfl⟩, wg 1111 (by decide +kernel) rfl, wm_X9_house, wl_X9_house, wi_RX9, wc_X9_house, ⟨by decide +kernel, by decide +kernel, by decide +kernel⟩⟩
theorem wc_X8_list : Cond.code yX8_list cX8_list 4 (some .int) ∈ GT := wg 558 (by decide +kernel) rfl
theorem wm_X8_list : Cond.instanceMethod yX8_list ∈ GT := wg 556 (by decide +kernel) rfl
theorem wl_X8_list : Cond.selects RX8 yX8_list yX8_list ∈ GT := wg 557 (by decide +kernel) rfl
theorem s555 : SV RL 69 8 yX8_list cX8_list 4 (some .int) 2 := ⟨⟨_, rfl, rfl⟩, wg 555 (by decide +kernel) rfl, wm_X8_list, wl_X8_list, wi_RX8, wc_X8_list, ⟨by decide +kernel, by decide +kernel, by decide +kernel⟩⟩
theorem wc_X9_list : Cond.code yX9_list cX9_list 3 (some .int) ∈ GT := wg 1173 (by decide +kernel) rfl
theorem wm_X9_list : Cond.instanceMethod yX9_list ∈ GT := wg 1171 (by decide +kernel) rfl
theorem wl_X9_list : Cond.selects RX9 yX9_list yX9_list ∈ GT := wg 1172 (by decide +kernel) rfl
theorem s1170 : SV RL 72 9 yX9_list cX9_list 3 (some .int) 2 := ⟨⟨_, rfl, rfl⟩, wg 1170 (by decide +kernel) rfl, wm_X9_list, wl_X9_list, wi_RX9, wc_X9_list, ⟨by decide +kernel, by decide +kernel, by decide +kernel⟩⟩
theorem wc_X8_given : Cond.code yX8_given cX8_given 4 (some .int) ∈ GT := wg 562 (by decide +kernel) rfl
theorem wm_X8_given : Cond.instanceMethod yX8_given ∈ GT := wg 560 (by decide +kernel) rfl
theorem wl_X8_given : Cond.selects RX8 yX8_given yX8_given ∈ GT := wg 561 (by decide +kernel) rfl
theorem s559 : SV RL 73 8 yX8_given cX8_given 4 (some .int) 2 := ⟨⟨_, rfl, rfl⟩, wg 559 (by decide +kernel) rfl, wm_X8_given, wl_X8_given, wi_RX8, wc_X8_given, ⟨by decide +kernel, by decide +kernel, by decide +kernel⟩⟩
theorem wc_X9_given : Cond.code yX9_given cX9_given 4 (some .int) ∈ GT := wg 1177 (by decide +kernel) rfl
theorem wm_X9_given : Cond.instanceMethod yX9_given ∈ GT := wg 1175 (by decide +kernel) rfl
theorem wl_X9_given : Cond.selects RX9 yX9_given yX9_given ∈ GT := wg 1176 (by decide +kernel) rfl
theorem s1174 : SV RL 76 9 yX9_given cX9_given 4 (some .int) 2 := ⟨⟨_, rfl, rfl⟩, wg 1174 (by decide +kernel) rfl, wm_X9_given, wl_X9_given, wi_RX9, wc_X9_given, ⟨by decide +kernel, by decide +kernel, by decide +kernel⟩⟩
theorem wc_X8_tie : Cond.code yX8_tie cX8_tie 3 (some .int) ∈ GT := wg 570 (by decide +kernel) rfl
theorem wm_X8_tie : Cond.instanceMethod yX8_tie ∈ GT := wg 568 (by decide +kernel) rfl
theorem wl_X8_tie : Cond.selects RX8 yX8_tie yX8_tie ∈ GT := wg 569 (by decide +kernel) rfl
theorem s567 : SV RL 77 8 yX8_tie cX8_tie 3 (some .int) 1 := ⟨⟨_, rfl, rfl⟩, wg 567 (by decide +kernel) rfl, wm_X8_tie, wl_X8_tie, wi_RX8, wc_X8_tie, ⟨by decide +kernel, by decide +kernel, by decide +kernel⟩⟩
theorem wc_X9_tie : Cond.code yX9_tie cX9_tie 3 (some .int) ∈ GT := wg 1185 (by decide +kernel) rfl
theorem wm_X9_tie : Cond.instanceMethod yX9_tie ∈ GT := wg 1183 (by decide +kernel) rfl
theorem wl_X9_tie : Cond.selects RX9 yX9_tie yX9_tie ∈ GT := wg 1184 (by decide +kernel) rfl
theorem s1182 : SV RL 80 9 yX9_tie cX9_tie 3 (some .int) 1 := ⟨⟨_, rfl, rfl⟩, wg 1182 (by decide +kernel) rfl, wm_X9_tie, wl_X9_tie, wi_RX9, wc_X9_tie, ⟨by decide +kernel, by decide +kernel, by decide +kernel⟩⟩
theorem wc_X8_differ : Cond.code yX8_differ cX8_differ 4 (some .int) ∈ GT := wg 574 (by decide +kernel) rfl
theorem wm_X8_differ : Cond.instanceMethod yX8_differ ∈ GT := wg 572 (by decide +kernel) rfl
theorem wl_X8_differ : Cond.selects RX8 yX8_differ yX8_differ ∈ GT := wg 573 (by decide +kernel) rfl
theorem s571 : SV RL 81 8 yX8_differ cX8_differ 4 (some .int) 3 := ⟨⟨_, rfl, rfl⟩, wg 571 (by decide +kernel) rfl, wm_X8_differ, wl_X8_differ, wi_RX8, wc_X8_differ, ⟨by decide +kernel, by decide +kernel, by decide +kernel⟩⟩
theorem wc_X9_differ : Cond.code yX9_differ cX9_differ 4 (some .int) ∈ GT := wg 1189 (by decide +kernel) rfl
theorem wm_X9_differ : Cond.instanceMethod yX9_differ ∈ GT := wg 1187 (by decide +kernel) rfl
theorem wl_X9_differ : Cond.selects RX9 yX9_differ yX9_differ ∈ GT := wg 1188 (by decide +kernel) rfl
theorem s1186 : SV RL 84 9 yX9_differ cX9_differ 4 (some .int) 3 := ⟨⟨_, rfl, rfl⟩, wg 1186 (by decide +kernel) rfl, wm_X9_differ, wl_X9_differ, wi_RX9, wc_X9_differ, ⟨by decide +kernel, by decide +kernel, by decide +kernel⟩⟩
theorem wc_X8_loses : Cond.code yX8_loses cX8_loses 9 (some .int) ∈ GT := wg 585 (by decide +kernel) rfl
theorem wm_X8_loses : Cond.instanceMethod yX8_loses ∈ GT := wg 583 (by decide +kernel) rfl
theorem wl_X8_loses : Cond.selects RX8 yX8_loses yX8_loses ∈ GT := wg 584 (by decide +kernel) rfl
theorem s582 : SV RL 85 8 yX8_loses cX8_loses 9 (some .int) 2 := ⟨⟨_, rfl, rfl⟩, wg 582 (by decide +kernel) rfl, wm_X8_loses, wl_X8_loses, wi_RX8, wc_X8_loses, ⟨by decide +kernel, by decide +kernel, by decide +kernel⟩⟩
theorem wc_X9_loses : Cond.code yX9_loses cX9_loses 4 (some .int) ∈ GT := wg 1202 (by decide +kernel) rfl
theorem wm_X9_loses : Cond.instanceMethod yX9_loses ∈ GT := wg 1200 (by decide +kernel) rfl
theorem wl_X9_loses : Cond.selects RX9 yX9_loses yX9_loses ∈ GT := wg 1201 (by decide +kernel) rfl
theorem s1199 : SV RL 88 9 yX9_loses cX9_loses 4 (some .int) 2 := ⟨⟨_, rfl, rfl⟩, wg 1199 (by decide +kernel) rfl, wm_X9_loses, wl_X9_loses, wi_RX9, wc_X9_loses, ⟨by decide +kernel, by decide +kernel, by decide +kernel⟩⟩
theorem wc_X8_loser : Cond.code yX8_loser cX8_loser 3 (some .int) ∈ GT := wg 593 (by decide +kernel) rfl
theorem wm_X8_loser : Cond.instanceMethod yX8_loser ∈ GT := wg 591 (by decide +kernel) rfl
theorem wl_X8_loser : Cond.selects RX8 yX8_loser yX8_loser ∈ GT := wg 592 (by decide +kernel) rfl
theorem s590 : SV RL 89 8 yX8_loser cX8_loser 3 (some .int) 1 := ⟨⟨_, rfl, rfl⟩, wg 590 (by decide +kernel) rfl, wm_X8_loser, wl_X8_loser, wi_RX8, wc_X8_loser, ⟨by decide +kernel, by decide +kernel, by decide +kernel⟩⟩
theorem wc_X9_loser : Cond.code yX9_loser cX9_loser 2 (some .int) ∈ GT := wg 1210 (by decide +kernel) rfl
theorem wm_X9_loser : Cond.instanceMethod yX9_loser ∈ GT := wg 1208 (by decide +kernel) rfl
theorem wl_X9_loser : Cond.selects RX9 yX9_loser yX9_loser ∈ GT := wg 1209 (by decide +kernel) rfl
theorem s1207 : SV RL 92 9 yX9_loser cX9_loser 2 (some .int) 1 := ⟨⟨_, rfl, rfl⟩, wg 1207 (by decide +kernel) rfl, wm_X9_loser, wl_X9_loser, wi_RX9, wc_X9_loser, ⟨by decide +kernel, by decide +kernel, by decide +kernel⟩⟩
theorem wc_X8_price : Cond.code yX8_price cX8_price 6 (some .long) ∈ GT := wg 597 (by decide +kernel) rfl
theorem wm_X8_price : Cond.instanceMethod yX8_price ∈ GT := wg 595 (by decide +kernel) rfl
theorem wl_X8_price : Cond.selects RX8 yX8_price yX8_price ∈ GT := wg 596 (by decide +kernel) rfl
theorem s594 : SV RL 93 8 yX8_price cX8_price 6 (some .long) 3 := ⟨⟨_, rfl, rfl⟩, wg 594 (by decide +kernel) rfl, wm_X8_price, wl_X8_price, wi_RX8, wc_X8_price, ⟨by decide +kernel, by decide +kernel, by decide +kernel⟩⟩
theorem wc_X9_price : Cond.code yX9_price cX9_price 4 (some .long) ∈ GT := wg 1074 (by decide +kernel) rfl
theorem wm_X9_price : Cond.instanceMethod yX9_price ∈ GT := wg 1072 (by decide +kernel) rfl
theorem wl_X9_price : Cond.selects RX9 yX9_price yX9_price ∈ GT := wg 1073 (by decide +kernel) rfl
theorem s1071 : SV RL 97 9 yX9_price cX9_price 4 (some .long) 3 := ⟨⟨_, rfl, rfl⟩, wg 1071 (by decide +kernel) rfl, wm_X9_price, wl_X9_price, wi_RX9, wc_X9_price, ⟨by decide +kernel, by decide +kernel, by decide +kernel⟩⟩
theorem wc_X8_span : Cond.code yX8_span cX8_span 4 (some .long) ∈ GT := wg 610 (by decide +kernel) rfl
theorem wm_X8_span : Cond.instanceMethod yX8_span ∈ GT := wg 608 (by decide +kernel) rfl
theorem wl_X8_span : Cond.selects RX8 yX8_span yX8_span ∈ GT := wg 609 (by decide +kernel) rfl
theorem s607 : SV RL 98 8 yX8_span cX8_span 4 (some .long) 3 := ⟨⟨_, rfl, rfl⟩, wg 607 (by decide +kernel) rfl, wm_X8_span, wl_X8_span, wi_RX8, wc_X8_span, ⟨by decide +kernel, by decide +kernel, by decide +kernel⟩⟩

def f_law_c0 (xs : Nat → Int32) (L : Nat) (k18 : Int32 → Hp → Option Unit) (x3 : Int32) (h : Hp) : Option Unit := if ix (x3 + 1) L = true then (if ix (x3 + 2) L = true then (if ix (x3 + 3) L = true then ((f_X8_vote 0 (xs (Int32.toNatClampNeg (x3 + 1))) (xs (Int32.toNatClampNeg (x3 + 2))) (xs (Int32.toNatClampNeg (x3 + 3))) h).bind (fun q2 => if ix (x3 + 1) L = true then (if ix (x3 + 2) L = true then (if ix (x3 + 3) L = true then ((f_X9_vote 108 (xs (Int32.toNatClampNeg (x3 + 1))) (xs (Int32.toNatClampNeg (x3 + 2))) (xs (Int32.toNatClampNeg (x3 + 3))) q2.2).bind (fun q3 => if q2.1 = q3.1 then (lt (x3 + 5) (fun v4 => k18 v4 q3.2)) else (none))) else none) else none) else none)) else none) else none) else none
set_option maxHeartbeats 4000000 in
set_option maxRecDepth 100000 in
theorem t_law_c0 {l : Launch} {D : va_G} {ad : Nat → Nat} {cA : Nat → ClassId} {b L : Nat} {xs : Nat → Int32} {o : Unit} {k18 : Int32 → Hp → Option Unit} (hk18 : ∀ {x3 : Int32} {h : Hp}, k18 x3 h = some o → J l D ad cA (EL b L xs ad) room_1 (600000, 7302250) (QL b) cL_law RL 4 (some .boolean) 18 [(0, .ref b), (1, .ref (ad 0)), (2, .ref (ad 108)), (3, .int x3)] [] h) {x3 : Int32} {h : Hp} (hf : f_law_c0 xs L k18 x3 h = some o) : J l D ad cA (EL b L xs ad) room_1 (600000, 7302250) (QL b) cL_law RL 4 (some .boolean) 208 [(0, .ref b), (1, .ref (ad 0)), (2, .ref (ad 108)), (3, .int x3)] [] h := by
  unfold f_law_c0 at hf
  refine j_aload_n (pc := 208) 1 dL_law_208 rfl rfl ?_
  refine j_aload_n (pc := 209) 0 dL_law_209 rfl rfl ?_
  refine j_iload_n (pc := 210) 3 dL_law_210 rfl rfl ?_
  refine j_iconst (pc := 211) dL_law_211 (v := 1) (by decide) ?_
  refine j_iadd (pc := 212) dL_law_212  ?_
  refine j_sld (pc := 213) dL_law_213 hf (fun hf => ?_)
  refine j_aload_n (pc := 214) 0 dL_law_214 rfl rfl ?_
  refine j_iload_n (pc := 215) 3 dL_law_215 rfl rfl ?_
  refine j_iconst (pc := 216) dL_law_216 (v := 2) (by decide) ?_
  refine j_iadd (pc := 217) dL_law_217  ?_
  refine j_sld (pc := 218) dL_law_218 hf (fun hf => ?_)
  refine j_aload_n (pc := 219) 0 dL_law_219 rfl rfl ?_
  refine j_iload_n (pc := 220) 3 dL_law_220 rfl rfl ?_
  refine j_iconst (pc := 221) dL_law_221 (v := 3) (by decide) ?_
  refine j_iadd (pc := 222) dL_law_222  ?_
  refine j_sld (pc := 223) dL_law_223 hf (fun hf => ?_)
  refine j_callLi (pc := 224) (As := [.int (xs (Int32.toNatClampNeg (x3 + 1))), .int (xs (Int32.toNatClampNeg (x3 + 2))), .int (xs (Int32.toNatClampNeg (x3 + 3)))]) (st := []) dL_law_224 s366 (by decide) (by decide) rfl rfl (Nat.le_of_ble_eq_true rfl) (Nat.le_of_ble_eq_true rfl) (fun q hq => t_X8_vote (by decide) (by decide) hq) hf (fun q2 hf => ?_)
  refine j_aload_n (pc := 227) 2 dL_law_227 rfl rfl ?_
  refine j_aload_n (pc := 228) 0 dL_law_228 rfl rfl ?_
  refine j_iload_n (pc := 229) 3 dL_law_229 rfl rfl ?_
  refine j_iconst (pc := 230) dL_law_230 (v := 1) (by decide) ?_
  refine j_iadd (pc := 231) dL_law_231  ?_
  refine j_sld (pc := 232) dL_law_232 hf (fun hf => ?_)
  refine j_aload_n (pc := 233) 0 dL_law_233 rfl rfl ?_
  refine j_iload_n (pc := 234) 3 dL_law_234 rfl rfl ?_
  refine j_iconst (pc := 235) dL_law_235 (v := 2) (by decide) ?_
  refine j_iadd (pc := 236) dL_law_236  ?_
  refine j_sld (pc := 237) dL_law_237 hf (fun hf => ?_)
  refine j_aload_n (pc := 238) 0 dL_law_238 rfl rfl ?_
  refine j_iload_n (pc := 239) 3 dL_law_239 rfl rfl ?_
  refine j_iconst (pc := 240) dL_law_240 (v := 3) (by decide) ?_
  refine j_iadd (pc := 241) dL_law_241  ?_
  refine j_sld (pc := 242) dL_law_242 hf (fun hf => ?_)
  refine j_callLi (pc := 243) (As := [.int (xs (Int32.toNatClampNeg (x3 + 1))), .int (xs (Int32.toNatClampNeg (x3 + 2))), .int (xs (Int32.toNatClampNeg (x3 + 3)))]) (st := [.int q2.1]) dL_law_243 s974 (by decide) (by decide) rfl rfl (Nat.le_of_ble_eq_true rfl) (Nat.le_of_ble_eq_true rfl) (fun q hq => t_X9_vote (by decide) (by decide) hq) hf (fun q3 hf => ?_)
  refine j_icmp_eq (pc := 246) (tgt := 1382) dL_law_246 (by decide) hf (fun _ hf => ?_) (fun _ hf => ?_)
  · refine j_iinc (pc := 1382) 3 (c := 5) (lv' := fun v4 => [(3, .int v4), (0, .ref b), (1, .ref (ad 0)), (2, .ref (ad 108))]) dL_law_1382 rfl (by decide) (by decide) (fun _ => rfl) hf (fun v4 hf => ?_)
    refine j_goto (pc := 1385) (tgt := 18) dL_law_1385 (by decide) ?_
    refine j_sub [1, 2, 3, 0] rfl ?_
    exact hk18 hf
  · refine j_iconst (pc := 249) dL_law_249 (v := 0) (by decide) ?_
    cases hf
def f_law_c1 (xs : Nat → Int32) (L : Nat) (k18 : Int32 → Hp → Option Unit) (x3 : Int32) (h : Hp) : Option Unit := if ix (x3 + 1) L = true then (if ix (x3 + 2) L = true then ((f_X8_votes 0 (xs (Int32.toNatClampNeg (x3 + 1))) (xs (Int32.toNatClampNeg (x3 + 2))) h).bind (fun q5 => if ix (x3 + 1) L = true then (if ix (x3 + 2) L = true then ((f_X9_votes 108 (xs (Int32.toNatClampNeg (x3 + 1))) (xs (Int32.toNatClampNeg (x3 + 2))) q5.2).bind (fun q6 => if q5.1 = q6.1 then (lt (x3 + 5) (fun v7 => k18 v7 q6.2)) else (none))) else none) else none)) else none) else none
set_option maxHeartbeats 4000000 in
set_option maxRecDepth 100000 in
theorem t_law_c1 {l : Launch} {D : va_G} {ad : Nat → Nat} {cA : Nat → ClassId} {b L : Nat} {xs : Nat → Int32} {o : Unit} {k18 : Int32 → Hp → Option Unit} (hk18 : ∀ {x3 : Int32} {h : Hp}, k18 x3 h = some o → J l D ad cA (EL b L xs ad) room_1 (600000, 7302250) (QL b) cL_law RL 4 (some .boolean) 18 [(0, .ref b), (1, .ref (ad 0)), (2, .ref (ad 108)), (3, .int x3)] [] h) {x3 : Int32} {h : Hp} (hf : f_law_c1 xs L k18 x3 h = some o) : J l D ad cA (EL b L xs ad) room_1 (600000, 7302250) (QL b) cL_law RL 4 (some .boolean) 251 [(0, .ref b), (1, .ref (ad 0)), (2, .ref (ad 108)), (3, .int x3)] [] h := by
  unfold f_law_c1 at hf
  refine j_aload_n (pc := 251) 1 dL_law_251 rfl rfl ?_
  refine j_aload_n (pc := 252) 0 dL_law_252 rfl rfl ?_
  refine j_iload_n (pc := 253) 3 dL_law_253 rfl rfl ?_
  refine j_iconst (pc := 254) dL_law_254 (v := 1) (by decide) ?_
  refine j_iadd (pc := 255) dL_law_255  ?_
  refine j_sld (pc := 256) dL_law_256 hf (fun hf => ?_)
  refine j_aload_n (pc := 257) 0 dL_law_257 rfl rfl ?_
  refine j_iload_n (pc := 258) 3 dL_law_258 rfl rfl ?_
  refine j_iconst (pc := 259) dL_law_259 (v := 2) (by decide) ?_
  refine j_iadd (pc := 260) dL_law_260  ?_
  refine j_sld (pc := 261) dL_law_261 hf (fun hf => ?_)
  refine j_callLi (pc := 262) (As := [.int (xs (Int32.toNatClampNeg (x3 + 1))), .int (xs (Int32.toNatClampNeg (x3 + 2)))]) (st := []) dL_law_262 s381 (by decide) (by decide) rfl rfl (Nat.le_of_ble_eq_true rfl) (Nat.le_of_ble_eq_true rfl) (fun q hq => t_X8_votes (by decide) (by decide) hq) hf (fun q5 hf => ?_)
  refine j_aload_n (pc := 265) 2 dL_law_265 rfl rfl ?_
  refine j_aload_n (pc := 266) 0 dL_law_266 rfl rfl ?_
  refine j_iload_n (pc := 267) 3 dL_law_267 rfl rfl ?_
  refine j_iconst (pc := 268) dL_law_268 (v := 1) (by decide) ?_
  refine j_iadd (pc := 269) dL_law_269  ?_
  refine j_sld (pc := 270) dL_law_270 hf (fun hf => ?_)
  refine j_aload_n (pc := 271) 0 dL_law_271 rfl rfl ?_
  refine j_iload_n (pc := 272) 3 dL_law_272 rfl rfl ?_
  refine j_iconst (pc := 273) dL_law_273 (v := 2) (by decide) ?_
  refine j_iadd (pc := 274) dL_law_274  ?_
  refine j_sld (pc := 275) dL_law_275 hf (fun hf => ?_)
  refine j_callLi (pc := 276) (As := [.int (xs (Int32.toNatClampNeg (x3 + 1))), .int (xs (Int32.toNatClampNeg (x3 + 2)))]) (st := [.int q5.1]) dL_law_276 s994 (by decide) (by decide) rfl rfl (Nat.le_of_ble_eq_true rfl) (Nat.le_of_ble_eq_true rfl) (fun q hq => t_X9_votes (by decide) (by decide) hq) hf (fun q6 hf => ?_)
  refine j_icmp_eq (pc := 279) (tgt := 1382) dL_law_279 (by decide) hf (fun _ hf => ?_) (fun _ hf => ?_)
  · refine j_iinc (pc := 1382) 3 (c := 5) (lv' := fun v7 => [(3, .int v7), (0, .ref b), (1, .ref (ad 0)), (2, .ref (ad 108))]) dL_law_1382 rfl (by decide) (by decide) (fun _ => rfl) hf (fun v7 hf => ?_)
    refine j_goto (pc := 1385) (tgt := 18) dL_law_1385 (by decide) ?_
    refine j_sub [1, 2, 3, 0] rfl ?_
    exact hk18 hf
  · refine j_iconst (pc := 282) dL_law_282 (v := 0) (by decide) ?_
    cases hf
def f_law_c2 (xs : Nat → Int32) (L : Nat) (k18 : Int32 → Hp → Option Unit) (x3 : Int32) (h : Hp) : Option Unit := if ix (x3 + 1) L = true then (if ix (x3 + 2) L = true then ((f_X8_seats 0 (xs (Int32.toNatClampNeg (x3 + 1))) (xs (Int32.toNatClampNeg (x3 + 2))) h).bind (fun q8 => if ix (x3 + 1) L = true then (if ix (x3 + 2) L = true then ((f_X9_seats 108 (xs (Int32.toNatClampNeg (x3 + 1))) (xs (Int32.toNatClampNeg (x3 + 2))) q8.2).bind (fun q9 => if q8.1 = q9.1 then (lt (x3 + 5) (fun v10 => k18 v10 q9.2)) else (none))) else none) else none)) else none) else none
set_option maxHeartbeats 4000000 in
set_option maxRecDepth 100000 in
theorem t_law_c2 {l : Launch} {D : va_G} {ad : Nat → Nat} {cA : Nat → ClassId} {b L : Nat} {xs : Nat → Int32} {o : Unit} {k18 : Int32 → Hp → Option Unit} (hk18 : ∀ {x3 : Int32} {h : Hp}, k18 x3 h = some o → J l D ad cA (EL b L xs ad) room_1 (600000, 7302250) (QL b) cL_law RL 4 (some .boolean) 18 [(0, .ref b), (1, .ref (ad 0)), (2, .ref (ad 108)), (3, .int x3)] [] h) {x3 : Int32} {h : Hp} (hf : f_law_c2 xs L k18 x3 h = some o) : J l D ad cA (EL b L xs ad) room_1 (600000, 7302250) (QL b) cL_law RL 4 (some .boolean) 284 [(0, .ref b), (1, .ref (ad 0)), (2, .ref (ad 108)), (3, .int x3)] [] h := by
  unfold f_law_c2 at hf
  refine j_aload_n (pc := 284) 1 dL_law_284 rfl rfl ?_
  refine j_aload_n (pc := 285) 0 dL_law_285 rfl rfl ?_
  refine j_iload_n (pc := 286) 3 dL_law_286 rfl rfl ?_
  refine j_iconst (pc := 287) dL_law_287 (v := 1) (by decide) ?_
  refine j_iadd (pc := 288) dL_law_288  ?_
  refine j_sld (pc := 289) dL_law_289 hf (fun hf => ?_)
  refine j_aload_n (pc := 290) 0 dL_law_290 rfl rfl ?_
  refine j_iload_n (pc := 291) 3 dL_law_291 rfl rfl ?_
  refine j_iconst (pc := 292) dL_law_292 (v := 2) (by decide) ?_
  refine j_iadd (pc := 293) dL_law_293  ?_
  refine j_sld (pc := 294) dL_law_294 hf (fun hf => ?_)
  refine j_callLi (pc := 295) (As := [.int (xs (Int32.toNatClampNeg (x3 + 1))), .int (xs (Int32.toNatClampNeg (x3 + 2)))]) (st := []) dL_law_295 s398 (by decide) (by decide) rfl rfl (Nat.le_of_ble_eq_true rfl) (Nat.le_of_ble_eq_true rfl) (fun q hq => t_X8_seats (by decide) (by decide) hq) hf (fun q8 hf => ?_)
  refine j_aload_n (pc := 298) 2 dL_law_298 rfl rfl ?_
  refine j_aload_n (pc := 299) 0 dL_law_299 rfl rfl ?_
  refine j_iload_n (pc := 300) 3 dL_law_300 rfl rfl ?_
  refine j_iconst (pc := 301) dL_law_301 (v := 1) (by decide) ?_
  refine j_iadd (pc := 302) dL_law_302  ?_
  refine j_sld (pc := 303) dL_law_303 hf (fun hf => ?_)
  refine j_aload_n (pc := 304) 0 dL_law_304 rfl rfl ?_
  refine j_iload_n (pc := 305) 3 dL_law_305 rfl rfl ?_
  refine j_iconst (pc := 306) dL_law_306 (v := 2) (by decide) ?_
  refine j_iadd (pc := 307) dL_law_307  ?_
  refine j_sld (pc := 308) dL_law_308 hf (fun hf => ?_)
  refine j_callLi (pc := 309) (As := [.int (xs (Int32.toNatClampNeg (x3 + 1))), .int (xs (Int32.toNatClampNeg (x3 + 2)))]) (st := [.int q8.1]) dL_law_309 s1014 (by decide) (by decide) rfl rfl (Nat.le_of_ble_eq_true rfl) (Nat.le_of_ble_eq_true rfl) (fun q hq => t_X9_seats (by decide) (by decide) hq) hf (fun q9 hf => ?_)
  refine j_icmp_eq (pc := 312) (tgt := 1382) dL_law_312 (by decide) hf (fun _ hf => ?_) (fun _ hf => ?_)
  · refine j_iinc (pc := 1382) 3 (c := 5) (lv' := fun v10 => [(3, .int v10), (0, .ref b), (1, .ref (ad 0)), (2, .ref (ad 108))]) dL_law_1382 rfl (by decide) (by decide) (fun _ => rfl) hf (fun v10 hf => ?_)
    refine j_goto (pc := 1385) (tgt := 18) dL_law_1385 (by decide) ?_
    refine j_sub [1, 2, 3, 0] rfl ?_
    exact hk18 hf
  · refine j_iconst (pc := 315) dL_law_315 (v := 0) (by decide) ?_
    cases hf
def f_law_c3 (xs : Nat → Int32) (L : Nat) (k18 : Int32 → Hp → Option Unit) (x3 : Int32) (h : Hp) : Option Unit := if ix (x3 + 1) L = true then (if ix (x3 + 2) L = true then ((f_X8_least 0 (xs (Int32.toNatClampNeg (x3 + 1))) (xs (Int32.toNatClampNeg (x3 + 2))) h).bind (fun q11 => if ix (x3 + 1) L = true then (if ix (x3 + 2) L = true then ((f_X9_least 108 (xs (Int32.toNatClampNeg (x3 + 1))) (xs (Int32.toNatClampNeg (x3 + 2))) q11.2).bind (fun q12 => if q11.1 = q12.1 then (lt (x3 + 5) (fun v13 => k18 v13 q12.2)) else (none))) else none) else none)) else none) else none
set_option maxHeartbeats 4000000 in
set_option maxRecDepth 100000 in
theorem t_law_c3 {l : Launch} {D : va_G} {ad : Nat → Nat} {cA : Nat → ClassId} {b L : Nat} {xs : Nat → Int32} {o : Unit} {k18 : Int32 → Hp → Option Unit} (hk18 : ∀ {x3 : Int32} {h : Hp}, k18 x3 h = some o → J l D ad cA (EL b L xs ad) room_1 (600000, 7302250) (QL b) cL_law RL 4 (some .boolean) 18 [(0, .ref b), (1, .ref (ad 0)), (2, .ref (ad 108)), (3, .int x3)] [] h) {x3 : Int32} {h : Hp} (hf : f_law_c3 xs L k18 x3 h = some o) : J l D ad cA (EL b L xs ad) room_1 (600000, 7302250) (QL b) cL_law RL 4 (some .boolean) 317 [(0, .ref b), (1, .ref (ad 0)), (2, .ref (ad 108)), (3, .int x3)] [] h := by
  unfold f_law_c3 at hf
  refine j_aload_n (pc := 317) 1 dL_law_317 rfl rfl ?_
  refine j_aload_n (pc := 318) 0 dL_law_318 rfl rfl ?_
  refine j_iload_n (pc := 319) 3 dL_law_319 rfl rfl ?_
  refine j_iconst (pc := 320) dL_law_320 (v := 1) (by decide) ?_
  refine j_iadd (pc := 321) dL_law_321  ?_
  refine j_sld (pc := 322) dL_law_322 hf (fun hf => ?_)
  refine j_aload_n (pc := 323) 0 dL_law_323 rfl rfl ?_
  refine j_iload_n (pc := 324) 3 dL_law_324 rfl rfl ?_
  refine j_iconst (pc := 325) dL_law_325 (v := 2) (by decide) ?_
  refine j_iadd (pc := 326) dL_law_326  ?_
  refine j_sld (pc := 327) dL_law_327 hf (fun hf => ?_)
  refine j_callLi (pc := 328) (As := [.int (xs (Int32.toNatClampNeg (x3 + 1))), .int (xs (Int32.toNatClampNeg (x3 + 2)))]) (st := []) dL_law_328 s402 (by decide) (by decide) rfl rfl (Nat.le_of_ble_eq_true rfl) (Nat.le_of_ble_eq_true rfl) (fun q hq => t_X8_least (by decide) (by decide) hq) hf (fun q11 hf => ?_)
  refine j_aload_n (pc := 331) 2 dL_law_331 rfl rfl ?_
  refine j_aload_n (pc := 332) 0 dL_law_332 rfl rfl ?_
  refine j_iload_n (pc := 333) 3 dL_law_333 rfl rfl ?_
  refine j_iconst (pc := 334) dL_law_334 (v := 1) (by decide) ?_
  refine j_iadd (pc := 335) dL_law_335  ?_
  refine j_sld (pc := 336) dL_law_336 hf (fun hf => ?_)
  refine j_aload_n (pc := 337) 0 dL_law_337 rfl rfl ?_
  refine j_iload_n (pc := 338) 3 dL_law_338 rfl rfl ?_
  refine j_iconst (pc := 339) dL_law_339 (v := 2) (by decide) ?_
  refine j_iadd (pc := 340) dL_law_340  ?_
  refine j_sld (pc := 341) dL_law_341 hf (fun hf => ?_)
  refine j_callLi (pc := 342) (As := [.int (xs (Int32.toNatClampNeg (x3 + 1))), .int (xs (Int32.toNatClampNeg (x3 + 2)))]) (st := [.int q11.1]) dL_law_342 s1019 (by decide) (by decide) rfl rfl (Nat.le_of_ble_eq_true rfl) (Nat.le_of_ble_eq_true rfl) (fun q hq => t_X9_least (by decide) (by decide) hq) hf (fun q12 hf => ?_)
  refine j_icmp_eq (pc := 345) (tgt := 1382) dL_law_345 (by decide) hf (fun _ hf => ?_) (fun _ hf => ?_)
  · refine j_iinc (pc := 1382) 3 (c := 5) (lv' := fun v13 => [(3, .int v13), (0, .ref b), (1, .ref (ad 0)), (2, .ref (ad 108))]) dL_law_1382 rfl (by decide) (by decide) (fun _ => rfl) hf (fun v13 hf => ?_)
    refine j_goto (pc := 1385) (tgt := 18) dL_law_1385 (by decide) ?_
    refine j_sub [1, 2, 3, 0] rfl ?_
    exact hk18 hf
  · refine j_iconst (pc := 348) dL_law_348 (v := 0) (by decide) ?_
    cases hf
def f_law_c4 (xs : Nat → Int32) (L : Nat) (k18 : Int32 → Hp → Option Unit) (x3 : Int32) (h : Hp) : Option Unit := if ix (x3 + 1) L = true then (if ix (x3 + 2) L = true then ((f_X8_join 0 (xs (Int32.toNatClampNeg (x3 + 1))) (xs (Int32.toNatClampNeg (x3 + 2))) h).bind (fun q14 => if ix (x3 + 1) L = true then (if ix (x3 + 2) L = true then ((f_X9_join 108 (xs (Int32.toNatClampNeg (x3 + 1))) (xs (Int32.toNatClampNeg (x3 + 2))) q14.2).bind (fun q15 => if q14.1 = q15.1 then (lt (x3 + 5) (fun v16 => k18 v16 q15.2)) else (none))) else none) else none)) else none) else none
set_option maxHeartbeats 4000000 in
set_option maxRecDepth 100000 in
theorem t_law_c4 {l : Launch} {D : va_G} {ad : Nat → Nat} {cA : Nat → ClassId} {b L : Nat} {xs : Nat → Int32} {o : Unit} {k18 : Int32 → Hp → Option Unit} (hk18 : ∀ {x3 : Int32} {h : Hp}, k18 x3 h = some o → J l D ad cA (EL b L xs ad) room_1 (600000, 7302250) (QL b) cL_law RL 4 (some .boolean) 18 [(0, .ref b), (1, .ref (ad 0)), (2, .ref (ad 108)), (3, .int x3)] [] h) {x3 : Int32} {h : Hp} (hf : f_law_c4 xs L k18 x3 h = some o) : J l D ad cA (EL b L xs ad) room_1 (600000, 7302250) (QL b) cL_law RL 4 (some .boolean) 350 [(0, .ref b), (1, .ref (ad 0)), (2, .ref (ad 108)), (3, .int x3)] [] h := by
  unfold f_law_c4 at hf
  refine j_aload_n (pc := 350) 1 dL_law_350 rfl rfl ?_
  refine j_aload_n (pc := 351) 0 dL_law_351 rfl rfl ?_
  refine j_iload_n (pc := 352) 3 dL_law_352 rfl rfl ?_
  refine j_iconst (pc := 353) dL_law_353 (v := 1) (by decide) ?_
  refine j_iadd (pc := 354) dL_law_354  ?_
  refine j_sld (pc := 355) dL_law_355 hf (fun hf => ?_)
  refine j_aload_n (pc := 356) 0 dL_law_356 rfl rfl ?_
  refine j_iload_n (pc := 357) 3 dL_law_357 rfl rfl ?_
  refine j_iconst (pc := 358) dL_law_358 (v := 2) (by decide) ?_
  refine j_iadd (pc := 359) dL_law_359  ?_
  refine j_sld (pc := 360) dL_law_360 hf (fun hf => ?_)
  refine j_callLi (pc := 361) (As := [.int (xs (Int32.toNatClampNeg (x3 + 1))), .int (xs (Int32.toNatClampNeg (x3 + 2)))]) (st := []) dL_law_361 s406 (by decide) (by decide) rfl rfl (Nat.le_of_ble_eq_true rfl) (Nat.le_of_ble_eq_true rfl) (fun q hq => t_X8_join (by decide) (by decide) hq) hf (fun q14 hf => ?_)
  refine j_aload_n (pc := 364) 2 dL_law_364 rfl rfl ?_
  refine j_aload_n (pc := 365) 0 dL_law_365 rfl rfl ?_
  refine j_iload_n (pc := 366) 3 dL_law_366 rfl rfl ?_
  refine j_iconst (pc := 367) dL_law_367 (v := 1) (by decide) ?_
  refine j_iadd (pc := 368) dL_law_368  ?_
  refine j_sld (pc := 369) dL_law_369 hf (fun hf => ?_)
  refine j_aload_n (pc := 370) 0 dL_law_370 rfl rfl ?_
  refine j_iload_n (pc := 371) 3 dL_law_371 rfl rfl ?_
  refine j_iconst (pc := 372) dL_law_372 (v := 2) (by decide) ?_
  refine j_iadd (pc := 373) dL_law_373  ?_
  refine j_sld (pc := 374) dL_law_374 hf (fun hf => ?_)
  refine j_callLi (pc := 375) (As := [.int (xs (Int32.toNatClampNeg (x3 + 1))), .int (xs (Int32.toNatClampNeg (x3 + 2)))]) (st := [.int q14.1]) dL_law_375 s1024 (by decide) (by decide) rfl rfl (Nat.le_of_ble_eq_true rfl) (Nat.le_of_ble_eq_true rfl) (fun q hq => t_X9_join (by decide) (by decide) hq) hf (fun q15 hf => ?_)
  refine j_icmp_eq (pc := 378) (tgt := 1382) dL_law_378 (by decide) hf (fun _ hf => ?_) (fun _ hf => ?_)
  · refine j_iinc (pc := 1382) 3 (c := 5) (lv' := fun v16 => [(3, .int v16), (0, .ref b), (1, .ref (ad 0)), (2, .ref (ad 108))]) dL_law_1382 rfl (by decide) (by decide) (fun _ => rfl) hf (fun v16 hf => ?_)
    refine j_goto (pc := 1385) (tgt := 18) dL_law_1385 (by decide) ?_
    refine j_sub [1, 2, 3, 0] rfl ?_
    exact hk18 hf
  · refine j_iconst (pc := 381) dL_law_381 (v := 0) (by decide) ?_
    cases hf
def f_law_c5 (xs : Nat → Int32) (L : Nat) (k18 : Int32 → Hp → Option Unit) (x3 : Int32) (h : Hp) : Option Unit := if ix (x3 + 1) L = true then ((f_X8_bar 0 (xs (Int32.toNatClampNeg (x3 + 1))) h).bind (fun q17 => if ix (x3 + 1) L = true then ((f_X9_bar 108 (xs (Int32.toNatClampNeg (x3 + 1))) q17.2).bind (fun q18 => if q17.1 = q18.1 then (lt (x3 + 5) (fun v19 => k18 v19 q18.2)) else (none))) else none)) else none
set_option maxHeartbeats 4000000 in
set_option maxRecDepth 100000 in
theorem t_law_c5 {l : Launch} {D : va_G} {ad : Nat → Nat} {cA : Nat → ClassId} {b L : Nat} {xs : Nat → Int32} {o : Unit} {k18 : Int32 → Hp → Option Unit} (hk18 : ∀ {x3 : Int32} {h : Hp}, k18 x3 h = some o → J l D ad cA (EL b L xs ad) room_1 (600000, 7302250) (QL b) cL_law RL 4 (some .boolean) 18 [(0, .ref b), (1, .ref (ad 0)), (2, .ref (ad 108)), (3, .int x3)] [] h) {x3 : Int32} {h : Hp} (hf : f_law_c5 xs L k18 x3 h = some o) : J l D ad cA (EL b L xs ad) room_1 (600000, 7302250) (QL b) cL_law RL 4 (some .boolean) 383 [(0, .ref b), (1, .ref (ad 0)), (2, .ref (ad 108)), (3, .int x3)] [] h := by
  unfold f_law_c5 at hf
  refine j_aload_n (pc := 383) 1 dL_law_383 rfl rfl ?_
  refine j_aload_n (pc := 384) 0 dL_law_384 rfl rfl ?_
  refine j_iload_n (pc := 385) 3 dL_law_385 rfl rfl ?_
  refine j_iconst (pc := 386) dL_law_386 (v := 1) (by decide) ?_
  refine j_iadd (pc := 387) dL_law_387  ?_
  refine j_sld (pc := 388) dL_law_388 hf (fun hf => ?_)
  refine j_callLi (pc := 389) (As := [.int (xs (Int32.toNatClampNeg (x3 + 1)))]) (st := []) dL_law_389 s410 (by decide) (by decide) rfl rfl (Nat.le_of_ble_eq_true rfl) (Nat.le_of_ble_eq_true rfl) (fun q hq => t_X8_bar (by decide) (by decide) hq) hf (fun q17 hf => ?_)
  refine j_aload_n (pc := 392) 2 dL_law_392 rfl rfl ?_
  refine j_aload_n (pc := 393) 0 dL_law_393 rfl rfl ?_
  refine j_iload_n (pc := 394) 3 dL_law_394 rfl rfl ?_
  refine j_iconst (pc := 395) dL_law_395 (v := 1) (by decide) ?_
  refine j_iadd (pc := 396) dL_law_396  ?_
  refine j_sld (pc := 397) dL_law_397 hf (fun hf => ?_)
  refine j_callLi (pc := 398) (As := [.int (xs (Int32.toNatClampNeg (x3 + 1)))]) (st := [.int q17.1]) dL_law_398 s1028 (by decide) (by decide) rfl rfl (Nat.le_of_ble_eq_true rfl) (Nat.le_of_ble_eq_true rfl) (fun q hq => t_X9_bar (by decide) (by decide) hq) hf (fun q18 hf => ?_)
  refine j_icmp_eq (pc := 401) (tgt := 1382) dL_law_401 (by decide) hf (fun _ hf => ?_) (fun _ hf => ?_)
  · refine j_iinc (pc := 1382) 3 (c := 5) (lv' := fun v19 => [(3, .int v19), (0, .ref b), (1, .ref (ad 0)), (2, .ref (ad 108))]) dL_law_1382 rfl (by decide) (by decide) (fun _ => rfl) hf (fun v19 hf => ?_)
    refine j_goto (pc := 1385) (tgt := 18) dL_law_1385 (by decide) ?_
    refine j_sub [1, 2, 3, 0] rfl ?_
    exact hk18 hf
  · refine j_iconst (pc := 404) dL_law_404 (v := 0) (by decide) ?_
    cases hf
def f_law_c6 (xs : Nat → Int32) (L : Nat) (k18 : Int32 → Hp → Option Unit) (x3 : Int32) (h : Hp) : Option Unit := if ix (x3 + 1) L = true then ((f_X8_way 0 (xs (Int32.toNatClampNeg (x3 + 1))) h).bind (fun q20 => if ix (x3 + 1) L = true then ((f_X9_way 108 (xs (Int32.toNatClampNeg (x3 + 1))) q20.2).bind (fun q21 => if q20.1 = q21.1 then (lt (x3 + 5) (fun v22 => k18 v22 q21.2)) else (none))) else none)) else none
set_option maxHeartbeats 4000000 in
set_option maxRecDepth 100000 in
theorem t_law_c6 {l : Launch} {D : va_G} {ad : Nat → Nat} {cA : Nat → ClassId} {b L : Nat} {xs : Nat → Int32} {o : Unit} {k18 : Int32 → Hp → Option Unit} (hk18 : ∀ {x3 : Int32} {h : Hp}, k18 x3 h = some o → J l D ad cA (EL b L xs ad) room_1 (600000, 7302250) (QL b) cL_law RL 4 (some .boolean) 18 [(0, .ref b), (1, .ref (ad 0)), (2, .ref (ad 108)), (3, .int x3)] [] h) {x3 : Int32} {h : Hp} (hf : f_law_c6 xs L k18 x3 h = some o) : J l D ad cA (EL b L xs ad) room_1 (600000, 7302250) (QL b) cL_law RL 4 (some .boolean) 406 [(0, .ref b), (1, .ref (ad 0)), (2, .ref (ad 108)), (3, .int x3)] [] h := by
  unfold f_law_c6 at hf
  refine j_aload_n (pc := 406) 1 dL_law_406 rfl rfl ?_
  refine j_aload_n (pc := 407) 0 dL_law_407 rfl rfl ?_
  refine j_iload_n (pc := 408) 3 dL_law_408 rfl rfl ?_
  refine j_iconst (pc := 409) dL_law_409 (v := 1) (by decide) ?_
  refine j_iadd (pc := 410) dL_law_410  ?_
  refine j_sld (pc := 411) dL_law_411 hf (fun hf => ?_)
  refine j_callLi (pc := 412) (As := [.int (xs (Int32.toNatClampNeg (x3 + 1)))]) (st := []) dL_law_412 s414 (by decide) (by decide) rfl rfl (Nat.le_of_ble_eq_true rfl) (Nat.le_of_ble_eq_true rfl) (fun q hq => t_X8_way (by decide) (by decide) hq) hf (fun q20 hf => ?_)
  refine j_aload_n (pc := 415) 2 dL_law_415 rfl rfl ?_
  refine j_aload_n (pc := 416) 0 dL_law_416 rfl rfl ?_
  refine j_iload_n (pc := 417) 3 dL_law_417 rfl rfl ?_
  refine j_iconst (pc := 418) dL_law_418 (v := 1) (by decide) ?_
  refine j_iadd (pc := 419) dL_law_419  ?_
  refine j_sld (pc := 420) dL_law_420 hf (fun hf => ?_)
  refine j_callLi (pc := 421) (As := [.int (xs (Int32.toNatClampNeg (x3 + 1)))]) (st := [.int q20.1]) dL_law_421 s1033 (by decide) (by decide) rfl rfl (Nat.le_of_ble_eq_true rfl) (Nat.le_of_ble_eq_true rfl) (fun q hq => t_X9_way (by decide) (by decide) hq) hf (fun q21 hf => ?_)
  refine j_icmp_eq (pc := 424) (tgt := 1382) dL_law_424 (by decide) hf (fun _ hf => ?_) (fun _ hf => ?_)
  · refine j_iinc (pc := 1382) 3 (c := 5) (lv' := fun v22 => [(3, .int v22), (0, .ref b), (1, .ref (ad 0)), (2, .ref (ad 108))]) dL_law_1382 rfl (by decide) (by decide) (fun _ => rfl) hf (fun v22 hf => ?_)
    refine j_goto (pc := 1385) (tgt := 18) dL_law_1385 (by decide) ?_
    refine j_sub [1, 2, 3, 0] rfl ?_
    exact hk18 hf
  · refine j_iconst (pc := 427) dL_law_427 (v := 0) (by decide) ?_
    cases hf
def f_law_c7 (xs : Nat → Int32) (L : Nat) (k18 : Int32 → Hp → Option Unit) (x3 : Int32) (h : Hp) : Option Unit := if ix (x3 + 1) L = true then (if ix (x3 + 2) L = true then ((f_X8_tell 0 (xs (Int32.toNatClampNeg (x3 + 1))) (xs (Int32.toNatClampNeg (x3 + 2))) h).bind (fun q23 => if ix (x3 + 1) L = true then (if ix (x3 + 2) L = true then ((f_X9_tell 108 (xs (Int32.toNatClampNeg (x3 + 1))) (xs (Int32.toNatClampNeg (x3 + 2))) q23.2).bind (fun q24 => if q23.1 = q24.1 then (lt (x3 + 5) (fun v25 => k18 v25 q24.2)) else (none))) else none) else none)) else none) else none
set_option maxHeartbeats 4000000 in
set_option maxRecDepth 100000 in
theorem t_law_c7 {l : Launch} {D : va_G} {ad : Nat → Nat} {cA : Nat → ClassId} {b L : Nat} {xs : Nat → Int32} {o : Unit} {k18 : Int32 → Hp → Option Unit} (hk18 : ∀ {x3 : Int32} {h : Hp}, k18 x3 h = some o → J l D ad cA (EL b L xs ad) room_1 (600000, 7302250) (QL b) cL_law RL 4 (some .boolean) 18 [(0, .ref b), (1, .ref (ad 0)), (2, .ref (ad 108)), (3, .int x3)] [] h) {x3 : Int32} {h : Hp} (hf : f_law_c7 xs L k18 x3 h = some o) : J l D ad cA (EL b L xs ad) room_1 (600000, 7302250) (QL b) cL_law RL 4 (some .boolean) 429 [(0, .ref b), (1, .ref (ad 0)), (2, .ref (ad 108)), (3, .int x3)] [] h := by
  unfold f_law_c7 at hf
  refine j_aload_n (pc := 429) 1 dL_law_429 rfl rfl ?_
  refine j_aload_n (pc := 430) 0 dL_law_430 rfl rfl ?_
  refine j_iload_n (pc := 431) 3 dL_law_431 rfl rfl ?_
  refine j_iconst (pc := 432) dL_law_432 (v := 1) (by decide) ?_
  refine j_iadd (pc := 433) dL_law_433  ?_
  refine j_sld (pc := 434) dL_law_434 hf (fun hf => ?_)
  refine j_aload_n (pc := 435) 0 dL_law_435 rfl rfl ?_
  refine j_iload_n (pc := 436) 3 dL_law_436 rfl rfl ?_
  refine j_iconst (pc := 437) dL_law_437 (v := 2) (by decide) ?_
  refine j_iadd (pc := 438) dL_law_438  ?_
  refine j_sld (pc := 439) dL_law_439 hf (fun hf => ?_)
  refine j_callLi (pc := 440) (As := [.int (xs (Int32.toNatClampNeg (x3 + 1))), .int (xs (Int32.toNatClampNeg (x3 + 2)))]) (st := []) dL_law_440 s418 (by decide) (by decide) rfl rfl (Nat.le_of_ble_eq_true rfl) (Nat.le_of_ble_eq_true rfl) (fun q hq => t_X8_tell (by decide) (by decide) hq) hf (fun q23 hf => ?_)
  refine j_aload_n (pc := 443) 2 dL_law_443 rfl rfl ?_
  refine j_aload_n (pc := 444) 0 dL_law_444 rfl rfl ?_
  refine j_iload_n (pc := 445) 3 dL_law_445 rfl rfl ?_
  refine j_iconst (pc := 446) dL_law_446 (v := 1) (by decide) ?_
  refine j_iadd (pc := 447) dL_law_447  ?_
  refine j_sld (pc := 448) dL_law_448 hf (fun hf => ?_)
  refine j_aload_n (pc := 449) 0 dL_law_449 rfl rfl ?_
  refine j_iload_n (pc := 450) 3 dL_law_450 rfl rfl ?_
  refine j_iconst (pc := 451) dL_law_451 (v := 2) (by decide) ?_
  refine j_iadd (pc := 452) dL_law_452  ?_
  refine j_sld (pc := 453) dL_law_453 hf (fun hf => ?_)
  refine j_callLi (pc := 454) (As := [.int (xs (Int32.toNatClampNeg (x3 + 1))), .int (xs (Int32.toNatClampNeg (x3 + 2)))]) (st := [.int q23.1]) dL_law_454 s1038 (by decide) (by decide) rfl rfl (Nat.le_of_ble_eq_true rfl) (Nat.le_of_ble_eq_true rfl) (fun q hq => t_X9_tell (by decide) (by decide) hq) hf (fun q24 hf => ?_)
  refine j_icmp_eq (pc := 457) (tgt := 1382) dL_law_457 (by decide) hf (fun _ hf => ?_) (fun _ hf => ?_)
  · refine j_iinc (pc := 1382) 3 (c := 5) (lv' := fun v25 => [(3, .int v25), (0, .ref b), (1, .ref (ad 0)), (2, .ref (ad 108))]) dL_law_1382 rfl (by decide) (by decide) (fun _ => rfl) hf (fun v25 hf => ?_)
    refine j_goto (pc := 1385) (tgt := 18) dL_law_1385 (by decide) ?_
    refine j_sub [1, 2, 3, 0] rfl ?_
    exact hk18 hf
  · refine j_iconst (pc := 460) dL_law_460 (v := 0) (by decide) ?_
    cases hf
def f_law_c8 (xs : Nat → Int32) (L : Nat) (k18 : Int32 → Hp → Option Unit) (x3 : Int32) (h : Hp) : Option Unit := if ix (x3 + 1) L = true then ((f_X8_feed 0 (xs (Int32.toNatClampNeg (x3 + 1))) h).bind (fun q26 => if ix (x3 + 1) L = true then ((f_X9_feed 108 (xs (Int32.toNatClampNeg (x3 + 1))) q26.2).bind (fun q27 => if q26.1 = q27.1 then (lt (x3 + 5) (fun v28 => k18 v28 q27.2)) else (none))) else none)) else none
set_option maxHeartbeats 4000000 in
set_option maxRecDepth 100000 in
theorem t_law_c8 {l : Launch} {D : va_G} {ad : Nat → Nat} {cA : Nat → ClassId} {b L : Nat} {xs : Nat → Int32} {o : Unit} {k18 : Int32 → Hp → Option Unit} (hk18 : ∀ {x3 : Int32} {h : Hp}, k18 x3 h = some o → J l D ad cA (EL b L xs ad) room_1 (600000, 7302250) (QL b) cL_law RL 4 (some .boolean) 18 [(0, .ref b), (1, .ref (ad 0)), (2, .ref (ad 108)), (3, .int x3)] [] h) {x3 : Int32} {h : Hp} (hf : f_law_c8 xs L k18 x3 h = some o) : J l D ad cA (EL b L xs ad) room_1 (600000, 7302250) (QL b) cL_law RL 4 (some .boolean) 462 [(0, .ref b), (1, .ref (ad 0)), (2, .ref (ad 108)), (3, .int x3)] [] h := by
  unfold f_law_c8 at hf
  refine j_aload_n (pc := 462) 1 dL_law_462 rfl rfl ?_
  refine j_aload_n (pc := 463) 0 dL_law_463 rfl rfl ?_
  refine j_iload_n (pc := 464) 3 dL_law_464 rfl rfl ?_
  refine j_iconst (pc := 465) dL_law_465 (v := 1) (by decide) ?_
  refine j_iadd (pc := 466) dL_law_466  ?_
  refine j_sld (pc := 467) dL_law_467 hf (fun hf => ?_)
  refine j_callLi (pc := 468) (As := [.int (xs (Int32.toNatClampNeg (x3 + 1)))]) (st := []) dL_law_468 s422 (by decide) (by decide) rfl rfl (Nat.le_of_ble_eq_true rfl) (Nat.le_of_ble_eq_true rfl) (fun q hq => t_X8_feed (by decide) (by decide) hq) hf (fun q26 hf => ?_)
  refine j_aload_n (pc := 471) 2 dL_law_471 rfl rfl ?_
  refine j_aload_n (pc := 472) 0 dL_law_472 rfl rfl ?_
  refine j_iload_n (pc := 473) 3 dL_law_473 rfl rfl ?_
  refine j_iconst (pc := 474) dL_law_474 (v := 1) (by decide) ?_
  refine j_iadd (pc := 475) dL_law_475  ?_
  refine j_sld (pc := 476) dL_law_476 hf (fun hf => ?_)
  refine j_callLi (pc := 477) (As := [.int (xs (Int32.toNatClampNeg (x3 + 1)))]) (st := [.int q26.1]) dL_law_477 s1043 (by decide) (by decide) rfl rfl (Nat.le_of_ble_eq_true rfl) (Nat.le_of_ble_eq_true rfl) (fun q hq => t_X9_feed (by decide) (by decide) hq) hf (fun q27 hf => ?_)
  refine j_icmp_eq (pc := 480) (tgt := 1382) dL_law_480 (by decide) hf (fun _ hf => ?_) (fun _ hf => ?_)
  · refine j_iinc (pc := 1382) 3 (c := 5) (lv' := fun v28 => [(3, .int v28), (0, .ref b), (1, .ref (ad 0)), (2, .ref (ad 108))]) dL_law_1382 rfl (by decide) (by decide) (fun _ => rfl) hf (fun v28 hf => ?_)
    refine j_goto (pc := 1385) (tgt := 18) dL_law_1385 (by decide) ?_
    refine j_sub [1, 2, 3, 0] rfl ?_
    exact hk18 hf
  · refine j_iconst (pc := 483) dL_law_483 (v := 0) (by decide) ?_
    cases hf
def f_law_c9 (xs : Nat → Int32) (L : Nat) (k18 : Int32 → Hp → Option Unit) (x3 : Int32) (h : Hp) : Option Unit := (f_X8_clear 0  h).bind (fun q29 => (f_X9_clear 108  q29.2).bind (fun q30 => if q29.1 = q30.1 then (lt (x3 + 5) (fun v31 => k18 v31 q30.2)) else (none)))
set_option maxHeartbeats 4000000 in
set_option maxRecDepth 100000 in
theorem t_law_c9 {l : Launch} {D : va_G} {ad : Nat → Nat} {cA : Nat → ClassId} {b L : Nat} {xs : Nat → Int32} {o : Unit} {k18 : Int32 → Hp → Option Unit} (hk18 : ∀ {x3 : Int32} {h : Hp}, k18 x3 h = some o → J l D ad cA (EL b L xs ad) room_1 (600000, 7302250) (QL b) cL_law RL 4 (some .boolean) 18 [(0, .ref b), (1, .ref (ad 0)), (2, .ref (ad 108)), (3, .int x3)] [] h) {x3 : Int32} {h : Hp} (hf : f_law_c9 xs L k18 x3 h = some o) : J l D ad cA (EL b L xs ad) room_1 (600000, 7302250) (QL b) cL_law RL 4 (some .boolean) 485 [(0, .ref b), (1, .ref (ad 0)), (2, .ref (ad 108)), (3, .int x3)] [] h := by
  unfold f_law_c9 at hf
  refine j_aload_n (pc := 485) 1 dL_law_485 rfl rfl ?_
  refine j_callLi (pc := 486) (As := []) (st := []) dL_law_486 s430 (by decide) (by decide) rfl rfl (Nat.le_of_ble_eq_true rfl) (Nat.le_of_ble_eq_true rfl) (fun q hq => t_X8_clear (by decide) hq) hf (fun q29 hf => ?_)
  refine j_aload_n (pc := 489) 2 dL_law_489 rfl rfl ?_
  refine j_callLi (pc := 490) (As := []) (st := [.int q29.1]) dL_law_490 s1048 (by decide) (by decide) rfl rfl (Nat.le_of_ble_eq_true rfl) (Nat.le_of_ble_eq_true rfl) (fun q hq => t_X9_clear (by decide) hq) hf (fun q30 hf => ?_)
  refine j_icmp_eq (pc := 493) (tgt := 1382) dL_law_493 (by decide) hf (fun _ hf => ?_) (fun _ hf => ?_)
  · refine j_iinc (pc := 1382) 3 (c := 5) (lv' := fun v31 => [(3, .int v31), (0, .ref b), (1, .ref (ad 0)), (2, .ref (ad 108))]) dL_law_1382 rfl (by decide) (by decide) (fun _ => rfl) hf (fun v31 hf => ?_)
    refine j_goto (pc := 1385) (tgt := 18) dL_law_1385 (by decide) ?_
    refine j_sub [1, 2, 3, 0] rfl ?_
    exact hk18 hf
  · refine j_iconst (pc := 496) dL_law_496 (v := 0) (by decide) ?_
    cases hf
def f_law_c10 (xs : Nat → Int32) (L : Nat) (k18 : Int32 → Hp → Option Unit) (x3 : Int32) (h : Hp) : Option Unit := if ix (x3 + 1) L = true then ((f_X8_read 0 (xs (Int32.toNatClampNeg (x3 + 1))) h).bind (fun q32 => if ix (x3 + 1) L = true then ((f_X9_read 108 (xs (Int32.toNatClampNeg (x3 + 1))) q32.2).bind (fun q33 => if q32.1 = q33.1 then (lt (x3 + 5) (fun v34 => k18 v34 q33.2)) else (none))) else none)) else none
set_option maxHeartbeats 4000000 in
set_option maxRecDepth 100000 in
theorem t_law_c10 {l : Launch} {D : va_G} {ad : Nat → Nat} {cA : Nat → ClassId} {b L : Nat} {xs : Nat → Int32} {o : Unit} {k18 : Int32 → Hp → Option Unit} (hk18 : ∀ {x3 : Int32} {h : Hp}, k18 x3 h = some o → J l D ad cA (EL b L xs ad) room_1 (600000, 7302250) (QL b) cL_law RL 4 (some .boolean) 18 [(0, .ref b), (1, .ref (ad 0)), (2, .ref (ad 108)), (3, .int x3)] [] h) {x3 : Int32} {h : Hp} (hf : f_law_c10 xs L k18 x3 h = some o) : J l D ad cA (EL b L xs ad) room_1 (600000, 7302250) (QL b) cL_law RL 4 (some .boolean) 498 [(0, .ref b), (1, .ref (ad 0)), (2, .ref (ad 108)), (3, .int x3)] [] h := by
  unfold f_law_c10 at hf
  refine j_aload_n (pc := 498) 1 dL_law_498 rfl rfl ?_
  refine j_aload_n (pc := 499) 0 dL_law_499 rfl rfl ?_
  refine j_iload_n (pc := 500) 3 dL_law_500 rfl rfl ?_
  refine j_iconst (pc := 501) dL_law_501 (v := 1) (by decide) ?_
  refine j_iadd (pc := 502) dL_law_502  ?_
  refine j_sld (pc := 503) dL_law_503 hf (fun hf => ?_)
  refine j_callLi (pc := 504) (As := [.int (xs (Int32.toNatClampNeg (x3 + 1)))]) (st := []) dL_law_504 s434 (by decide) (by decide) rfl rfl (Nat.le_of_ble_eq_true rfl) (Nat.le_of_ble_eq_true rfl) (fun q hq => t_X8_read (by decide) (by decide) hq) hf (fun q32 hf => ?_)
  refine j_aload_n (pc := 507) 2 dL_law_507 rfl rfl ?_
  refine j_aload_n (pc := 508) 0 dL_law_508 rfl rfl ?_
  refine j_iload_n (pc := 509) 3 dL_law_509 rfl rfl ?_
  refine j_iconst (pc := 510) dL_law_510 (v := 1) (by decide) ?_
  refine j_iadd (pc := 511) dL_law_511  ?_
  refine j_sld (pc := 512) dL_law_512 hf (fun hf => ?_)
  refine j_callLi (pc := 513) (As := [.int (xs (Int32.toNatClampNeg (x3 + 1)))]) (st := [.int q32.1]) dL_law_513 s1052 (by decide) (by decide) rfl rfl (Nat.le_of_ble_eq_true rfl) (Nat.le_of_ble_eq_true rfl) (fun q hq => t_X9_read (by decide) (by decide) hq) hf (fun q33 hf => ?_)
  refine j_icmp_eq (pc := 516) (tgt := 1382) dL_law_516 (by decide) hf (fun _ hf => ?_) (fun _ hf => ?_)
  · refine j_iinc (pc := 1382) 3 (c := 5) (lv' := fun v34 => [(3, .int v34), (0, .ref b), (1, .ref (ad 0)), (2, .ref (ad 108))]) dL_law_1382 rfl (by decide) (by decide) (fun _ => rfl) hf (fun v34 hf => ?_)
    refine j_goto (pc := 1385) (tgt := 18) dL_law_1385 (by decide) ?_
    refine j_sub [1, 2, 3, 0] rfl ?_
    exact hk18 hf
  · refine j_iconst (pc := 519) dL_law_519 (v := 0) (by decide) ?_
    cases hf
def f_law_c11 (xs : Nat → Int32) (L : Nat) (k18 : Int32 → Hp → Option Unit) (x3 : Int32) (h : Hp) : Option Unit := (f_X8_in 0  h).bind (fun q35 => (f_X9_in 108  q35.2).bind (fun q36 => if q35.1 = q36.1 then (lt (x3 + 5) (fun v37 => k18 v37 q36.2)) else (none)))
set_option maxHeartbeats 4000000 in
set_option maxRecDepth 100000 in
theorem t_law_c11 {l : Launch} {D : va_G} {ad : Nat → Nat} {cA : Nat → ClassId} {b L : Nat} {xs : Nat → Int32} {o : Unit} {k18 : Int32 → Hp → Option Unit} (hk18 : ∀ {x3 : Int32} {h : Hp}, k18 x3 h = some o → J l D ad cA (EL b L xs ad) room_1 (600000, 7302250) (QL b) cL_law RL 4 (some .boolean) 18 [(0, .ref b), (1, .ref (ad 0)), (2, .ref (ad 108)), (3, .int x3)] [] h) {x3 : Int32} {h : Hp} (hf : f_law_c11 xs L k18 x3 h = some o) : J l D ad cA (EL b L xs ad) room_1 (600000, 7302250) (QL b) cL_law RL 4 (some .boolean) 521 [(0, .ref b), (1, .ref (ad 0)), (2, .ref (ad 108)), (3, .int x3)] [] h := by
  unfold f_law_c11 at hf
  refine j_aload_n (pc := 521) 1 dL_law_521 rfl rfl ?_
  refine j_callLi (pc := 522) (As := []) (st := []) dL_law_522 s463 (by decide) (by decide) rfl rfl (Nat.le_of_ble_eq_true rfl) (Nat.le_of_ble_eq_true rfl) (fun q hq => t_X8_in (by decide) (by decide) hq) hf (fun q35 hf => ?_)
  refine j_aload_n (pc := 525) 2 dL_law_525 rfl rfl ?_
  refine j_callLi (pc := 526) (As := []) (st := [.int q35.1]) dL_law_526 s1102 (by decide) (by decide) rfl rfl (Nat.le_of_ble_eq_true rfl) (Nat.le_of_ble_eq_true rfl) (fun q hq => t_X9_in (by decide) (by decide) hq) hf (fun q36 hf => ?_)
  refine j_icmp_eq (pc := 529) (tgt := 1382) dL_law_529 (by decide) hf (fun _ hf => ?_) (fun _ hf => ?_)
  · refine j_iinc (pc := 1382) 3 (c := 5) (lv' := fun v37 => [(3, .int v37), (0, .ref b), (1, .ref (ad 0)), (2, .ref (ad 108))]) dL_law_1382 rfl (by decide) (by decide) (fun _ => rfl) hf (fun v37 hf => ?_)
    refine j_goto (pc := 1385) (tgt := 18) dL_law_1385 (by decide) ?_
    refine j_sub [1, 2, 3, 0] rfl ?_
    exact hk18 hf
  · refine j_iconst (pc := 532) dL_law_532 (v := 0) (by decide) ?_
    cases hf
def f_law_c12 (xs : Nat → Int32) (L : Nat) (k18 : Int32 → Hp → Option Unit) (x3 : Int32) (h : Hp) : Option Unit := if ix (x3 + 1) L = true then (if ix (x3 + 2) L = true then ((f_X8_house 0 (xs (Int32.toNatClampNeg (x3 + 1))) (xs (Int32.toNatClampNeg (x3 + 2))) h).bind (fun q38 => if ix (x3 + 1) L = true then (if ix (x3 + 2) L = true then ((f_X9_house 108 (xs (Int32.toNatClampNeg (x3 + 1))) (xs (Int32.toNatClampNeg (x3 + 2))) q38.2).bind (fun q39 => if q38.1 = q39.1 then (lt (x3 + 5) (fun v40 => k18 v40 q39.2)) else (none))) else none) else none)) else none) else none
set_option maxHeartbeats 4000000 in
set_option maxRecDepth 100000 in
theorem t_law_c12 {l : Launch} {D : va_G} {ad : Nat → Nat} {cA : Nat → ClassId} {b L : Nat} {xs : Nat → Int32} {o : Unit} {k18 : Int32 → Hp → Option Unit} (hk18 : ∀ {x3 : Int32} {h : Hp}, k18 x3 h = some o → J l D ad cA (EL b L xs ad) room_1 (600000, 7302250) (QL b) cL_law RL 4 (some .boolean) 18 [(0, .ref b), (1, .ref (ad 0)), (2, .ref (ad 108)), (3, .int x3)] [] h) {x3 : Int32} {h : Hp} (hf : f_law_c12 xs L k18 x3 h = some o) : J l D ad cA (EL b L xs ad) room_1 (600000, 7302250) (QL b) cL_law RL 4 (some .boolean) 534 [(0, .ref b), (1, .ref (ad 0)), (2, .ref (ad 108)), (3, .int x3)] [] h := by
  unfold f_law_c12 at hf
  refine j_aload_n (pc := 534) 1 dL_law_534 rfl rfl ?_
  refine j_aload_n (pc := 535) 0 dL_law_535 rfl rfl ?_
  refine j_iload_n (pc := 536) 3 dL_law_536 rfl rfl ?_
  refine j_iconst (pc := 537) dL_law_537 (v := 1) (by decide) ?_
  refine j_iadd (pc := 538) dL_law_538  ?_
  refine j_sld (pc := 539) dL_law_539 hf (fun hf => ?_)
  refine j_aload_n (pc := 540) 0 dL_law_540 rfl rfl ?_
  refine j_iload_n (pc := 541) 3 dL_law_541 rfl rfl ?_
  refine j_iconst (pc := 542) dL_law_542 (v := 2) (by decide) ?_
  refine j_iadd (pc := 543) dL_law_543  ?_
  refine j_sld (pc := 544) dL_law_544 hf (fun hf => ?_)
  refine j_callLi (pc := 545) (As := [.int (xs (Int32.toNatClampNeg (x3 + 1))), .int (xs (Int32.toNatClampNeg (x3 + 2)))]) (st := []) dL_law_545 s474 (by decide) (by decide) rfl rfl (Nat.le_of_ble_eq_true rfl) (Nat.le_of_ble_eq_true rfl) (fun q hq => t_X8_house (by decide) (by decide) hq) hf (fun q38 hf => ?_)
  refine j_aload_n (pc := 548) 2 dL_law_548 rfl rfl ?_
  refine j_aload_n (pc := 549) 0 dL_law_549 rfl rfl ?_
  refine j_iload_n (pc := 550) 3 dL_law_550 rfl rfl ?_
  refine j_iconst (pc := 551) dL_law_551 (v := 1) (by decide) ?_
  refine j_iadd (pc := 552) dL_law_552  ?_
  refine j_sld (pc := 553) dL_law_553 hf (fun hf => ?_)
  refine j_aload_n (pc := 554) 0 dL_law_554 rfl rfl ?_
  refine j_iload_n (pc := 555) 3 dL_law_555 rfl rfl ?_
  refine j_iconst (pc := 556) dL_law_556 (v := 2) (by decide) ?_
  refine j_iadd (pc := 557) dL_law_557  ?_
  refine j_sld (pc := 558) dL_law_558 hf (fun hf => ?_)
  refine j_callLi (pc := 559) (As := [.int (xs (Int32.toNatClampNeg (x3 + 1))), .int (xs (Int32.toNatClampNeg (x3 + 2)))]) (st := [.int q38.1]) dL_law_559 s1111 (by decide) (by decide) rfl rfl (Nat.le_of_ble_eq_true rfl) (Nat.le_of_ble_eq_true rfl) (fun q hq => t_X9_house (by decide) (by decide) hq) hf (fun q39 hf => ?_)
  refine j_icmp_eq (pc := 562) (tgt := 1382) dL_law_562 (by decide) hf (fun _ hf => ?_) (fun _ hf => ?_)
  · refine j_iinc (pc := 1382) 3 (c := 5) (lv' := fun v40 => [(3, .int v40), (0, .ref b), (1, .ref (ad 0)), (2, .ref (ad 108))]) dL_law_1382 rfl (by decide) (by decide) (fun _ => rfl) hf (fun v40 hf => ?_)
    refine j_goto (pc := 1385) (tgt := 18) dL_law_1385 (by decide) ?_
    refine j_sub [1, 2, 3, 0] rfl ?_
    exact hk18 hf
  · refine j_iconst (pc := 565) dL_law_565 (v := 0) (by decide) ?_
    cases hf
def f_law_c13 (xs : Nat → Int32) (L : Nat) (k18 : Int32 → Hp → Option Unit) (x3 : Int32) (h : Hp) : Option Unit := if ix (x3 + 1) L = true then (if ix (x3 + 2) L = true then ((f_X8_list 0 (xs (Int32.toNatClampNeg (x3 + 1))) (xs (Int32.toNatClampNeg (x3 + 2))) h).bind (fun q41 => if ix (x3 + 1) L = true then (if ix (x3 + 2) L = true then ((f_X9_list 108 (xs (Int32.toNatClampNeg (x3 + 1))) (xs (Int32.toNatClampNeg (x3 + 2))) q41.2).bind (fun q42 => if q41.1 = q42.1 then (lt (x3 + 5) (fun v43 => k18 v43 q42.2)) else (none))) else none) else none)) else none) else none
set_option maxHeartbeats 4000000 in
set_option maxRecDepth 100000 in
theorem t_law_c13 {l : Launch} {D : va_G} {ad : Nat → Nat} {cA : Nat → ClassId} {b L : Nat} {xs : Nat → Int32} {o : Unit} {k18 : Int32 → Hp → Option Unit} (hk18 : ∀ {x3 : Int32} {h : Hp}, k18 x3 h = some o → J l D ad cA (EL b L xs ad) room_1 (600000, 7302250) (QL b) cL_law RL 4 (some .boolean) 18 [(0, .ref b), (1, .ref (ad 0)), (2, .ref (ad 108)), (3, .int x3)] [] h) {x3 : Int32} {h : Hp} (hf : f_law_c13 xs L k18 x3 h = some o) : J l D ad cA (EL b L xs ad) room_1 (600000, 7302250) (QL b) cL_law RL 4 (some .boolean) 567 [(0, .ref b), (1, .ref (ad 0)), (2, .ref (ad 108)), (3, .int x3)] [] h := by
  unfold f_law_c13 at hf
  refine j_aload_n (pc := 567) 1 dL_law_567 rfl rfl ?_
  refine j_aload_n (pc := 568) 0 dL_law_568 rfl rfl ?_
  refine j_iload_n (pc := 569) 3 dL_law_569 rfl rfl ?_
  refine j_iconst (pc := 570) dL_law_570 (v := 1) (by decide) ?_
  refine j_iadd (pc := 571) dL_law_571  ?_
  refine j_sld (pc := 572) dL_law_572 hf (fun hf => ?_)
  refine j_aload_n (pc := 573) 0 dL_law_573 rfl rfl ?_
  refine j_iload_n (pc := 574) 3 dL_law_574 rfl rfl ?_
  refine j_iconst (pc := 575) dL_law_575 (v := 2) (by decide) ?_
  refine j_iadd (pc := 576) dL_law_576  ?_
  refine j_sld (pc := 577) dL_law_577 hf (fun hf => ?_)
  refine j_callLi (pc := 578) (As := [.int (xs (Int32.toNatClampNeg (x3 + 1))), .int (xs (Int32.toNatClampNeg (x3 + 2)))]) (st := []) dL_law_578 s555 (by decide) (by decide) rfl rfl (Nat.le_of_ble_eq_true rfl) (Nat.le_of_ble_eq_true rfl) (fun q hq => t_X8_list (by decide) (by decide) hq) hf (fun q41 hf => ?_)
  refine j_aload_n (pc := 581) 2 dL_law_581 rfl rfl ?_
  refine j_aload_n (pc := 582) 0 dL_law_582 rfl rfl ?_
  refine j_iload_n (pc := 583) 3 dL_law_583 rfl rfl ?_
  refine j_iconst (pc := 584) dL_law_584 (v := 1) (by decide) ?_
  refine j_iadd (pc := 585) dL_law_585  ?_
  refine j_sld (pc := 586) dL_law_586 hf (fun hf => ?_)
  refine j_aload_n (pc := 587) 0 dL_law_587 rfl rfl ?_
  refine j_iload_n (pc := 588) 3 dL_law_588 rfl rfl ?_
  refine j_iconst (pc := 589) dL_law_589 (v := 2) (by decide) ?_
  refine j_iadd (pc := 590) dL_law_590  ?_
  refine j_sld (pc := 591) dL_law_591 hf (fun hf => ?_)
  refine j_callLi (pc := 592) (As := [.int (xs (Int32.toNatClampNeg (x3 + 1))), .int (xs (Int32.toNatClampNeg (x3 + 2)))]) (st := [.int q41.1]) dL_law_592 s1170 (by decide) (by decide) rfl rfl (Nat.le_of_ble_eq_true rfl) (Nat.le_of_ble_eq_true rfl) (fun q hq => t_X9_list (by decide) (by decide) hq) hf (fun q42 hf => ?_)
  refine j_icmp_eq (pc := 595) (tgt := 1382) dL_law_595 (by decide) hf (fun _ hf => ?_) (fun _ hf => ?_)
  · refine j_iinc (pc := 1382) 3 (c := 5) (lv' := fun v43 => [(3, .int v43), (0, .ref b), (1, .ref (ad 0)), (2, .ref (ad 108))]) dL_law_1382 rfl (by decide) (by decide) (fun _ => rfl) hf (fun v43 hf => ?_)
    refine j_goto (pc := 1385) (tgt := 18) dL_law_1385 (by decide) ?_
    refine j_sub [1, 2, 3, 0] rfl ?_
    exact hk18 hf
  · refine j_iconst (pc := 598) dL_law_598 (v := 0) (by decide) ?_
    cases hf
def f_law_c14 (xs : Nat → Int32) (L : Nat) (k18 : Int32 → Hp → Option Unit) (x3 : Int32) (h : Hp) : Option Unit := if ix (x3 + 1) L = true then (if ix (x3 + 2) L = true then ((f_X8_given 0 (xs (Int32.toNatClampNeg (x3 + 1))) (xs (Int32.toNatClampNeg (x3 + 2))) h).bind (fun q44 => if ix (x3 + 1) L = true then (if ix (x3 + 2) L = true then ((f_X9_given 108 (xs (Int32.toNatClampNeg (x3 + 1))) (xs (Int32.toNatClampNeg (x3 + 2))) q44.2).bind (fun q45 => if q44.1 = q45.1 then (lt (x3 + 5) (fun v46 => k18 v46 q45.2)) else (none))) else none) else none)) else none) else none
set_option maxHeartbeats 4000000 in
set_option maxRecDepth 100000 in
theorem t_law_c14 {l : Launch} {D : va_G} {ad : Nat → Nat} {cA : Nat → ClassId} {b L : Nat} {xs : Nat → Int32} {o : Unit} {k18 : Int32 → Hp → Option Unit} (hk18 : ∀ {x3 : Int32} {h : Hp}, k18 x3 h = some o → J l D ad cA (EL b L xs ad) room_1 (600000, 7302250) (QL b) cL_law RL 4 (some .boolean) 18 [(0, .ref b), (1, .ref (ad 0)), (2, .ref (ad 108)), (3, .int x3)] [] h) {x3 : Int32} {h : Hp} (hf : f_law_c14 xs L k18 x3 h = some o) : J l D ad cA (EL b L xs ad) room_1 (600000, 7302250) (QL b) cL_law RL 4 (some .boolean) 600 [(0, .ref b), (1, .ref (ad 0)), (2, .ref (ad 108)), (3, .int x3)] [] h := by
  unfold f_law_c14 at hf
  refine j_aload_n (pc := 600) 1 dL_law_600 rfl rfl ?_
  refine j_aload_n (pc := 601) 0 dL_law_601 rfl rfl ?_
  refine j_iload_n (pc := 602) 3 dL_law_602 rfl rfl ?_
  refine j_iconst (pc := 603) dL_law_603 (v := 1) (by decide) ?_
  refine j_iadd (pc := 604) dL_law_604  ?_
  refine j_sld (pc := 605) dL_law_605 hf (fun hf => ?_)
  refine j_aload_n (pc := 606) 0 dL_law_606 rfl rfl ?_
  refine j_iload_n (pc := 607) 3 dL_law_607 rfl rfl ?_
  refine j_iconst (pc := 608) dL_law_608 (v := 2) (by decide) ?_
  refine j_iadd (pc := 609) dL_law_609  ?_
  refine j_sld (pc := 610) dL_law_610 hf (fun hf => ?_)
  refine j_callLi (pc := 611) (As := [.int (xs (Int32.toNatClampNeg (x3 + 1))), .int (xs (Int32.toNatClampNeg (x3 + 2)))]) (st := []) dL_law_611 s559 (by decide) (by decide) rfl rfl (Nat.le_of_ble_eq_true rfl) (Nat.le_of_ble_eq_true rfl) (fun q hq => t_X8_given (by decide) (by decide) hq) hf (fun q44 hf => ?_)
  refine j_aload_n (pc := 614) 2 dL_law_614 rfl rfl ?_
  refine j_aload_n (pc := 615) 0 dL_law_615 rfl rfl ?_
  refine j_iload_n (pc := 616) 3 dL_law_616 rfl rfl ?_
  refine j_iconst (pc := 617) dL_law_617 (v := 1) (by decide) ?_
  refine j_iadd (pc := 618) dL_law_618  ?_
  refine j_sld (pc := 619) dL_law_619 hf (fun hf => ?_)
  refine j_aload_n (pc := 620) 0 dL_law_620 rfl rfl ?_
  refine j_iload_n (pc := 621) 3 dL_law_621 rfl rfl ?_
  refine j_iconst (pc := 622) dL_law_622 (v := 2) (by decide) ?_
  refine j_iadd (pc := 623) dL_law_623  ?_
  refine j_sld (pc := 624) dL_law_624 hf (fun hf => ?_)
  refine j_callLi (pc := 625) (As := [.int (xs (Int32.toNatClampNeg (x3 + 1))), .int (xs (Int32.toNatClampNeg (x3 + 2)))]) (st := [.int q44.1]) dL_law_625 s1174 (by decide) (by decide) rfl rfl (Nat.le_of_ble_eq_true rfl) (Nat.le_of_ble_eq_true rfl) (fun q hq => t_X9_given (by decide) (by decide) hq) hf (fun q45 hf => ?_)
  refine j_icmp_eq (pc := 628) (tgt := 1382) dL_law_628 (by decide) hf (fun _ hf => ?_) (fun _ hf => ?_)
  · refine j_iinc (pc := 1382) 3 (c := 5) (lv' := fun v46 => [(3, .int v46), (0, .ref b), (1, .ref (ad 0)), (2, .ref (ad 108))]) dL_law_1382 rfl (by decide) (by decide) (fun _ => rfl) hf (fun v46 hf => ?_)
    refine j_goto (pc := 1385) (tgt := 18) dL_law_1385 (by decide) ?_
    refine j_sub [1, 2, 3, 0] rfl ?_
    exact hk18 hf
  · refine j_iconst (pc := 631) dL_law_631 (v := 0) (by decide) ?_
    cases hf
def f_law_c15 (xs : Nat → Int32) (L : Nat) (k18 : Int32 → Hp → Option Unit) (x3 : Int32) (h : Hp) : Option Unit := if ix (x3 + 1) L = true then ((f_X8_tie 0 (xs (Int32.toNatClampNeg (x3 + 1))) h).bind (fun q47 => if ix (x3 + 1) L = true then ((f_X9_tie 108 (xs (Int32.toNatClampNeg (x3 + 1))) q47.2).bind (fun q48 => if q47.1 = q48.1 then (lt (x3 + 5) (fun v49 => k18 v49 q48.2)) else (none))) else none)) else none
set_option maxHeartbeats 4000000 in
set_option maxRecDepth 100000 in
theorem t_law_c15 {l : Launch} {D : va_G} {ad : Nat → Nat} {cA : Nat → ClassId} {b L : Nat} {xs : Nat → Int32} {o : Unit} {k18 : Int32 → Hp → Option Unit} (hk18 : ∀ {x3 : Int32} {h : Hp}, k18 x3 h = some o → J l D ad cA (EL b L xs ad) room_1 (600000, 7302250) (QL b) cL_law RL 4 (some .boolean) 18 [(0, .ref b), (1, .ref (ad 0)), (2, .ref (ad 108)), (3, .int x3)] [] h) {x3 : Int32} {h : Hp} (hf : f_law_c15 xs L k18 x3 h = some o) : J l D ad cA (EL b L xs ad) room_1 (600000, 7302250) (QL b) cL_law RL 4 (some .boolean) 633 [(0, .ref b), (1, .ref (ad 0)), (2, .ref (ad 108)), (3, .int x3)] [] h := by
  unfold f_law_c15 at hf
  refine j_aload_n (pc := 633) 1 dL_law_633 rfl rfl ?_
  refine j_aload_n (pc := 634) 0 dL_law_634 rfl rfl ?_
  refine j_iload_n (pc := 635) 3 dL_law_635 rfl rfl ?_
  refine j_iconst (pc := 636) dL_law_636 (v := 1) (by decide) ?_
  refine j_iadd (pc := 637) dL_law_637  ?_
  refine j_sld (pc := 638) dL_law_638 hf (fun hf => ?_)
  refine j_callLi (pc := 639) (As := [.int (xs (Int32.toNatClampNeg (x3 + 1)))]) (st := []) dL_law_639 s567 (by decide) (by decide) rfl rfl (Nat.le_of_ble_eq_true rfl) (Nat.le_of_ble_eq_true rfl) (fun q hq => t_X8_tie (by decide) (by decide) hq) hf (fun q47 hf => ?_)
  refine j_aload_n (pc := 642) 2 dL_law_642 rfl rfl ?_
  refine j_aload_n (pc := 643) 0 dL_law_643 rfl rfl ?_
  refine j_iload_n (pc := 644) 3 dL_law_644 rfl rfl ?_
  refine j_iconst (pc := 645) dL_law_645 (v := 1) (by decide) ?_
  refine j_iadd (pc := 646) dL_law_646  ?_
  refine j_sld (pc := 647) dL_law_647 hf (fun hf => ?_)
  refine j_callLi (pc := 648) (As := [.int (xs (Int32.toNatClampNeg (x3 + 1)))]) (st := [.int q47.1]) dL_law_648 s1182 (by decide) (by decide) rfl rfl (Nat.le_of_ble_eq_true rfl) (Nat.le_of_ble_eq_true rfl) (fun q hq => t_X9_tie (by decide) (by decide) hq) hf (fun q48 hf => ?_)
  refine j_icmp_eq (pc := 651) (tgt := 1382) dL_law_651 (by decide) hf (fun _ hf => ?_) (fun _ hf => ?_)
  · refine j_iinc (pc := 1382) 3 (c := 5) (lv' := fun v49 => [(3, .int v49), (0, .ref b), (1, .ref (ad 0)), (2, .ref (ad 108))]) dL_law_1382 rfl (by decide) (by decide) (fun _ => rfl) hf (fun v49 hf => ?_)
    refine j_goto (pc := 1385) (tgt := 18) dL_law_1385 (by decide) ?_
    refine j_sub [1, 2, 3, 0] rfl ?_
    exact hk18 hf
  · refine j_iconst (pc := 654) dL_law_654 (v := 0) (by decide) ?_
    cases hf
def f_law_c16 (xs : Nat → Int32) (L : Nat) (k18 : Int32 → Hp → Option Unit) (x3 : Int32) (h : Hp) : Option Unit := if ix (x3 + 1) L = true then (if ix (x3 + 2) L = true then (if ix (x3 + 3) L = true then ((f_X8_differ 0 (xs (Int32.toNatClampNeg (x3 + 1))) (xs (Int32.toNatClampNeg (x3 + 2))) (xs (Int32.toNatClampNeg (x3 + 3))) h).bind (fun q50 => if ix (x3 + 1) L = true then (if ix (x3 + 2) L = true then (if ix (x3 + 3) L = true then ((f_X9_differ 108 (xs (Int32.toNatClampNeg (x3 + 1))) (xs (Int32.toNatClampNeg (x3 + 2))) (xs (Int32.toNatClampNeg (x3 + 3))) q50.2).bind (fun q51 => if q50.1 = q51.1 then (lt (x3 + 5) (fun v52 => k18 v52 q51.2)) else (none))) else none) else none) else none)) else none) else none) else none
set_option maxHeartbeats 4000000 in
set_option maxRecDepth 100000 in
theorem t_law_c16 {l : Launch} {D : va_G} {ad : Nat → Nat} {cA : Nat → ClassId} {b L : Nat} {xs : Nat → Int32} {o : Unit} {k18 : Int32 → Hp → Option Unit} (hk18 : ∀ {x3 : Int32} {h : Hp}, k18 x3 h = some o → J l D ad cA (EL b L xs ad) room_1 (600000, 7302250) (QL b) cL_law RL 4 (some .boolean) 18 [(0, .ref b), (1, .ref (ad 0)), (2, .ref (ad 108)), (3, .int x3)] [] h) {x3 : Int32} {h : Hp} (hf : f_law_c16 xs L k18 x3 h = some o) : J l D ad cA (EL b L xs ad) room_1 (600000, 7302250) (QL b) cL_law RL 4 (some .boolean) 656 [(0, .ref b), (1, .ref (ad 0)), (2, .ref (ad 108)), (3, .int x3)] [] h := by
  unfold f_law_c16 at hf
  refine j_aload_n (pc := 656) 1 dL_law_656 rfl rfl ?_
  refine j_aload_n (pc := 657) 0 dL_law_657 rfl rfl ?_
  refine j_iload_n (pc := 658) 3 dL_law_658 rfl rfl ?_
  refine j_iconst (pc := 659) dL_law_659 (v := 1) (by decide) ?_
  refine j_iadd (pc := 660) dL_law_660  ?_
  refine j_sld (pc := 661) dL_law_661 hf (fun hf => ?_)
  refine j_aload_n (pc := 662) 0 dL_law_662 rfl rfl ?_
  refine j_iload_n (pc := 663) 3 dL_law_663 rfl rfl ?_
  refine j_iconst (pc := 664) dL_law_664 (v := 2) (by decide) ?_
  refine j_iadd (pc := 665) dL_law_665  ?_
  refine j_sld (pc := 666) dL_law_666 hf (fun hf => ?_)
  refine j_aload_n (pc := 667) 0 dL_law_667 rfl rfl ?_
  refine j_iload_n (pc := 668) 3 dL_law_668 rfl rfl ?_
  refine j_iconst (pc := 669) dL_law_669 (v := 3) (by decide) ?_
  refine j_iadd (pc := 670) dL_law_670  ?_
  refine j_sld (pc := 671) dL_law_671 hf (fun hf => ?_)
  refine j_callLi (pc := 672) (As := [.int (xs (Int32.toNatClampNeg (x3 + 1))), .int (xs (Int32.toNatClampNeg (x3 + 2))), .int (xs (Int32.toNatClampNeg (x3 + 3)))]) (st := []) dL_law_672 s571 (by decide) (by decide) rfl rfl (Nat.le_of_ble_eq_true rfl) (Nat.le_of_ble_eq_true rfl) (fun q hq => t_X8_differ (by decide) (by decide) hq) hf (fun q50 hf => ?_)
  refine j_aload_n (pc := 675) 2 dL_law_675 rfl rfl ?_
  refine j_aload_n (pc := 676) 0 dL_law_676 rfl rfl ?_
  refine j_iload_n (pc := 677) 3 dL_law_677 rfl rfl ?_
  refine j_iconst (pc := 678) dL_law_678 (v := 1) (by decide) ?_
  refine j_iadd (pc := 679) dL_law_679  ?_
  refine j_sld (pc := 680) dL_law_680 hf (fun hf => ?_)
  refine j_aload_n (pc := 681) 0 dL_law_681 rfl rfl ?_
  refine j_iload_n (pc := 682) 3 dL_law_682 rfl rfl ?_
  refine j_iconst (pc := 683) dL_law_683 (v := 2) (by decide) ?_
  refine j_iadd (pc := 684) dL_law_684  ?_
  refine j_sld (pc := 685) dL_law_685 hf (fun hf => ?_)
  refine j_aload_n (pc := 686) 0 dL_law_686 rfl rfl ?_
  refine j_iload_n (pc := 687) 3 dL_law_687 rfl rfl ?_
  refine j_iconst (pc := 688) dL_law_688 (v := 3) (by decide) ?_
  refine j_iadd (pc := 689) dL_law_689  ?_
  refine j_sld (pc := 690) dL_law_690 hf (fun hf => ?_)
  refine j_callLi (pc := 691) (As := [.int (xs (Int32.toNatClampNeg (x3 + 1))), .int (xs (Int32.toNatClampNeg (x3 + 2))), .int (xs (Int32.toNatClampNeg (x3 + 3)))]) (st := [.int q50.1]) dL_law_691 s1186 (by decide) (by decide) rfl rfl (Nat.le_of_ble_eq_true rfl) (Nat.le_of_ble_eq_true rfl) (fun q hq => t_X9_differ (by decide) (by decide) hq) hf (fun q51 hf => ?_)
  refine j_icmp_eq (pc := 694) (tgt := 1382) dL_law_694 (by decide) hf (fun _ hf => ?_) (fun _ hf => ?_)
  · refine j_iinc (pc := 1382) 3 (c := 5) (lv' := fun v52 => [(3, .int v52), (0, .ref b), (1, .ref (ad 0)), (2, .ref (ad 108))]) dL_law_1382 rfl (by decide) (by decide) (fun _ => rfl) hf (fun v52 hf => ?_)
    refine j_goto (pc := 1385) (tgt := 18) dL_law_1385 (by decide) ?_
    refine j_sub [1, 2, 3, 0] rfl ?_
    exact hk18 hf
  · refine j_iconst (pc := 697) dL_law_697 (v := 0) (by decide) ?_
    cases hf
def f_law_c17 (xs : Nat → Int32) (L : Nat) (k18 : Int32 → Hp → Option Unit) (x3 : Int32) (h : Hp) : Option Unit := if ix (x3 + 1) L = true then (if ix (x3 + 2) L = true then ((f_X8_loses 0 (xs (Int32.toNatClampNeg (x3 + 1))) (xs (Int32.toNatClampNeg (x3 + 2))) h).bind (fun q53 => if ix (x3 + 1) L = true then (if ix (x3 + 2) L = true then ((f_X9_loses 108 (xs (Int32.toNatClampNeg (x3 + 1))) (xs (Int32.toNatClampNeg (x3 + 2))) q53.2).bind (fun q54 => if q53.1 = q54.1 then (lt (x3 + 5) (fun v55 => k18 v55 q54.2)) else (none))) else none) else none)) else none) else none
set_option maxHeartbeats 4000000 in
set_option maxRecDepth 100000 in
theorem t_law_c17 {l : Launch} {D : va_G} {ad : Nat → Nat} {cA : Nat → ClassId} {b L : Nat} {xs : Nat → Int32} {o : Unit} {k18 : Int32 → Hp → Option Unit} (hk18 : ∀ {x3 : Int32} {h : Hp}, k18 x3 h = some o → J l D ad cA (EL b L xs ad) room_1 (600000, 7302250) (QL b) cL_law RL 4 (some .boolean) 18 [(0, .ref b), (1, .ref (ad 0)), (2, .ref (ad 108)), (3, .int x3)] [] h) {x3 : Int32} {h : Hp} (hf : f_law_c17 xs L k18 x3 h = some o) : J l D ad cA (EL b L xs ad) room_1 (600000, 7302250) (QL b) cL_law RL 4 (some .boolean) 699 [(0, .ref b), (1, .ref (ad 0)), (2, .ref (ad 108)), (3, .int x3)] [] h := by
  unfold f_law_c17 at hf
  refine j_aload_n (pc := 699) 1 dL_law_699 rfl rfl ?_
  refine j_aload_n (pc := 700) 0 dL_law_700 rfl rfl ?_
  refine j_iload_n (pc := 701) 3 dL_law_701 rfl rfl ?_
  refine j_iconst (pc := 702) dL_law_702 (v := 1) (by decide) ?_
  refine j_iadd (pc := 703) dL_law_703  ?_
  refine j_sld (pc := 704) dL_law_704 hf (fun hf => ?_)
  refine j_aload_n (pc := 705) 0 dL_law_705 rfl rfl ?_
  refine j_iload_n (pc := 706) 3 dL_law_706 rfl rfl ?_
  refine j_iconst (pc := 707) dL_law_707 (v := 2) (by decide) ?_
  refine j_iadd (pc := 708) dL_law_708  ?_
  refine j_sld (pc := 709) dL_law_709 hf (fun hf => ?_)
  refine j_callLi (pc := 710) (As := [.int (xs (Int32.toNatClampNeg (x3 + 1))), .int (xs (Int32.toNatClampNeg (x3 + 2)))]) (st := []) dL_law_710 s582 (by decide) (by decide) rfl rfl (Nat.le_of_ble_eq_true rfl) (Nat.le_of_ble_eq_true rfl) (fun q hq => t_X8_loses (by decide) (by decide) hq) hf (fun q53 hf => ?_)
  refine j_aload_n (pc := 713) 2 dL_law_713 rfl rfl ?_
  refine j_aload_n (pc := 714) 0 dL_law_714 rfl rfl ?_
  refine j_iload_n (pc := 715) 3 dL_law_715 rfl rfl ?_
  refine j_iconst (pc := 716) dL_law_716 (v := 1) (by decide) ?_
  refine j_iadd (pc := 717) dL_law_717  ?_
  refine j_sld (pc := 718) dL_law_718 hf (fun hf => ?_)
  refine j_aload_n (pc := 719) 0 dL_law_719 rfl rfl ?_
  refine j_iload_n (pc := 720) 3 dL_law_720 rfl rfl ?_
  refine j_iconst (pc := 721) dL_law_721 (v := 2) (by decide) ?_
  refine j_iadd (pc := 722) dL_law_722  ?_
  refine j_sld (pc := 723) dL_law_723 hf (fun hf => ?_)
  refine j_callLi (pc := 724) (As := [.int (xs (Int32.toNatClampNeg (x3 + 1))), .int (xs (Int32.toNatClampNeg (x3 + 2)))]) (st := [.int q53.1]) dL_law_724 s1199 (by decide) (by decide) rfl rfl (Nat.le_of_ble_eq_true rfl) (Nat.le_of_ble_eq_true rfl) (fun q hq => t_X9_loses (by decide) (by decide) hq) hf (fun q54 hf => ?_)
  refine j_icmp_eq (pc := 727) (tgt := 1382) dL_law_727 (by decide) hf (fun _ hf => ?_) (fun _ hf => ?_)
  · refine j_iinc (pc := 1382) 3 (c := 5) (lv' := fun v55 => [(3, .int v55), (0, .ref b), (1, .ref (ad 0)), (2, .ref (ad 108))]) dL_law_1382 rfl (by decide) (by decide) (fun _ => rfl) hf (fun v55 hf => ?_)
    refine j_goto (pc := 1385) (tgt := 18) dL_law_1385 (by decide) ?_
    refine j_sub [1, 2, 3, 0] rfl ?_
    exact hk18 hf
  · refine j_iconst (pc := 730) dL_law_730 (v := 0) (by decide) ?_
    cases hf
def f_law_c18 (xs : Nat → Int32) (L : Nat) (k18 : Int32 → Hp → Option Unit) (x3 : Int32) (h : Hp) : Option Unit := if ix (x3 + 1) L = true then ((f_X8_loser 0 (xs (Int32.toNatClampNeg (x3 + 1))) h).bind (fun q56 => if ix (x3 + 1) L = true then ((f_X9_loser 108 (xs (Int32.toNatClampNeg (x3 + 1))) q56.2).bind (fun q57 => if q56.1 = q57.1 then (lt (x3 + 5) (fun v58 => k18 v58 q57.2)) else (none))) else none)) else none
set_option maxHeartbeats 4000000 in
set_option maxRecDepth 100000 in
theorem t_law_c18 {l : Launch} {D : va_G} {ad : Nat → Nat} {cA : Nat → ClassId} {b L : Nat} {xs : Nat → Int32} {o : Unit} {k18 : Int32 → Hp → Option Unit} (hk18 : ∀ {x3 : Int32} {h : Hp}, k18 x3 h = some o → J l D ad cA (EL b L xs ad) room_1 (600000, 7302250) (QL b) cL_law RL 4 (some .boolean) 18 [(0, .ref b), (1, .ref (ad 0)), (2, .ref (ad 108)), (3, .int x3)] [] h) {x3 : Int32} {h : Hp} (hf : f_law_c18 xs L k18 x3 h = some o) : J l D ad cA (EL b L xs ad) room_1 (600000, 7302250) (QL b) cL_law RL 4 (some .boolean) 732 [(0, .ref b), (1, .ref (ad 0)), (2, .ref (ad 108)), (3, .int x3)] [] h := by
  unfold f_law_c18 at hf
  refine j_aload_n (pc := 732) 1 dL_law_732 rfl rfl ?_
  refine j_aload_n (pc := 733) 0 dL_law_733 rfl rfl ?_
  refine j_iload_n (pc := 734) 3 dL_law_734 rfl rfl ?_
  refine j_iconst (pc := 735) dL_law_735 (v := 1) (by decide) ?_
  refine j_iadd (pc := 736) dL_law_736  ?_
  refine j_sld (pc := 737) dL_law_737 hf (fun hf => ?_)
  refine j_callLi (pc := 738) (As := [.int (xs (Int32.toNatClampNeg (x3 + 1)))]) (st := []) dL_law_738 s590 (by decide) (by decide) rfl rfl (Nat.le_of_ble_eq_true rfl) (Nat.le_of_ble_eq_true rfl) (fun q hq => t_X8_loser (by decide) (by decide) hq) hf (fun q56 hf => ?_)
  refine j_aload_n (pc := 741) 2 dL_law_741 rfl rfl ?_
  refine j_aload_n (pc := 742) 0 dL_law_742 rfl rfl ?_
  refine j_iload_n (pc := 743) 3 dL_law_743 rfl rfl ?_
  refine j_iconst (pc := 744) dL_law_744 (v := 1) (by decide) ?_
  refine j_iadd (pc := 745) dL_law_745  ?_
  refine j_sld (pc := 746) dL_law_746 hf (fun hf => ?_)
  refine j_callLi (pc := 747) (As := [.int (xs (Int32.toNatClampNeg (x3 + 1)))]) (st := [.int q56.1]) dL_law_747 s1207 (by decide) (by decide) rfl rfl (Nat.le_of_ble_eq_true rfl) (Nat.le_of_ble_eq_true rfl) (fun q hq => t_X9_loser (by decide) (by decide) hq) hf (fun q57 hf => ?_)
  refine j_icmp_eq (pc := 750) (tgt := 1382) dL_law_750 (by decide) hf (fun _ hf => ?_) (fun _ hf => ?_)
  · refine j_iinc (pc := 1382) 3 (c := 5) (lv' := fun v58 => [(3, .int v58), (0, .ref b), (1, .ref (ad 0)), (2, .ref (ad 108))]) dL_law_1382 rfl (by decide) (by decide) (fun _ => rfl) hf (fun v58 hf => ?_)
    refine j_goto (pc := 1385) (tgt := 18) dL_law_1385 (by decide) ?_
    refine j_sub [1, 2, 3, 0] rfl ?_
    exact hk18 hf
  · refine j_iconst (pc := 753) dL_law_753 (v := 0) (by decide) ?_
    cases hf
def f_law_c19 (xs : Nat → Int32) (L : Nat) (k18 : Int32 → Hp → Option Unit) (x3 : Int32) (h : Hp) : Option Unit := if ix (x3 + 1) L = true then (if ix (x3 + 2) L = true then (if ix (x3 + 3) L = true then ((f_X8_price 0 (xs (Int32.toNatClampNeg (x3 + 1))) (xs (Int32.toNatClampNeg (x3 + 2))) (xs (Int32.toNatClampNeg (x3 + 3))) h).bind (fun q59 => if ix (x3 + 1) L = true then (if ix (x3 + 2) L = true then (if ix (x3 + 3) L = true then ((f_X9_price 108 (xs (Int32.toNatClampNeg (x3 + 1))) (xs (Int32.toNatClampNeg (x3 + 2))) (xs (Int32.toNatClampNeg (x3 + 3))) q59.2).bind (fun q60 => if (lg_cmp q59.1 q60.1) = 0 then (lt (x3 + 5) (fun v61 => k18 v61 q60.2)) else (none))) else none) else none) else none)) else none) else none) else none
set_option maxHeartbeats 4000000 in
set_option maxRecDepth 100000 in
theorem t_law_c19 {l : Launch} {D : va_G} {ad : Nat → Nat} {cA : Nat → ClassId} {b L : Nat} {xs : Nat → Int32} {o : Unit} {k18 : Int32 → Hp → Option Unit} (hk18 : ∀ {x3 : Int32} {h : Hp}, k18 x3 h = some o → J l D ad cA (EL b L xs ad) room_1 (600000, 7302250) (QL b) cL_law RL 4 (some .boolean) 18 [(0, .ref b), (1, .ref (ad 0)), (2, .ref (ad 108)), (3, .int x3)] [] h) {x3 : Int32} {h : Hp} (hf : f_law_c19 xs L k18 x3 h = some o) : J l D ad cA (EL b L xs ad) room_1 (600000, 7302250) (QL b) cL_law RL 4 (some .boolean) 755 [(0, .ref b), (1, .ref (ad 0)), (2, .ref (ad 108)), (3, .int x3)] [] h := by
  unfold f_law_c19 at hf
  refine j_aload_n (pc := 755) 1 dL_law_755 rfl rfl ?_
  refine j_aload_n (pc := 756) 0 dL_law_756 rfl rfl ?_
  refine j_iload_n (pc := 757) 3 dL_law_757 rfl rfl ?_
  refine j_iconst (pc := 758) dL_law_758 (v := 1) (by decide) ?_
  refine j_iadd (pc := 759) dL_law_759  ?_
  refine j_sld (pc := 760) dL_law_760 hf (fun hf => ?_)
  refine j_aload_n (pc := 761) 0 dL_law_761 rfl rfl ?_
  refine j_iload_n (pc := 762) 3 dL_law_762 rfl rfl ?_
  refine j_iconst (pc := 763) dL_law_763 (v := 2) (by decide) ?_
  refine j_iadd (pc := 764) dL_law_764  ?_
  refine j_sld (pc := 765) dL_law_765 hf (fun hf => ?_)
  refine j_aload_n (pc := 766) 0 dL_law_766 rfl rfl ?_
  refine j_iload_n (pc := 767) 3 dL_law_767 rfl rfl ?_
  refine j_iconst (pc := 768) dL_law_768 (v := 3) (by decide) ?_
  refine j_iadd (pc := 769) dL_law_769  ?_
  refine j_sld (pc := 770) dL_law_770 hf (fun hf => ?_)
  refine j_callLl (pc := 771) (As := [.int (xs (Int32.toNatClampNeg (x3 + 1))), .int (xs (Int32.toNatClampNeg (x3 + 2))), .int (xs (Int32.toNatClampNeg (x3 + 3)))]) (st := []) dL_law_771 s594 (by decide) (by decide) rfl rfl (Nat.le_of_ble_eq_true rfl) (Nat.le_of_ble_eq_true rfl) (fun q hq => t_X8_price (by decide) (by decide) hq) hf (fun q59 hf => ?_)
  refine j_aload_n (pc := 774) 2 dL_law_774 rfl rfl ?_
  refine j_aload_n (pc := 775) 0 dL_law_775 rfl rfl ?_
  refine j_iload_n (pc := 776) 3 dL_law_776 rfl rfl ?_
  refine j_iconst (pc := 777) dL_law_777 (v := 1) (by decide) ?_
  refine j_iadd (pc := 778) dL_law_778  ?_
  refine j_sld (pc := 779) dL_law_779 hf (fun hf => ?_)
  refine j_aload_n (pc := 780) 0 dL_law_780 rfl rfl ?_
  refine j_iload_n (pc := 781) 3 dL_law_781 rfl rfl ?_
  refine j_iconst (pc := 782) dL_law_782 (v := 2) (by decide) ?_
  refine j_iadd (pc := 783) dL_law_783  ?_
  refine j_sld (pc := 784) dL_law_784 hf (fun hf => ?_)
  refine j_aload_n (pc := 785) 0 dL_law_785 rfl rfl ?_
  refine j_iload_n (pc := 786) 3 dL_law_786 rfl rfl ?_
  refine j_iconst (pc := 787) dL_law_787 (v := 3) (by decide) ?_
  refine j_iadd (pc := 788) dL_law_788  ?_
  refine j_sld (pc := 789) dL_law_789 hf (fun hf => ?_)
  refine j_callLl (pc := 790) (As := [.int (xs (Int32.toNatClampNeg (x3 + 1))), .int (xs (Int32.toNatClampNeg (x3 + 2))), .int (xs (Int32.toNatClampNeg (x3 + 3)))]) (st := [.long q59.1]) dL_law_790 s1071 (by decide) (by decide) rfl rfl (Nat.le_of_ble_eq_true rfl) (Nat.le_of_ble_eq_true rfl) (fun q hq => t_X9_price (by decide) (by decide) hq) hf (fun q60 hf => ?_)
  refine j_lcmp (pc := 793) dL_law_793  ?_
  refine j_if_eq (pc := 794) (tgt := 1382) dL_law_794 (by decide) hf (fun _ hf => ?_) (fun _ hf => ?_)
  · refine j_iinc (pc := 1382) 3 (c := 5) (lv' := fun v61 => [(3, .int v61), (0, .ref b), (1, .ref (ad 0)), (2, .ref (ad 108))]) dL_law_1382 rfl (by decide) (by decide) (fun _ => rfl) hf (fun v61 hf => ?_)
    refine j_goto (pc := 1385) (tgt := 18) dL_law_1385 (by decide) ?_
    refine j_sub [1, 2, 3, 0] rfl ?_
    exact hk18 hf
  · refine j_iconst (pc := 797) dL_law_797 (v := 0) (by decide) ?_
    cases hf
def f_law_c20 (xs : Nat → Int32) (L : Nat) (k18 : Int32 → Hp → Option Unit) (x3 : Int32) (h : Hp) : Option Unit := if ix (x3 + 1) L = true then (if ix (x3 + 2) L = true then (if ix (x3 + 3) L = true then ((f_X8_span 0 (xs (Int32.toNatClampNeg (x3 + 1))) (xs (Int32.toNatClampNeg (x3 + 2))) (xs (Int32.toNatClampNeg (x3 + 3))) h).bind (fun q62 => if ix (x3 + 1) L = true then (if ix (x3 + 2) L = true then (if ix (x3 + 3) L = true then ((f_X9_span 108 (xs (Int32.toNatClampNeg (x3 + 1))) (xs (Int32.toNatClampNeg (x3 + 2))) (xs (Int32.toNatClampNeg (x3 + 3))) q62.2).bind (fun q63 => if (lg_cmp q62.1 q63.1) = 0 then (lt (x3 + 5) (fun v64 => k18 v64 q63.2)) else (none))) else none) else none) else none)) else none) else none) else none
set_option maxHeartbeats 4000000 in
set_option maxRecDepth 100000 in
theorem t_law_c20 {l : Launch} {D : va_G} {ad : Nat → Nat} {cA : Nat → ClassId} {b L : Nat} {xs : Nat → Int32} {o : Unit} {k18 : Int32 → Hp → Option Unit} (hk18 : ∀ {x3 : Int32} {h : Hp}, k18 x3 h = some o → J l D ad cA (EL b L xs ad) room_1 (600000, 7302250) (QL b) cL_law RL 4 (some .boolean) 18 [(0, .ref b), (1, .ref (ad 0)), (2, .ref (ad 108)), (3, .int x3)] [] h) {x3 : Int32} {h : Hp} (hf : f_law_c20 xs L k18 x3 h = some o) : J l D ad cA (EL b L xs ad) room_1 (600000, 7302250) (QL b) cL_law RL 4 (some .boolean) 799 [(0, .ref b), (1, .ref (ad 0)), (2, .ref (ad 108)), (3, .int x3)] [] h := by
  unfold f_law_c20 at hf
  refine j_aload_n (pc := 799) 1 dL_law_799 rfl rfl ?_
  refine j_aload_n (pc := 800) 0 dL_law_800 rfl rfl ?_
  refine j_iload_n (pc := 801) 3 dL_law_801 rfl rfl ?_
  refine j_iconst (pc := 802) dL_law_802 (v := 1) (by decide) ?_
  refine j_iadd (pc := 803) dL_law_803  ?_
  refine j_sld (pc := 804) dL_law_804 hf (fun hf => ?_)
  refine j_aload_n (pc := 805) 0 dL_law_805 rfl rfl ?_
  refine j_iload_n (pc := 806) 3 dL_law_806 rfl rfl ?_
  refine j_iconst (pc := 807) dL_law_807 (v := 2) (by decide) ?_
  refine j_iadd (pc := 808) dL_law_808  ?_
  refine j_sld (pc := 809) dL_law_809 hf (fun hf => ?_)
  refine j_aload_n (pc := 810) 0 dL_law_810 rfl rfl ?_
  refine j_iload_n (pc := 811) 3 dL_law_811 rfl rfl ?_
  refine j_iconst (pc := 812) dL_law_812 (v := 3) (by decide) ?_
  refine j_iadd (pc := 813) dL_law_813  ?_
  refine j_sld (pc := 814) dL_law_814 hf (fun hf => ?_)
  refine j_callLl (pc := 815) (As := [.int (xs (Int32.toNatClampNeg (x3 + 1))), .int (xs (Int32.toNatClampNeg (x3 + 2))), .int (xs (Int32.toNatClampNeg (x3 + 3)))]) (st := []) dL_law_815 s607 (by decide) (by decide) rfl rfl (Nat.le_of_ble_eq_true rfl) (Nat.le_of_ble_eq_true rfl) (fun q hq => t_X8_span (by decide) (by decide) hq) hf (fun q62 hf => ?_)
  refine j_aload_n (pc := 818) 2 dL_law_818 rfl rfl ?_
  refine j_aload_n (pc := 819) 0 dL_law_819 rfl rfl ?_
  refine j_iload_n (pc := 820) 3 dL_law_820 rfl rfl ?_
  refine j_iconst (pc := 821) dL_law_821 (v := 1) (by decide) ?_
  refine j_iadd (pc := 822) dL_law_822  ?_
  refine j_sld (pc := 823) dL_law_823 hf (fun hf => ?_)
  refine j_aload_n (pc := 824) 0 dL_law_824 rfl rfl ?_
  refine j_iload_n (pc := 825) 3 dL_law_825 rfl rfl ?_
  refine j_iconst (pc := 826) dL_law_826 (v := 2) (by decide) ?_
  refine j_iadd (pc := 827) dL_law_827  ?_
  refine j_sld (pc := 828) dL_law_828 hf (fun hf => ?_)
  refine j_aload_n (pc := 829) 0 dL_law_829 rfl rfl ?_
  refine j_iload_n (pc := 830) 3 dL_law_830 rfl rfl ?_
  refine j_iconst (pc := 831) dL_law_831 (v := 3) (by decide) ?_
  refine j_iadd (pc := 832) dL_law_832  ?_
  refine j_sld (pc := 833) dL_law_833 hf (fun hf => ?_)
  refine j_callLl (pc := 834) (As := [.int (xs (Int32.toNatClampNeg (x3 + 1))), .int (xs (Int32.toNatClampNeg (x3 + 2))), .int (xs (Int32.toNatClampNeg (x3 + 3)))]) (st := [.long q62.1]) dL_law_834 s1211 (by decide) (by decide) rfl rfl (Nat.le_of_ble_eq_true rfl) (Nat.le_of_ble_eq_true rfl) (fun q hq => t_X9_span (by decide) (by decide) hq) hf (fun q63 hf => ?_)
  refine j_lcmp (pc := 837) dL_law_837  ?_
  refine j_if_eq (pc := 838) (tgt := 1382) dL_law_838 (by decide) hf (fun _ hf => ?_) (fun _ hf => ?_)
  · refine j_iinc (pc := 1382) 3 (c := 5) (lv' := fun v64 => [(3, .int v64), (0, .ref b), (1, .ref (ad 0)), (2, .ref (ad 108))]) dL_law_1382 rfl (by decide) (by decide) (fun _ => rfl) hf (fun v64 hf => ?_)
    refine j_goto (pc := 1385) (tgt := 18) dL_law_1385 (by decide) ?_
    refine j_sub [1, 2, 3, 0] rfl ?_
    exact hk18 hf
  · refine j_iconst (pc := 841) dL_law_841 (v := 0) (by decide) ?_
    cases hf
def f_law_c21 (xs : Nat → Int32) (L : Nat) (k18 : Int32 → Hp → Option Unit) (x3 : Int32) (h : Hp) : Option Unit := if ix (x3 + 1) L = true then ((f_X8_quota 0 (xs (Int32.toNatClampNeg (x3 + 1))) h).bind (fun q65 => if ix (x3 + 1) L = true then ((f_X9_quota 108 (xs (Int32.toNatClampNeg (x3 + 1))) q65.2).bind (fun q66 => if q65.1 = q66.1 then (lt (x3 + 5) (fun v67 => k18 v67 q66.2)) else (none))) else none)) else none
set_option maxHeartbeats 4000000 in
set_option maxRecDepth 100000 in
theorem t_law_c21 {l : Launch} {D : va_G} {ad : Nat → Nat} {cA : Nat → ClassId} {b L : Nat} {xs : Nat → Int32} {o : Unit} {k18 : Int32 → Hp → Option Unit} (hk18 : ∀ {x3 : Int32} {h : Hp}, k18 x3 h = some o → J l D ad cA (EL b L xs ad) room_1 (600000, 7302250) (QL b) cL_law RL 4 (some .boolean) 18 [(0, .ref b), (1, .ref (ad 0)), (2, .ref (ad 108)), (3, .int x3)] [] h) {x3 : Int32} {h : Hp} (hf : f_law_c21 xs L k18 x3 h = some o) : J l D ad cA (EL b L xs ad) room_1 (600000, 7302250) (QL b) cL_law RL 4 (some .boolean) 843 [(0, .ref b), (1, .ref (ad 0)), (2, .ref (ad 108)), (3, .int x3)] [] h := by
  unfold f_law_c21 at hf
  refine j_aload_n (pc := 843) 1 dL_law_843 rfl rfl ?_
  refine j_aload_n (pc := 844) 0 dL_law_844 rfl rfl ?_
  refine j_iload_n (pc := 845) 3 dL_law_845 rfl rfl ?_
  refine j_iconst (pc := 846) dL_law_846 (v := 1) (by decide) ?_
  refine j_iadd (pc := 847) dL_law_847  ?_
  refine j_sld (pc := 848) dL_law_848 hf (fun hf => ?_)
  refine j_callLi (pc := 849) (As := [.int (xs (Int32.toNatClampNeg (x3 + 1)))]) (st := []) dL_law_849 s617 (by decide) (by decide) rfl rfl (Nat.le_of_ble_eq_true rfl) (Nat.le_of_ble_eq_true rfl) (fun q hq => t_X8_quota (by decide) (by decide) hq) hf (fun q65 hf => ?_)
  refine j_aload_n (pc := 852) 2 dL_law_852 rfl rfl ?_
  refine j_aload_n (pc := 853) 0 dL_law_853 rfl rfl ?_
  refine j_iload_n (pc := 854) 3 dL_law_854 rfl rfl ?_
  refine j_iconst (pc := 855) dL_law_855 (v := 1) (by decide) ?_
  refine j_iadd (pc := 856) dL_law_856  ?_
  refine j_sld (pc := 857) dL_law_857 hf (fun hf => ?_)
  refine j_callLi (pc := 858) (As := [.int (xs (Int32.toNatClampNeg (x3 + 1)))]) (st := [.int q65.1]) dL_law_858 s1219 (by decide) (by decide) rfl rfl (Nat.le_of_ble_eq_true rfl) (Nat.le_of_ble_eq_true rfl) (fun q hq => t_X9_quota (by decide) (by decide) hq) hf (fun q66 hf => ?_)
  refine j_icmp_eq (pc := 861) (tgt := 1382) dL_law_861 (by decide) hf (fun _ hf => ?_) (fun _ hf => ?_)
  · refine j_iinc (pc := 1382) 3 (c := 5) (lv' := fun v67 => [(3, .int v67), (0, .ref b), (1, .ref (ad 0)), (2, .ref (ad 108))]) dL_law_1382 rfl (by decide) (by decide) (fun _ => rfl) hf (fun v67 hf => ?_)
    refine j_goto (pc := 1385) (tgt := 18) dL_law_1385 (by decide) ?_
    refine j_sub [1, 2, 3, 0] rfl ?_
    exact hk18 hf
  · refine j_iconst (pc := 864) dL_law_864 (v := 0) (by decide) ?_
    cases hf
def f_law_c22 (xs : Nat → Int32) (L : Nat) (k18 : Int32 → Hp → Option Unit) (x3 : Int32) (h : Hp) : Option Unit := if ix (x3 + 1) L = true then ((f_X8_alike 0 (xs (Int32.toNatClampNeg (x3 + 1))) h).bind (fun q68 => if ix (x3 + 1) L = true then ((f_X9_alike 108 (xs (Int32.toNatClampNeg (x3 + 1))) q68.2).bind (fun q69 => if q68.1 = q69.1 then (lt (x3 + 5) (fun v70 => k18 v70 q69.2)) else (none))) else none)) else none
set_option maxHeartbeats 4000000 in
set_option maxRecDepth 100000 in
theorem t_law_c22 {l : Launch} {D : va_G} {ad : Nat → Nat} {cA : Nat → ClassId} {b L : Nat} {xs : Nat → Int32} {o : Unit} {k18 : Int32 → Hp → Option Unit} (hk18 : ∀ {x3 : Int32} {h : Hp}, k18 x3 h = some o → J l D ad cA (EL b L xs ad) room_1 (600000, 7302250) (QL b) cL_law RL 4 (some .boolean) 18 [(0, .ref b), (1, .ref (ad 0)), (2, .ref (ad 108)), (3, .int x3)] [] h) {x3 : Int32} {h : Hp} (hf : f_law_c22 xs L k18 x3 h = some o) : J l D ad cA (EL b L xs ad) room_1 (600000, 7302250) (QL b) cL_law RL 4 (some .boolean) 866 [(0, .ref b), (1, .ref (ad 0)), (2, .ref (ad 108)), (3, .int x3)] [] h := by
  unfold f_law_c22 at hf
  refine j_aload_n (pc := 866) 1 dL_law_866 rfl rfl ?_
  refine j_aload_n (pc := 867) 0 dL_law_867 rfl rfl ?_
  refine j_iload_n (pc := 868) 3 dL_law_868 rfl rfl ?_
  refine j_iconst (pc := 869) dL_law_869 (v := 1) (by decide) ?_
  refine j_iadd (pc := 870) dL_law_870  ?_
  refine j_sld (pc := 871) dL_law_871 hf (fun hf => ?_)
  refine j_callLi (pc := 872) (As := [.int (xs (Int32.toNatClampNeg (x3 + 1)))]) (st := []) dL_law_872 s625 (by decide) (by decide) rfl rfl (Nat.le_of_ble_eq_true rfl) (Nat.le_of_ble_eq_true rfl) (fun q hq => t_X8_alike (by decide) (by decide) hq) hf (fun q68 hf => ?_)
  refine j_aload_n (pc := 875) 2 dL_law_875 rfl rfl ?_
  refine j_aload_n (pc := 876) 0 dL_law_876 rfl rfl ?_
  refine j_iload_n (pc := 877) 3 dL_law_877 rfl rfl ?_
  refine j_iconst (pc := 878) dL_law_878 (v := 1) (by decide) ?_
  refine j_iadd (pc := 879) dL_law_879  ?_
  refine j_sld (pc := 880) dL_law_880 hf (fun hf => ?_)
  refine j_callLi (pc := 881) (As := [.int (xs (Int32.toNatClampNeg (x3 + 1)))]) (st := [.int q68.1]) dL_law_881 s1223 (by decide) (by decide) rfl rfl (Nat.le_of_ble_eq_true rfl) (Nat.le_of_ble_eq_true rfl) (fun q hq => t_X9_alike (by decide) (by decide) hq) hf (fun q69 hf => ?_)
  refine j_icmp_eq (pc := 884) (tgt := 1382) dL_law_884 (by decide) hf (fun _ hf => ?_) (fun _ hf => ?_)
  · refine j_iinc (pc := 1382) 3 (c := 5) (lv' := fun v70 => [(3, .int v70), (0, .ref b), (1, .ref (ad 0)), (2, .ref (ad 108))]) dL_law_1382 rfl (by decide) (by decide) (fun _ => rfl) hf (fun v70 hf => ?_)
    refine j_goto (pc := 1385) (tgt := 18) dL_law_1385 (by decide) ?_
    refine j_sub [1, 2, 3, 0] rfl ?_
    exact hk18 hf
  · refine j_iconst (pc := 887) dL_law_887 (v := 0) (by decide) ?_
    cases hf
def f_law_c23 (xs : Nat → Int32) (L : Nat) (k18 : Int32 → Hp → Option Unit) (x3 : Int32) (h : Hp) : Option Unit := if ix (x3 + 1) L = true then (if ix (x3 + 2) L = true then (if ix (x3 + 3) L = true then (if ix (x3 + 4) L = true then ((f_X8_would 0 (xs (Int32.toNatClampNeg (x3 + 1))) (xs (Int32.toNatClampNeg (x3 + 2))) (xs (Int32.toNatClampNeg (x3 + 3))) (xs (Int32.toNatClampNeg (x3 + 4))) h).bind (fun q71 => if ix (x3 + 1) L = true then (if ix (x3 + 2) L = true then (if ix (x3 + 3) L = true then (if ix (x3 + 4) L = true then ((f_X9_would 108 (xs (Int32.toNatClampNeg (x3 + 1))) (xs (Int32.toNatClampNeg (x3 + 2))) (xs (Int32.toNatClampNeg (x3 + 3))) (xs (Int32.toNatClampNeg (x3 + 4))) q71.2).bind (fun q72 => if q71.1 = q72.1 then (lt (x3 + 5) (fun v73 => k18 v73 q72.2)) else (none))) else none) else none) else none) else none)) else none) else none) else none) else none
set_option maxHeartbeats 4000000 in
set_option maxRecDepth 100000 in
theorem t_law_c23 {l : Launch} {D : va_G} {ad : Nat → Nat} {cA : Nat → ClassId} {b L : Nat} {xs : Nat → Int32} {o : Unit} {k18 : Int32 → Hp → Option Unit} (hk18 : ∀ {x3 : Int32} {h : Hp}, k18 x3 h = some o → J l D ad cA (EL b L xs ad) room_1 (600000, 7302250) (QL b) cL_law RL 4 (some .boolean) 18 [(0, .ref b), (1, .ref (ad 0)), (2, .ref (ad 108)), (3, .int x3)] [] h) {x3 : Int32} {h : Hp} (hf : f_law_c23 xs L k18 x3 h = some o) : J l D ad cA (EL b L xs ad) room_1 (600000, 7302250) (QL b) cL_law RL 4 (some .boolean) 889 [(0, .ref b), (1, .ref (ad 0)), (2, .ref (ad 108)), (3, .int x3)] [] h := by
  unfold f_law_c23 at hf
  refine j_aload_n (pc := 889) 1 dL_law_889 rfl rfl ?_
  refine j_aload_n (pc := 890) 0 dL_law_890 rfl rfl ?_
  refine j_iload_n (pc := 891) 3 dL_law_891 rfl rfl ?_
  refine j_iconst (pc := 892) dL_law_892 (v := 1) (by decide) ?_
  refine j_iadd (pc := 893) dL_law_893  ?_
  refine j_sld (pc := 894) dL_law_894 hf (fun hf => ?_)
  refine j_aload_n (pc := 895) 0 dL_law_895 rfl rfl ?_
  refine j_iload_n (pc := 896) 3 dL_law_896 rfl rfl ?_
  refine j_iconst (pc := 897) dL_law_897 (v := 2) (by decide) ?_
  refine j_iadd (pc := 898) dL_law_898  ?_
  refine j_sld (pc := 899) dL_law_899 hf (fun hf => ?_)
  refine j_aload_n (pc := 900) 0 dL_law_900 rfl rfl ?_
  refine j_iload_n (pc := 901) 3 dL_law_901 rfl rfl ?_
  refine j_iconst (pc := 902) dL_law_902 (v := 3) (by decide) ?_
  refine j_iadd (pc := 903) dL_law_903  ?_
  refine j_sld (pc := 904) dL_law_904 hf (fun hf => ?_)
  refine j_aload_n (pc := 905) 0 dL_law_905 rfl rfl ?_
  refine j_iload_n (pc := 906) 3 dL_law_906 rfl rfl ?_
  refine j_iconst (pc := 907) dL_law_907 (v := 4) (by decide) ?_
  refine j_iadd (pc := 908) dL_law_908  ?_
  refine j_sld (pc := 909) dL_law_909 hf (fun hf => ?_)
  refine j_callLi (pc := 910) (As := [.int (xs (Int32.toNatClampNeg (x3 + 1))), .int (xs (Int32.toNatClampNeg (x3 + 2))), .int (xs (Int32.toNatClampNeg (x3 + 3))), .int (xs (Int32.toNatClampNeg (x3 + 4)))]) (st := []) dL_law_910 s629 (by decide) (by decide) rfl rfl (Nat.le_of_ble_eq_true rfl) (Nat.le_of_ble_eq_true rfl) (fun q hq => t_X8_would (by decide) (by decide) hq) hf (fun q71 hf => ?_)
  refine j_aload_n (pc := 913) 2 dL_law_913 rfl rfl ?_
  refine j_aload_n (pc := 914) 0 dL_law_914 rfl rfl ?_
  refine j_iload_n (pc := 915) 3 dL_law_915 rfl rfl ?_
  refine j_iconst (pc := 916) dL_law_916 (v := 1) (by decide) ?_
  refine j_iadd (pc := 917) dL_law_917  ?_
  refine j_sld (pc := 918) dL_law_918 hf (fun hf => ?_)
  refine j_aload_n (pc := 919) 0 dL_law_919 rfl rfl ?_
  refine j_iload_n (pc := 920) 3 dL_law_920 rfl rfl ?_
  refine j_iconst (pc := 921) dL_law_921 (v := 2) (by decide) ?_
  refine j_iadd (pc := 922) dL_law_922  ?_
  refine j_sld (pc := 923) dL_law_923 hf (fun hf => ?_)
  refine j_aload_n (pc := 924) 0 dL_law_924 rfl rfl ?_
  refine j_iload_n (pc := 925) 3 dL_law_925 rfl rfl ?_
  refine j_iconst (pc := 926) dL_law_926 (v := 3) (by decide) ?_
  refine j_iadd (pc := 927) dL_law_927  ?_
  refine j_sld (pc := 928) dL_law_928 hf (fun hf => ?_)
  refine j_aload_n (pc := 929) 0 dL_law_929 rfl rfl ?_
  refine j_iload_n (pc := 930) 3 dL_law_930 rfl rfl ?_
  refine j_iconst (pc := 931) dL_law_931 (v := 4) (by decide) ?_
  refine j_iadd (pc := 932) dL_law_932  ?_
  refine j_sld (pc := 933) dL_law_933 hf (fun hf => ?_)
  refine j_callLi (pc := 934) (As := [.int (xs (Int32.toNatClampNeg (x3 + 1))), .int (xs (Int32.toNatClampNeg (x3 + 2))), .int (xs (Int32.toNatClampNeg (x3 + 3))), .int (xs (Int32.toNatClampNeg (x3 + 4)))]) (st := [.int q71.1]) dL_law_934 s1227 (by decide) (by decide) rfl rfl (Nat.le_of_ble_eq_true rfl) (Nat.le_of_ble_eq_true rfl) (fun q hq => t_X9_would (by decide) (by decide) hq) hf (fun q72 hf => ?_)
  refine j_icmp_eq (pc := 937) (tgt := 1382) dL_law_937 (by decide) hf (fun _ hf => ?_) (fun _ hf => ?_)
  · refine j_iinc (pc := 1382) 3 (c := 5) (lv' := fun v73 => [(3, .int v73), (0, .ref b), (1, .ref (ad 0)), (2, .ref (ad 108))]) dL_law_1382 rfl (by decide) (by decide) (fun _ => rfl) hf (fun v73 hf => ?_)
    refine j_goto (pc := 1385) (tgt := 18) dL_law_1385 (by decide) ?_
    refine j_sub [1, 2, 3, 0] rfl ?_
    exact hk18 hf
  · refine j_iconst (pc := 940) dL_law_940 (v := 0) (by decide) ?_
    cases hf
def f_law_c24 (xs : Nat → Int32) (L : Nat) (k18 : Int32 → Hp → Option Unit) (x3 : Int32) (h : Hp) : Option Unit := if ix (x3 + 1) L = true then (if ix (x3 + 2) L = true then (if ix (x3 + 3) L = true then ((f_X8_needs 0 (xs (Int32.toNatClampNeg (x3 + 1))) (xs (Int32.toNatClampNeg (x3 + 2))) (xs (Int32.toNatClampNeg (x3 + 3))) h).bind (fun q74 => if ix (x3 + 1) L = true then (if ix (x3 + 2) L = true then (if ix (x3 + 3) L = true then ((f_X9_needs 108 (xs (Int32.toNatClampNeg (x3 + 1))) (xs (Int32.toNatClampNeg (x3 + 2))) (xs (Int32.toNatClampNeg (x3 + 3))) q74.2).bind (fun q75 => if q74.1 = q75.1 then (lt (x3 + 5) (fun v76 => k18 v76 q75.2)) else (none))) else none) else none) else none)) else none) else none) else none
set_option maxHeartbeats 4000000 in
set_option maxRecDepth 100000 in
theorem t_law_c24 {l : Launch} {D : va_G} {ad : Nat → Nat} {cA : Nat → ClassId} {b L : Nat} {xs : Nat → Int32} {o : Unit} {k18 : Int32 → Hp → Option Unit} (hk18 : ∀ {x3 : Int32} {h : Hp}, k18 x3 h = some o → J l D ad cA (EL b L xs ad) room_1 (600000, 7302250) (QL b) cL_law RL 4 (some .boolean) 18 [(0, .ref b), (1, .ref (ad 0)), (2, .ref (ad 108)), (3, .int x3)] [] h) {x3 : Int32} {h : Hp} (hf : f_law_c24 xs L k18 x3 h = some o) : J l D ad cA (EL b L xs ad) room_1 (600000, 7302250) (QL b) cL_law RL 4 (some .boolean) 942 [(0, .ref b), (1, .ref (ad 0)), (2, .ref (ad 108)), (3, .int x3)] [] h := by
  unfold f_law_c24 at hf
  refine j_aload_n (pc := 942) 1 dL_law_942 rfl rfl ?_
  refine j_aload_n (pc := 943) 0 dL_law_943 rfl rfl ?_
  refine j_iload_n (pc := 944) 3 dL_law_944 rfl rfl ?_
  refine j_iconst (pc := 945) dL_law_945 (v := 1) (by decide) ?_
  refine j_iadd (pc := 946) dL_law_946  ?_
  refine j_sld (pc := 947) dL_law_947 hf (fun hf => ?_)
  refine j_aload_n (pc := 948) 0 dL_law_948 rfl rfl ?_
  refine j_iload_n (pc := 949) 3 dL_law_949 rfl rfl ?_
  refine j_iconst (pc := 950) dL_law_950 (v := 2) (by decide) ?_
  refine j_iadd (pc := 951) dL_law_951  ?_
  refine j_sld (pc := 952) dL_law_952 hf (fun hf => ?_)
  refine j_aload_n (pc := 953) 0 dL_law_953 rfl rfl ?_
  refine j_iload_n (pc := 954) 3 dL_law_954 rfl rfl ?_
  refine j_iconst (pc := 955) dL_law_955 (v := 3) (by decide) ?_
  refine j_iadd (pc := 956) dL_law_956  ?_
  refine j_sld (pc := 957) dL_law_957 hf (fun hf => ?_)
  refine j_callLi (pc := 958) (As := [.int (xs (Int32.toNatClampNeg (x3 + 1))), .int (xs (Int32.toNatClampNeg (x3 + 2))), .int (xs (Int32.toNatClampNeg (x3 + 3)))]) (st := []) dL_law_958 s633 (by decide) (by decide) rfl rfl (Nat.le_of_ble_eq_true rfl) (Nat.le_of_ble_eq_true rfl) (fun q hq => t_X8_needs (by decide) (by decide) hq) hf (fun q74 hf => ?_)
  refine j_aload_n (pc := 961) 2 dL_law_961 rfl rfl ?_
  refine j_aload_n (pc := 962) 0 dL_law_962 rfl rfl ?_
  refine j_iload_n (pc := 963) 3 dL_law_963 rfl rfl ?_
  refine j_iconst (pc := 964) dL_law_964 (v := 1) (by decide) ?_
  refine j_iadd (pc := 965) dL_law_965  ?_
  refine j_sld (pc := 966) dL_law_966 hf (fun hf => ?_)
  refine j_aload_n (pc := 967) 0 dL_law_967 rfl rfl ?_
  refine j_iload_n (pc := 968) 3 dL_law_968 rfl rfl ?_
  refine j_iconst (pc := 969) dL_law_969 (v := 2) (by decide) ?_
  refine j_iadd (pc := 970) dL_law_970  ?_
  refine j_sld (pc := 971) dL_law_971 hf (fun hf => ?_)
  refine j_aload_n (pc := 972) 0 dL_law_972 rfl rfl ?_
  refine j_iload_n (pc := 973) 3 dL_law_973 rfl rfl ?_
  refine j_iconst (pc := 974) dL_law_974 (v := 3) (by decide) ?_
  refine j_iadd (pc := 975) dL_law_975  ?_
  refine j_sld (pc := 976) dL_law_976 hf (fun hf => ?_)
  refine j_callLi (pc := 977) (As := [.int (xs (Int32.toNatClampNeg (x3 + 1))), .int (xs (Int32.toNatClampNeg (x3 + 2))), .int (xs (Int32.toNatClampNeg (x3 + 3)))]) (st := [.int q74.1]) dL_law_977 s1235 (by decide) (by decide) rfl rfl (Nat.le_of_ble_eq_true rfl) (Nat.le_of_ble_eq_true rfl) (fun q hq => t_X9_needs (by decide) (by decide) hq) hf (fun q75 hf => ?_)
  refine j_icmp_eq (pc := 980) (tgt := 1382) dL_law_980 (by decide) hf (fun _ hf => ?_) (fun _ hf => ?_)
  · refine j_iinc (pc := 1382) 3 (c := 5) (lv' := fun v76 => [(3, .int v76), (0, .ref b), (1, .ref (ad 0)), (2, .ref (ad 108))]) dL_law_1382 rfl (by decide) (by decide) (fun _ => rfl) hf (fun v76 hf => ?_)
    refine j_goto (pc := 1385) (tgt := 18) dL_law_1385 (by decide) ?_
    refine j_sub [1, 2, 3, 0] rfl ?_
    exact hk18 hf
  · refine j_iconst (pc := 983) dL_law_983 (v := 0) (by decide) ?_
    cases hf
def f_law_c25 (xs : Nat → Int32) (L : Nat) (k18 : Int32 → Hp → Option Unit) (x3 : Int32) (h : Hp) : Option Unit := if ix (x3 + 1) L = true then ((f_X8_spell 0 (xs (Int32.toNatClampNeg (x3 + 1))) h).bind (fun q77 => if ix (x3 + 1) L = true then ((f_X9_spell 108 (xs (Int32.toNatClampNeg (x3 + 1))) q77.2).bind (fun q78 => if q77.1 = q78.1 then (lt (x3 + 5) (fun v79 => k18 v79 q78.2)) else (none))) else none)) else none
set_option maxHeartbeats 4000000 in
set_option maxRecDepth 100000 in
theorem t_law_c25 {l : Launch} {D : va_G} {ad : Nat → Nat} {cA : Nat → ClassId} {b L : Nat} {xs : Nat → Int32} {o : Unit} {k18 : Int32 → Hp → Option Unit} (hk18 : ∀ {x3 : Int32} {h : Hp}, k18 x3 h = some o → J l D ad cA (EL b L xs ad) room_1 (600000, 7302250) (QL b) cL_law RL 4 (some .boolean) 18 [(0, .ref b), (1, .ref (ad 0)), (2, .ref (ad 108)), (3, .int x3)] [] h) {x3 : Int32} {h : Hp} (hf : f_law_c25 xs L k18 x3 h = some o) : J l D ad cA (EL b L xs ad) room_1 (600000, 7302250) (QL b) cL_law RL 4 (some .boolean) 985 [(0, .ref b), (1, .ref (ad 0)), (2, .ref (ad 108)), (3, .int x3)] [] h := by
  unfold f_law_c25 at hf
  refine j_aload_n (pc := 985) 1 dL_law_985 rfl rfl ?_
  refine j_aload_n (pc := 986) 0 dL_law_986 rfl rfl ?_
  refine j_iload_n (pc := 987) 3 dL_law_987 rfl rfl ?_
  refine j_iconst (pc := 988) dL_law_988 (v := 1) (by decide) ?_
  refine j_iadd (pc := 989) dL_law_989  ?_
  refine j_sld (pc := 990) dL_law_990 hf (fun hf => ?_)
  refine j_callLi (pc := 991) (As := [.int (xs (Int32.toNatClampNeg (x3 + 1)))]) (st := []) dL_law_991 s637 (by decide) (by decide) rfl rfl (Nat.le_of_ble_eq_true rfl) (Nat.le_of_ble_eq_true rfl) (fun q hq => t_X8_spell (by decide) (by decide) hq) hf (fun q77 hf => ?_)
  refine j_aload_n (pc := 994) 2 dL_law_994 rfl rfl ?_
  refine j_aload_n (pc := 995) 0 dL_law_995 rfl rfl ?_
  refine j_iload_n (pc := 996) 3 dL_law_996 rfl rfl ?_
  refine j_iconst (pc := 997) dL_law_997 (v := 1) (by decide) ?_
  refine j_iadd (pc := 998) dL_law_998  ?_
  refine j_sld (pc := 999) dL_law_999 hf (fun hf => ?_)
  refine j_callLi (pc := 1000) (As := [.int (xs (Int32.toNatClampNeg (x3 + 1)))]) (st := [.int q77.1]) dL_law_1000 s1239 (by decide) (by decide) rfl rfl (Nat.le_of_ble_eq_true rfl) (Nat.le_of_ble_eq_true rfl) (fun q hq => t_X9_spell (by decide) (by decide) hq) hf (fun q78 hf => ?_)
  refine j_icmp_eq (pc := 1003) (tgt := 1382) dL_law_1003 (by decide) hf (fun _ hf => ?_) (fun _ hf => ?_)
  · refine j_iinc (pc := 1382) 3 (c := 5) (lv' := fun v79 => [(3, .int v79), (0, .ref b), (1, .ref (ad 0)), (2, .ref (ad 108))]) dL_law_1382 rfl (by decide) (by decide) (fun _ => rfl) hf (fun v79 hf => ?_)
    refine j_goto (pc := 1385) (tgt := 18) dL_law_1385 (by decide) ?_
    refine j_sub [1, 2, 3, 0] rfl ?_
    exact hk18 hf
  · refine j_iconst (pc := 1006) dL_law_1006 (v := 0) (by decide) ?_
    cases hf
def f_law_c26 (xs : Nat → Int32) (L : Nat) (k18 : Int32 → Hp → Option Unit) (x3 : Int32) (h : Hp) : Option Unit := if ix (x3 + 1) L = true then ((f_X8_paper 0 (xs (Int32.toNatClampNeg (x3 + 1))) h).bind (fun q80 => if ix (x3 + 1) L = true then ((f_X9_paper 108 (xs (Int32.toNatClampNeg (x3 + 1))) q80.2).bind (fun q81 => if q80.1 = q81.1 then (lt (x3 + 5) (fun v82 => k18 v82 q81.2)) else (none))) else none)) else none
set_option maxHeartbeats 4000000 in
set_option maxRecDepth 100000 in
theorem t_law_c26 {l : Launch} {D : va_G} {ad : Nat → Nat} {cA : Nat → ClassId} {b L : Nat} {xs : Nat → Int32} {o : Unit} {k18 : Int32 → Hp → Option Unit} (hk18 : ∀ {x3 : Int32} {h : Hp}, k18 x3 h = some o → J l D ad cA (EL b L xs ad) room_1 (600000, 7302250) (QL b) cL_law RL 4 (some .boolean) 18 [(0, .ref b), (1, .ref (ad 0)), (2, .ref (ad 108)), (3, .int x3)] [] h) {x3 : Int32} {h : Hp} (hf : f_law_c26 xs L k18 x3 h = some o) : J l D ad cA (EL b L xs ad) room_1 (600000, 7302250) (QL b) cL_law RL 4 (some .boolean) 1008 [(0, .ref b), (1, .ref (ad 0)), (2, .ref (ad 108)), (3, .int x3)] [] h := by
  unfold f_law_c26 at hf
  refine j_aload_n (pc := 1008) 1 dL_law_1008 rfl rfl ?_
  refine j_aload_n (pc := 1009) 0 dL_law_1009 rfl rfl ?_
  refine j_iload_n (pc := 1010) 3 dL_law_1010 rfl rfl ?_
  refine j_iconst (pc := 1011) dL_law_1011 (v := 1) (by decide) ?_
  refine j_iadd (pc := 1012) dL_law_1012  ?_
  refine j_sld (pc := 1013) dL_law_1013 hf (fun hf => ?_)
  refine j_callLi (pc := 1014) (As := [.int (xs (Int32.toNatClampNeg (x3 + 1)))]) (st := []) dL_law_1014 s649 (by decide) (by decide) rfl rfl (Nat.le_of_ble_eq_true rfl) (Nat.le_of_ble_eq_true rfl) (fun q hq => t_X8_paper (by decide) hq) hf (fun q80 hf => ?_)
  refine j_aload_n (pc := 1017) 2 dL_law_1017 rfl rfl ?_
  refine j_aload_n (pc := 1018) 0 dL_law_1018 rfl rfl ?_
  refine j_iload_n (pc := 1019) 3 dL_law_1019 rfl rfl ?_
  refine j_iconst (pc := 1020) dL_law_1020 (v := 1) (by decide) ?_
  refine j_iadd (pc := 1021) dL_law_1021  ?_
  refine j_sld (pc := 1022) dL_law_1022 hf (fun hf => ?_)
  refine j_callLi (pc := 1023) (As := [.int (xs (Int32.toNatClampNeg (x3 + 1)))]) (st := [.int q80.1]) dL_law_1023 s1251 (by decide) (by decide) rfl rfl (Nat.le_of_ble_eq_true rfl) (Nat.le_of_ble_eq_true rfl) (fun q hq => t_X9_paper (by decide) (by decide) hq) hf (fun q81 hf => ?_)
  refine j_icmp_eq (pc := 1026) (tgt := 1382) dL_law_1026 (by decide) hf (fun _ hf => ?_) (fun _ hf => ?_)
  · refine j_iinc (pc := 1382) 3 (c := 5) (lv' := fun v82 => [(3, .int v82), (0, .ref b), (1, .ref (ad 0)), (2, .ref (ad 108))]) dL_law_1382 rfl (by decide) (by decide) (fun _ => rfl) hf (fun v82 hf => ?_)
    refine j_goto (pc := 1385) (tgt := 18) dL_law_1385 (by decide) ?_
    refine j_sub [1, 2, 3, 0] rfl ?_
    exact hk18 hf
  · refine j_iconst (pc := 1029) dL_law_1029 (v := 0) (by decide) ?_
    cases hf
def f_law_c27 (xs : Nat → Int32) (L : Nat) (k18 : Int32 → Hp → Option Unit) (x3 : Int32) (h : Hp) : Option Unit := (f_X8_solve 0  h).bind (fun q83 => (f_X9_solve 108  q83.2).bind (fun q84 => if q83.1 = q84.1 then (lt (x3 + 5) (fun v85 => k18 v85 q84.2)) else (none)))
set_option maxHeartbeats 4000000 in
set_option maxRecDepth 100000 in
theorem t_law_c27 {l : Launch} {D : va_G} {ad : Nat → Nat} {cA : Nat → ClassId} {b L : Nat} {xs : Nat → Int32} {o : Unit} {k18 : Int32 → Hp → Option Unit} (hk18 : ∀ {x3 : Int32} {h : Hp}, k18 x3 h = some o → J l D ad cA (EL b L xs ad) room_1 (600000, 7302250) (QL b) cL_law RL 4 (some .boolean) 18 [(0, .ref b), (1, .ref (ad 0)), (2, .ref (ad 108)), (3, .int x3)] [] h) {x3 : Int32} {h : Hp} (hf : f_law_c27 xs L k18 x3 h = some o) : J l D ad cA (EL b L xs ad) room_1 (600000, 7302250) (QL b) cL_law RL 4 (some .boolean) 1031 [(0, .ref b), (1, .ref (ad 0)), (2, .ref (ad 108)), (3, .int x3)] [] h := by
  unfold f_law_c27 at hf
  refine j_aload_n (pc := 1031) 1 dL_law_1031 rfl rfl ?_
  refine j_callLi (pc := 1032) (As := []) (st := []) dL_law_1032 s653 (by decide) (by decide) rfl rfl (Nat.le_of_ble_eq_true rfl) (Nat.le_of_ble_eq_true rfl) (fun q hq => t_X8_solve (by decide) (by decide) hq) hf (fun q83 hf => ?_)
  refine j_aload_n (pc := 1035) 2 dL_law_1035 rfl rfl ?_
  refine j_callLi (pc := 1036) (As := []) (st := [.int q83.1]) dL_law_1036 s1255 (by decide) (by decide) rfl rfl (Nat.le_of_ble_eq_true rfl) (Nat.le_of_ble_eq_true rfl) (fun q hq => t_X9_solve (by decide) (by decide) hq) hf (fun q84 hf => ?_)
  refine j_icmp_eq (pc := 1039) (tgt := 1382) dL_law_1039 (by decide) hf (fun _ hf => ?_) (fun _ hf => ?_)
  · refine j_iinc (pc := 1382) 3 (c := 5) (lv' := fun v85 => [(3, .int v85), (0, .ref b), (1, .ref (ad 0)), (2, .ref (ad 108))]) dL_law_1382 rfl (by decide) (by decide) (fun _ => rfl) hf (fun v85 hf => ?_)
    refine j_goto (pc := 1385) (tgt := 18) dL_law_1385 (by decide) ?_
    refine j_sub [1, 2, 3, 0] rfl ?_
    exact hk18 hf
  · refine j_iconst (pc := 1042) dL_law_1042 (v := 0) (by decide) ?_
    cases hf
def f_law_c28 (xs : Nat → Int32) (L : Nat) (k18 : Int32 → Hp → Option Unit) (x3 : Int32) (h : Hp) : Option Unit := if ix (x3 + 1) L = true then (if ix (x3 + 2) L = true then ((f_X8_cell 0 (xs (Int32.toNatClampNeg (x3 + 1))) (xs (Int32.toNatClampNeg (x3 + 2))) h).bind (fun q86 => if ix (x3 + 1) L = true then (if ix (x3 + 2) L = true then ((f_X9_cell 108 (xs (Int32.toNatClampNeg (x3 + 1))) (xs (Int32.toNatClampNeg (x3 + 2))) q86.2).bind (fun q87 => if q86.1 = q87.1 then (lt (x3 + 5) (fun v88 => k18 v88 q87.2)) else (none))) else none) else none)) else none) else none
set_option maxHeartbeats 4000000 in
set_option maxRecDepth 100000 in
theorem t_law_c28 {l : Launch} {D : va_G} {ad : Nat → Nat} {cA : Nat → ClassId} {b L : Nat} {xs : Nat → Int32} {o : Unit} {k18 : Int32 → Hp → Option Unit} (hk18 : ∀ {x3 : Int32} {h : Hp}, k18 x3 h = some o → J l D ad cA (EL b L xs ad) room_1 (600000, 7302250) (QL b) cL_law RL 4 (some .boolean) 18 [(0, .ref b), (1, .ref (ad 0)), (2, .ref (ad 108)), (3, .int x3)] [] h) {x3 : Int32} {h : Hp} (hf : f_law_c28 xs L k18 x3 h = some o) : J l D ad cA (EL b L xs ad) room_1 (600000, 7302250) (QL b) cL_law RL 4 (some .boolean) 1044 [(0, .ref b), (1, .ref (ad 0)), (2, .ref (ad 108)), (3, .int x3)] [] h := by
  unfold f_law_c28 at hf
  refine j_aload_n (pc := 1044) 1 dL_law_1044 rfl rfl ?_
  refine j_aload_n (pc := 1045) 0 dL_law_1045 rfl rfl ?_
  refine j_iload_n (pc := 1046) 3 dL_law_1046 rfl rfl ?_
  refine j_iconst (pc := 1047) dL_law_1047 (v := 1) (by decide) ?_
  refine j_iadd (pc := 1048) dL_law_1048  ?_
  refine j_sld (pc := 1049) dL_law_1049 hf (fun hf => ?_)
  refine j_aload_n (pc := 1050) 0 dL_law_1050 rfl rfl ?_
  refine j_iload_n (pc := 1051) 3 dL_law_1051 rfl rfl ?_
  refine j_iconst (pc := 1052) dL_law_1052 (v := 2) (by decide) ?_
  refine j_iadd (pc := 1053) dL_law_1053  ?_
  refine j_sld (pc := 1054) dL_law_1054 hf (fun hf => ?_)
  refine j_callLi (pc := 1055) (As := [.int (xs (Int32.toNatClampNeg (x3 + 1))), .int (xs (Int32.toNatClampNeg (x3 + 2)))]) (st := []) dL_law_1055 s730 (by decide) (by decide) rfl rfl (Nat.le_of_ble_eq_true rfl) (Nat.le_of_ble_eq_true rfl) (fun q hq => t_X8_cell (by decide) (by decide) hq) hf (fun q86 hf => ?_)
  refine j_aload_n (pc := 1058) 2 dL_law_1058 rfl rfl ?_
  refine j_aload_n (pc := 1059) 0 dL_law_1059 rfl rfl ?_
  refine j_iload_n (pc := 1060) 3 dL_law_1060 rfl rfl ?_
  refine j_iconst (pc := 1061) dL_law_1061 (v := 1) (by decide) ?_
  refine j_iadd (pc := 1062) dL_law_1062  ?_
  refine j_sld (pc := 1063) dL_law_1063 hf (fun hf => ?_)
  refine j_aload_n (pc := 1064) 0 dL_law_1064 rfl rfl ?_
  refine j_iload_n (pc := 1065) 3 dL_law_1065 rfl rfl ?_
  refine j_iconst (pc := 1066) dL_law_1066 (v := 2) (by decide) ?_
  refine j_iadd (pc := 1067) dL_law_1067  ?_
  refine j_sld (pc := 1068) dL_law_1068 hf (fun hf => ?_)
  refine j_callLi (pc := 1069) (As := [.int (xs (Int32.toNatClampNeg (x3 + 1))), .int (xs (Int32.toNatClampNeg (x3 + 2)))]) (st := [.int q86.1]) dL_law_1069 s1325 (by decide) (by decide) rfl rfl (Nat.le_of_ble_eq_true rfl) (Nat.le_of_ble_eq_true rfl) (fun q hq => t_X9_cell (by decide) (by decide) hq) hf (fun q87 hf => ?_)
  refine j_icmp_eq (pc := 1072) (tgt := 1382) dL_law_1072 (by decide) hf (fun _ hf => ?_) (fun _ hf => ?_)
  · refine j_iinc (pc := 1382) 3 (c := 5) (lv' := fun v88 => [(3, .int v88), (0, .ref b), (1, .ref (ad 0)), (2, .ref (ad 108))]) dL_law_1382 rfl (by decide) (by decide) (fun _ => rfl) hf (fun v88 hf => ?_)
    refine j_goto (pc := 1385) (tgt := 18) dL_law_1385 (by decide) ?_
    refine j_sub [1, 2, 3, 0] rfl ?_
    exact hk18 hf
  · refine j_iconst (pc := 1075) dL_law_1075 (v := 0) (by decide) ?_
    cases hf
def f_law_c29 (xs : Nat → Int32) (L : Nat) (k18 : Int32 → Hp → Option Unit) (x3 : Int32) (h : Hp) : Option Unit := if ix (x3 + 1) L = true then (if ix (x3 + 2) L = true then (if ix (x3 + 3) L = true then ((f_X8_bound 0 (xs (Int32.toNatClampNeg (x3 + 1))) (xs (Int32.toNatClampNeg (x3 + 2))) (xs (Int32.toNatClampNeg (x3 + 3))) h).bind (fun q89 => if ix (x3 + 1) L = true then (if ix (x3 + 2) L = true then (if ix (x3 + 3) L = true then ((f_X9_bound 108 (xs (Int32.toNatClampNeg (x3 + 1))) (xs (Int32.toNatClampNeg (x3 + 2))) (xs (Int32.toNatClampNeg (x3 + 3))) q89.2).bind (fun q90 => if (lg_cmp q89.1 q90.1) = 0 then (lt (x3 + 5) (fun v91 => k18 v91 q90.2)) else (none))) else none) else none) else none)) else none) else none) else none
set_option maxHeartbeats 4000000 in
set_option maxRecDepth 100000 in
theorem t_law_c29 {l : Launch} {D : va_G} {ad : Nat → Nat} {cA : Nat → ClassId} {b L : Nat} {xs : Nat → Int32} {o : Unit} {k18 : Int32 → Hp → Option Unit} (hk18 : ∀ {x3 : Int32} {h : Hp}, k18 x3 h = some o → J l D ad cA (EL b L xs ad) room_1 (600000, 7302250) (QL b) cL_law RL 4 (some .boolean) 18 [(0, .ref b), (1, .ref (ad 0)), (2, .ref (ad 108)), (3, .int x3)] [] h) {x3 : Int32} {h : Hp} (hf : f_law_c29 xs L k18 x3 h = some o) : J l D ad cA (EL b L xs ad) room_1 (600000, 7302250) (QL b) cL_law RL 4 (some .boolean) 1077 [(0, .ref b), (1, .ref (ad 0)), (2, .ref (ad 108)), (3, .int x3)] [] h := by
  unfold f_law_c29 at hf
  refine j_aload_n (pc := 1077) 1 dL_law_1077 rfl rfl ?_
  refine j_aload_n (pc := 1078) 0 dL_law_1078 rfl rfl ?_
  refine j_iload_n (pc := 1079) 3 dL_law_1079 rfl rfl ?_
  refine j_iconst (pc := 1080) dL_law_1080 (v := 1) (by decide) ?_
  refine j_iadd (pc := 1081) dL_law_1081  ?_
  refine j_sld (pc := 1082) dL_law_1082 hf (fun hf => ?_)
  refine j_aload_n (pc := 1083) 0 dL_law_1083 rfl rfl ?_
  refine j_iload_n (pc := 1084) 3 dL_law_1084 rfl rfl ?_
  refine j_iconst (pc := 1085) dL_law_1085 (v := 2) (by decide) ?_
  refine j_iadd (pc := 1086) dL_law_1086  ?_
  refine j_sld (pc := 1087) dL_law_1087 hf (fun hf => ?_)
  refine j_aload_n (pc := 1088) 0 dL_law_1088 rfl rfl ?_
  refine j_iload_n (pc := 1089) 3 dL_law_1089 rfl rfl ?_
  refine j_iconst (pc := 1090) dL_law_1090 (v := 3) (by decide) ?_
  refine j_iadd (pc := 1091) dL_law_1091  ?_
  refine j_sld (pc := 1092) dL_law_1092 hf (fun hf => ?_)
  refine j_callLl (pc := 1093) (As := [.int (xs (Int32.toNatClampNeg (x3 + 1))), .int (xs (Int32.toNatClampNeg (x3 + 2))), .int (xs (Int32.toNatClampNeg (x3 + 3)))]) (st := []) dL_law_1093 s734 (by decide) (by decide) rfl rfl (Nat.le_of_ble_eq_true rfl) (Nat.le_of_ble_eq_true rfl) (fun q hq => t_X8_bound (by decide) (by decide) hq) hf (fun q89 hf => ?_)
  refine j_aload_n (pc := 1096) 2 dL_law_1096 rfl rfl ?_
  refine j_aload_n (pc := 1097) 0 dL_law_1097 rfl rfl ?_
  refine j_iload_n (pc := 1098) 3 dL_law_1098 rfl rfl ?_
  refine j_iconst (pc := 1099) dL_law_1099 (v := 1) (by decide) ?_
  refine j_iadd (pc := 1100) dL_law_1100  ?_
  refine j_sld (pc := 1101) dL_law_1101 hf (fun hf => ?_)
  refine j_aload_n (pc := 1102) 0 dL_law_1102 rfl rfl ?_
  refine j_iload_n (pc := 1103) 3 dL_law_1103 rfl rfl ?_
  refine j_iconst (pc := 1104) dL_law_1104 (v := 2) (by decide) ?_
  refine j_iadd (pc := 1105) dL_law_1105  ?_
  refine j_sld (pc := 1106) dL_law_1106 hf (fun hf => ?_)
  refine j_aload_n (pc := 1107) 0 dL_law_1107 rfl rfl ?_
  refine j_iload_n (pc := 1108) 3 dL_law_1108 rfl rfl ?_
  refine j_iconst (pc := 1109) dL_law_1109 (v := 3) (by decide) ?_
  refine j_iadd (pc := 1110) dL_law_1110  ?_
  refine j_sld (pc := 1111) dL_law_1111 hf (fun hf => ?_)
  refine j_callLl (pc := 1112) (As := [.int (xs (Int32.toNatClampNeg (x3 + 1))), .int (xs (Int32.toNatClampNeg (x3 + 2))), .int (xs (Int32.toNatClampNeg (x3 + 3)))]) (st := [.long q89.1]) dL_law_1112 s1329 (by decide) (by decide) rfl rfl (Nat.le_of_ble_eq_true rfl) (Nat.le_of_ble_eq_true rfl) (fun q hq => t_X9_bound (by decide) (by decide) hq) hf (fun q90 hf => ?_)
  refine j_lcmp (pc := 1115) dL_law_1115  ?_
  refine j_if_eq (pc := 1116) (tgt := 1382) dL_law_1116 (by decide) hf (fun _ hf => ?_) (fun _ hf => ?_)
  · refine j_iinc (pc := 1382) 3 (c := 5) (lv' := fun v91 => [(3, .int v91), (0, .ref b), (1, .ref (ad 0)), (2, .ref (ad 108))]) dL_law_1382 rfl (by decide) (by decide) (fun _ => rfl) hf (fun v91 hf => ?_)
    refine j_goto (pc := 1385) (tgt := 18) dL_law_1385 (by decide) ?_
    refine j_sub [1, 2, 3, 0] rfl ?_
    exact hk18 hf
  · refine j_iconst (pc := 1119) dL_law_1119 (v := 0) (by decide) ?_
    cases hf
def f_law_c30 (xs : Nat → Int32) (L : Nat) (k18 : Int32 → Hp → Option Unit) (x3 : Int32) (h : Hp) : Option Unit := if ix (x3 + 1) L = true then (if ix (x3 + 2) L = true then (if ix (x3 + 3) L = true then ((f_X8_judge 0 (xs (Int32.toNatClampNeg (x3 + 1))) (xs (Int32.toNatClampNeg (x3 + 2))) (xs (Int32.toNatClampNeg (x3 + 3))) h).bind (fun q92 => if ix (x3 + 1) L = true then (if ix (x3 + 2) L = true then (if ix (x3 + 3) L = true then ((f_X9_judge 108 (xs (Int32.toNatClampNeg (x3 + 1))) (xs (Int32.toNatClampNeg (x3 + 2))) (xs (Int32.toNatClampNeg (x3 + 3))) q92.2).bind (fun q93 => if q92.1 = q93.1 then (lt (x3 + 5) (fun v94 => k18 v94 q93.2)) else (none))) else none) else none) else none)) else none) else none) else none
set_option maxHeartbeats 4000000 in
set_option maxRecDepth 100000 in
theorem t_law_c30 {l : Launch} {D : va_G} {ad : Nat → Nat} {cA : Nat → ClassId} {b L : Nat} {xs : Nat → Int32} {o : Unit} {k18 : Int32 → Hp → Option Unit} (hk18 : ∀ {x3 : Int32} {h : Hp}, k18 x3 h = some o → J l D ad cA (EL b L xs ad) room_1 (600000, 7302250) (QL b) cL_law RL 4 (some .boolean) 18 [(0, .ref b), (1, .ref (ad 0)), (2, .ref (ad 108)), (3, .int x3)] [] h) {x3 : Int32} {h : Hp} (hf : f_law_c30 xs L k18 x3 h = some o) : J l D ad cA (EL b L xs ad) room_1 (600000, 7302250) (QL b) cL_law RL 4 (some .boolean) 1121 [(0, .ref b), (1, .ref (ad 0)), (2, .ref (ad 108)), (3, .int x3)] [] h := by
  unfold f_law_c30 at hf
  refine j_aload_n (pc := 1121) 1 dL_law_1121 rfl rfl ?_
  refine j_aload_n (pc := 1122) 0 dL_law_1122 rfl rfl ?_
  refine j_iload_n (pc := 1123) 3 dL_law_1123 rfl rfl ?_
  refine j_iconst (pc := 1124) dL_law_1124 (v := 1) (by decide) ?_
  refine j_iadd (pc := 1125) dL_law_1125  ?_
  refine j_sld (pc := 1126) dL_law_1126 hf (fun hf => ?_)
  refine j_aload_n (pc := 1127) 0 dL_law_1127 rfl rfl ?_
  refine j_iload_n (pc := 1128) 3 dL_law_1128 rfl rfl ?_
  refine j_iconst (pc := 1129) dL_law_1129 (v := 2) (by decide) ?_
  refine j_iadd (pc := 1130) dL_law_1130  ?_
  refine j_sld (pc := 1131) dL_law_1131 hf (fun hf => ?_)
  refine j_aload_n (pc := 1132) 0 dL_law_1132 rfl rfl ?_
  refine j_iload_n (pc := 1133) 3 dL_law_1133 rfl rfl ?_
  refine j_iconst (pc := 1134) dL_law_1134 (v := 3) (by decide) ?_
  refine j_iadd (pc := 1135) dL_law_1135  ?_
  refine j_sld (pc := 1136) dL_law_1136 hf (fun hf => ?_)
  refine j_callLi (pc := 1137) (As := [.int (xs (Int32.toNatClampNeg (x3 + 1))), .int (xs (Int32.toNatClampNeg (x3 + 2))), .int (xs (Int32.toNatClampNeg (x3 + 3)))]) (st := []) dL_law_1137 s748 (by decide) (by decide) rfl rfl (Nat.le_of_ble_eq_true rfl) (Nat.le_of_ble_eq_true rfl) (fun q hq => t_X8_judge (by decide) (by decide) hq) hf (fun q92 hf => ?_)
  refine j_aload_n (pc := 1140) 2 dL_law_1140 rfl rfl ?_
  refine j_aload_n (pc := 1141) 0 dL_law_1141 rfl rfl ?_
  refine j_iload_n (pc := 1142) 3 dL_law_1142 rfl rfl ?_
  refine j_iconst (pc := 1143) dL_law_1143 (v := 1) (by decide) ?_
  refine j_iadd (pc := 1144) dL_law_1144  ?_
  refine j_sld (pc := 1145) dL_law_1145 hf (fun hf => ?_)
  refine j_aload_n (pc := 1146) 0 dL_law_1146 rfl rfl ?_
  refine j_iload_n (pc := 1147) 3 dL_law_1147 rfl rfl ?_
  refine j_iconst (pc := 1148) dL_law_1148 (v := 2) (by decide) ?_
  refine j_iadd (pc := 1149) dL_law_1149  ?_
  refine j_sld (pc := 1150) dL_law_1150 hf (fun hf => ?_)
  refine j_aload_n (pc := 1151) 0 dL_law_1151 rfl rfl ?_
  refine j_iload_n (pc := 1152) 3 dL_law_1152 rfl rfl ?_
  refine j_iconst (pc := 1153) dL_law_1153 (v := 3) (by decide) ?_
  refine j_iadd (pc := 1154) dL_law_1154  ?_
  refine j_sld (pc := 1155) dL_law_1155 hf (fun hf => ?_)
  refine j_callLi (pc := 1156) (As := [.int (xs (Int32.toNatClampNeg (x3 + 1))), .int (xs (Int32.toNatClampNeg (x3 + 2))), .int (xs (Int32.toNatClampNeg (x3 + 3)))]) (st := [.int q92.1]) dL_law_1156 s1352 (by decide) (by decide) rfl rfl (Nat.le_of_ble_eq_true rfl) (Nat.le_of_ble_eq_true rfl) (fun q hq => t_X9_judge (by decide) (by decide) hq) hf (fun q93 hf => ?_)
  refine j_icmp_eq (pc := 1159) (tgt := 1382) dL_law_1159 (by decide) hf (fun _ hf => ?_) (fun _ hf => ?_)
  · refine j_iinc (pc := 1382) 3 (c := 5) (lv' := fun v94 => [(3, .int v94), (0, .ref b), (1, .ref (ad 0)), (2, .ref (ad 108))]) dL_law_1382 rfl (by decide) (by decide) (fun _ => rfl) hf (fun v94 hf => ?_)
    refine j_goto (pc := 1385) (tgt := 18) dL_law_1385 (by decide) ?_
    refine j_sub [1, 2, 3, 0] rfl ?_
    exact hk18 hf
  · refine j_iconst (pc := 1162) dL_law_1162 (v := 0) (by decide) ?_
    cases hf
def f_law_c31 (xs : Nat → Int32) (L : Nat) (k18 : Int32 → Hp → Option Unit) (x3 : Int32) (h : Hp) : Option Unit := (f_X8_moved 0  h).bind (fun q95 => (f_X9_moved 108  q95.2).bind (fun q96 => if q95.1 = q96.1 then (lt (x3 + 5) (fun v97 => k18 v97 q96.2)) else (none)))
set_option maxHeartbeats 4000000 in
set_option maxRecDepth 100000 in
theorem t_law_c31 {l : Launch} {D : va_G} {ad : Nat → Nat} {cA : Nat → ClassId} {b L : Nat} {xs : Nat → Int32} {o : Unit} {k18 : Int32 → Hp → Option Unit} (hk18 : ∀ {x3 : Int32} {h : Hp}, k18 x3 h = some o → J l D ad cA (EL b L xs ad) room_1 (600000, 7302250) (QL b) cL_law RL 4 (some .boolean) 18 [(0, .ref b), (1, .ref (ad 0)), (2, .ref (ad 108)), (3, .int x3)] [] h) {x3 : Int32} {h : Hp} (hf : f_law_c31 xs L k18 x3 h = some o) : J l D ad cA (EL b L xs ad) room_1 (600000, 7302250) (QL b) cL_law RL 4 (some .boolean) 1164 [(0, .ref b), (1, .ref (ad 0)), (2, .ref (ad 108)), (3, .int x3)] [] h := by
  unfold f_law_c31 at hf
  refine j_aload_n (pc := 1164) 1 dL_law_1164 rfl rfl ?_
  refine j_callLi (pc := 1165) (As := []) (st := []) dL_law_1165 s765 (by decide) (by decide) rfl rfl (Nat.le_of_ble_eq_true rfl) (Nat.le_of_ble_eq_true rfl) (fun q hq => t_X8_moved (by decide) (by decide) hq) hf (fun q95 hf => ?_)
  refine j_aload_n (pc := 1168) 2 dL_law_1168 rfl rfl ?_
  refine j_callLi (pc := 1169) (As := []) (st := [.int q95.1]) dL_law_1169 s1361 (by decide) (by decide) rfl rfl (Nat.le_of_ble_eq_true rfl) (Nat.le_of_ble_eq_true rfl) (fun q hq => t_X9_moved (by decide) (by decide) hq) hf (fun q96 hf => ?_)
  refine j_icmp_eq (pc := 1172) (tgt := 1382) dL_law_1172 (by decide) hf (fun _ hf => ?_) (fun _ hf => ?_)
  · refine j_iinc (pc := 1382) 3 (c := 5) (lv' := fun v97 => [(3, .int v97), (0, .ref b), (1, .ref (ad 0)), (2, .ref (ad 108))]) dL_law_1382 rfl (by decide) (by decide) (fun _ => rfl) hf (fun v97 hf => ?_)
    refine j_goto (pc := 1385) (tgt := 18) dL_law_1385 (by decide) ?_
    refine j_sub [1, 2, 3, 0] rfl ?_
    exact hk18 hf
  · refine j_iconst (pc := 1175) dL_law_1175 (v := 0) (by decide) ?_
    cases hf
def f_law_c32 (xs : Nat → Int32) (L : Nat) (k18 : Int32 → Hp → Option Unit) (x3 : Int32) (h : Hp) : Option Unit := (f_X8_spellPlan 0  h).bind (fun q98 => (f_X9_spellPlan 108  q98.2).bind (fun q99 => if q98.1 = q99.1 then (lt (x3 + 5) (fun v100 => k18 v100 q99.2)) else (none)))
set_option maxHeartbeats 4000000 in
set_option maxRecDepth 100000 in
theorem t_law_c32 {l : Launch} {D : va_G} {ad : Nat → Nat} {cA : Nat → ClassId} {b L : Nat} {xs : Nat → Int32} {o : Unit} {k18 : Int32 → Hp → Option Unit} (hk18 : ∀ {x3 : Int32} {h : Hp}, k18 x3 h = some o → J l D ad cA (EL b L xs ad) room_1 (600000, 7302250) (QL b) cL_law RL 4 (some .boolean) 18 [(0, .ref b), (1, .ref (ad 0)), (2, .ref (ad 108)), (3, .int x3)] [] h) {x3 : Int32} {h : Hp} (hf : f_law_c32 xs L k18 x3 h = some o) : J l D ad cA (EL b L xs ad) room_1 (600000, 7302250) (QL b) cL_law RL 4 (some .boolean) 1177 [(0, .ref b), (1, .ref (ad 0)), (2, .ref (ad 108)), (3, .int x3)] [] h := by
  unfold f_law_c32 at hf
  refine j_aload_n (pc := 1177) 1 dL_law_1177 rfl rfl ?_
  refine j_callLi (pc := 1178) (As := []) (st := []) dL_law_1178 s777 (by decide) (by decide) rfl rfl (Nat.le_of_ble_eq_true rfl) (Nat.le_of_ble_eq_true rfl) (fun q hq => t_X8_spellPlan (by decide) (by decide) hq) hf (fun q98 hf => ?_)
  refine j_aload_n (pc := 1181) 2 dL_law_1181 rfl rfl ?_
  refine j_callLi (pc := 1182) (As := []) (st := [.int q98.1]) dL_law_1182 s1365 (by decide) (by decide) rfl rfl (Nat.le_of_ble_eq_true rfl) (Nat.le_of_ble_eq_true rfl) (fun q hq => t_X9_spellPlan (by decide) (by decide) hq) hf (fun q99 hf => ?_)
  refine j_icmp_eq (pc := 1185) (tgt := 1382) dL_law_1185 (by decide) hf (fun _ hf => ?_) (fun _ hf => ?_)
  · refine j_iinc (pc := 1382) 3 (c := 5) (lv' := fun v100 => [(3, .int v100), (0, .ref b), (1, .ref (ad 0)), (2, .ref (ad 108))]) dL_law_1382 rfl (by decide) (by decide) (fun _ => rfl) hf (fun v100 hf => ?_)
    refine j_goto (pc := 1385) (tgt := 18) dL_law_1385 (by decide) ?_
    refine j_sub [1, 2, 3, 0] rfl ?_
    exact hk18 hf
  · refine j_iconst (pc := 1188) dL_law_1188 (v := 0) (by decide) ?_
    cases hf
def f_law_c33 (xs : Nat → Int32) (L : Nat) (k18 : Int32 → Hp → Option Unit) (x3 : Int32) (h : Hp) : Option Unit := if ix (x3 + 1) L = true then ((f_X8_told 0 (xs (Int32.toNatClampNeg (x3 + 1))) h).bind (fun q101 => if ix (x3 + 1) L = true then ((f_X9_told 108 (xs (Int32.toNatClampNeg (x3 + 1))) q101.2).bind (fun q102 => if q101.1 = q102.1 then (lt (x3 + 5) (fun v103 => k18 v103 q102.2)) else (none))) else none)) else none
set_option maxHeartbeats 4000000 in
set_option maxRecDepth 100000 in
theorem t_law_c33 {l : Launch} {D : va_G} {ad : Nat → Nat} {cA : Nat → ClassId} {b L : Nat} {xs : Nat → Int32} {o : Unit} {k18 : Int32 → Hp → Option Unit} (hk18 : ∀ {x3 : Int32} {h : Hp}, k18 x3 h = some o → J l D ad cA (EL b L xs ad) room_1 (600000, 7302250) (QL b) cL_law RL 4 (some .boolean) 18 [(0, .ref b), (1, .ref (ad 0)), (2, .ref (ad 108)), (3, .int x3)] [] h) {x3 : Int32} {h : Hp} (hf : f_law_c33 xs L k18 x3 h = some o) : J l D ad cA (EL b L xs ad) room_1 (600000, 7302250) (QL b) cL_law RL 4 (some .boolean) 1190 [(0, .ref b), (1, .ref (ad 0)), (2, .ref (ad 108)), (3, .int x3)] [] h := by
  unfold f_law_c33 at hf
  refine j_aload_n (pc := 1190) 1 dL_law_1190 rfl rfl ?_
  refine j_aload_n (pc := 1191) 0 dL_law_1191 rfl rfl ?_
  refine j_iload_n (pc := 1192) 3 dL_law_1192 rfl rfl ?_
  refine j_iconst (pc := 1193) dL_law_1193 (v := 1) (by decide) ?_
  refine j_iadd (pc := 1194) dL_law_1194  ?_
  refine j_sld (pc := 1195) dL_law_1195 hf (fun hf => ?_)
  refine j_callLi (pc := 1196) (As := [.int (xs (Int32.toNatClampNeg (x3 + 1)))]) (st := []) dL_law_1196 s782 (by decide) (by decide) rfl rfl (Nat.le_of_ble_eq_true rfl) (Nat.le_of_ble_eq_true rfl) (fun q hq => t_X8_told (by decide) (by decide) hq) hf (fun q101 hf => ?_)
  refine j_aload_n (pc := 1199) 2 dL_law_1199 rfl rfl ?_
  refine j_aload_n (pc := 1200) 0 dL_law_1200 rfl rfl ?_
  refine j_iload_n (pc := 1201) 3 dL_law_1201 rfl rfl ?_
  refine j_iconst (pc := 1202) dL_law_1202 (v := 1) (by decide) ?_
  refine j_iadd (pc := 1203) dL_law_1203  ?_
  refine j_sld (pc := 1204) dL_law_1204 hf (fun hf => ?_)
  refine j_callLi (pc := 1205) (As := [.int (xs (Int32.toNatClampNeg (x3 + 1)))]) (st := [.int q101.1]) dL_law_1205 s1369 (by decide) (by decide) rfl rfl (Nat.le_of_ble_eq_true rfl) (Nat.le_of_ble_eq_true rfl) (fun q hq => t_X9_told (by decide) (by decide) hq) hf (fun q102 hf => ?_)
  refine j_icmp_eq (pc := 1208) (tgt := 1382) dL_law_1208 (by decide) hf (fun _ hf => ?_) (fun _ hf => ?_)
  · refine j_iinc (pc := 1382) 3 (c := 5) (lv' := fun v103 => [(3, .int v103), (0, .ref b), (1, .ref (ad 0)), (2, .ref (ad 108))]) dL_law_1382 rfl (by decide) (by decide) (fun _ => rfl) hf (fun v103 hf => ?_)
    refine j_goto (pc := 1385) (tgt := 18) dL_law_1385 (by decide) ?_
    refine j_sub [1, 2, 3, 0] rfl ?_
    exact hk18 hf
  · refine j_iconst (pc := 1211) dL_law_1211 (v := 0) (by decide) ?_
    cases hf
def f_law_c34 (xs : Nat → Int32) (L : Nat) (k18 : Int32 → Hp → Option Unit) (x3 : Int32) (h : Hp) : Option Unit := if ix (x3 + 1) L = true then (if ix (x3 + 2) L = true then ((f_X8_row 0 (xs (Int32.toNatClampNeg (x3 + 1))) (xs (Int32.toNatClampNeg (x3 + 2))) h).bind (fun q104 => if ix (x3 + 1) L = true then (if ix (x3 + 2) L = true then ((f_X9_row 108 (xs (Int32.toNatClampNeg (x3 + 1))) (xs (Int32.toNatClampNeg (x3 + 2))) q104.2).bind (fun q105 => if q104.1 = q105.1 then (lt (x3 + 5) (fun v106 => k18 v106 q105.2)) else (none))) else none) else none)) else none) else none
set_option maxHeartbeats 4000000 in
set_option maxRecDepth 100000 in
theorem t_law_c34 {l : Launch} {D : va_G} {ad : Nat → Nat} {cA : Nat → ClassId} {b L : Nat} {xs : Nat → Int32} {o : Unit} {k18 : Int32 → Hp → Option Unit} (hk18 : ∀ {x3 : Int32} {h : Hp}, k18 x3 h = some o → J l D ad cA (EL b L xs ad) room_1 (600000, 7302250) (QL b) cL_law RL 4 (some .boolean) 18 [(0, .ref b), (1, .ref (ad 0)), (2, .ref (ad 108)), (3, .int x3)] [] h) {x3 : Int32} {h : Hp} (hf : f_law_c34 xs L k18 x3 h = some o) : J l D ad cA (EL b L xs ad) room_1 (600000, 7302250) (QL b) cL_law RL 4 (some .boolean) 1213 [(0, .ref b), (1, .ref (ad 0)), (2, .ref (ad 108)), (3, .int x3)] [] h := by
  unfold f_law_c34 at hf
  refine j_aload_n (pc := 1213) 1 dL_law_1213 rfl rfl ?_
  refine j_aload_n (pc := 1214) 0 dL_law_1214 rfl rfl ?_
  refine j_iload_n (pc := 1215) 3 dL_law_1215 rfl rfl ?_
  refine j_iconst (pc := 1216) dL_law_1216 (v := 1) (by decide) ?_
  refine j_iadd (pc := 1217) dL_law_1217  ?_
  refine j_sld (pc := 1218) dL_law_1218 hf (fun hf => ?_)
  refine j_aload_n (pc := 1219) 0 dL_law_1219 rfl rfl ?_
  refine j_iload_n (pc := 1220) 3 dL_law_1220 rfl rfl ?_
  refine j_iconst (pc := 1221) dL_law_1221 (v := 2) (by decide) ?_
  refine j_iadd (pc := 1222) dL_law_1222  ?_
  refine j_sld (pc := 1223) dL_law_1223 hf (fun hf => ?_)
  refine j_callLi (pc := 1224) (As := [.int (xs (Int32.toNatClampNeg (x3 + 1))), .int (xs (Int32.toNatClampNeg (x3 + 2)))]) (st := []) dL_law_1224 s794 (by decide) (by decide) rfl rfl (Nat.le_of_ble_eq_true rfl) (Nat.le_of_ble_eq_true rfl) (fun q hq => t_X8_row (by decide) (by decide) hq) hf (fun q104 hf => ?_)
  refine j_aload_n (pc := 1227) 2 dL_law_1227 rfl rfl ?_
  refine j_aload_n (pc := 1228) 0 dL_law_1228 rfl rfl ?_
  refine j_iload_n (pc := 1229) 3 dL_law_1229 rfl rfl ?_
  refine j_iconst (pc := 1230) dL_law_1230 (v := 1) (by decide) ?_
  refine j_iadd (pc := 1231) dL_law_1231  ?_
  refine j_sld (pc := 1232) dL_law_1232 hf (fun hf => ?_)
  refine j_aload_n (pc := 1233) 0 dL_law_1233 rfl rfl ?_
  refine j_iload_n (pc := 1234) 3 dL_law_1234 rfl rfl ?_
  refine j_iconst (pc := 1235) dL_law_1235 (v := 2) (by decide) ?_
  refine j_iadd (pc := 1236) dL_law_1236  ?_
  refine j_sld (pc := 1237) dL_law_1237 hf (fun hf => ?_)
  refine j_callLi (pc := 1238) (As := [.int (xs (Int32.toNatClampNeg (x3 + 1))), .int (xs (Int32.toNatClampNeg (x3 + 2)))]) (st := [.int q104.1]) dL_law_1238 s1333 (by decide) (by decide) rfl rfl (Nat.le_of_ble_eq_true rfl) (Nat.le_of_ble_eq_true rfl) (fun q hq => t_X9_row (by decide) (by decide) hq) hf (fun q105 hf => ?_)
  refine j_icmp_eq (pc := 1241) (tgt := 1382) dL_law_1241 (by decide) hf (fun _ hf => ?_) (fun _ hf => ?_)
  · refine j_iinc (pc := 1382) 3 (c := 5) (lv' := fun v106 => [(3, .int v106), (0, .ref b), (1, .ref (ad 0)), (2, .ref (ad 108))]) dL_law_1382 rfl (by decide) (by decide) (fun _ => rfl) hf (fun v106 hf => ?_)
    refine j_goto (pc := 1385) (tgt := 18) dL_law_1385 (by decide) ?_
    refine j_sub [1, 2, 3, 0] rfl ?_
    exact hk18 hf
  · refine j_iconst (pc := 1244) dL_law_1244 (v := 0) (by decide) ?_
    cases hf
def f_law_c35 (xs : Nat → Int32) (L : Nat) (k18 : Int32 → Hp → Option Unit) (x3 : Int32) (h : Hp) : Option Unit := if ix (x3 + 1) L = true then (if ix (x3 + 2) L = true then (if ix (x3 + 3) L = true then ((f_X8_set 0 (xs (Int32.toNatClampNeg (x3 + 1))) (xs (Int32.toNatClampNeg (x3 + 2))) (xs (Int32.toNatClampNeg (x3 + 3))) h).bind (fun q107 => if ix (x3 + 1) L = true then (if ix (x3 + 2) L = true then (if ix (x3 + 3) L = true then ((f_X9_set 108 (xs (Int32.toNatClampNeg (x3 + 1))) (xs (Int32.toNatClampNeg (x3 + 2))) (xs (Int32.toNatClampNeg (x3 + 3))) q107.2).bind (fun q108 => if q107.1 = q108.1 then (lt (x3 + 5) (fun v109 => k18 v109 q108.2)) else (none))) else none) else none) else none)) else none) else none) else none
set_option maxHeartbeats 4000000 in
set_option maxRecDepth 100000 in
theorem t_law_c35 {l : Launch} {D : va_G} {ad : Nat → Nat} {cA : Nat → ClassId} {b L : Nat} {xs : Nat → Int32} {o : Unit} {k18 : Int32 → Hp → Option Unit} (hk18 : ∀ {x3 : Int32} {h : Hp}, k18 x3 h = some o → J l D ad cA (EL b L xs ad) room_1 (600000, 7302250) (QL b) cL_law RL 4 (some .boolean) 18 [(0, .ref b), (1, .ref (ad 0)), (2, .ref (ad 108)), (3, .int x3)] [] h) {x3 : Int32} {h : Hp} (hf : f_law_c35 xs L k18 x3 h = some o) : J l D ad cA (EL b L xs ad) room_1 (600000, 7302250) (QL b) cL_law RL 4 (some .boolean) 1246 [(0, .ref b), (1, .ref (ad 0)), (2, .ref (ad 108)), (3, .int x3)] [] h := by
  unfold f_law_c35 at hf
  refine j_aload_n (pc := 1246) 1 dL_law_1246 rfl rfl ?_
  refine j_aload_n (pc := 1247) 0 dL_law_1247 rfl rfl ?_
  refine j_iload_n (pc := 1248) 3 dL_law_1248 rfl rfl ?_
  refine j_iconst (pc := 1249) dL_law_1249 (v := 1) (by decide) ?_
  refine j_iadd (pc := 1250) dL_law_1250  ?_
  refine j_sld (pc := 1251) dL_law_1251 hf (fun hf => ?_)
  refine j_aload_n (pc := 1252) 0 dL_law_1252 rfl rfl ?_
  refine j_iload_n (pc := 1253) 3 dL_law_1253 rfl rfl ?_
  refine j_iconst (pc := 1254) dL_law_1254 (v := 2) (by decide) ?_
  refine j_iadd (pc := 1255) dL_law_1255  ?_
  refine j_sld (pc := 1256) dL_law_1256 hf (fun hf => ?_)
  refine j_aload_n (pc := 1257) 0 dL_law_1257 rfl rfl ?_
  refine j_iload_n (pc := 1258) 3 dL_law_1258 rfl rfl ?_
  refine j_iconst (pc := 1259) dL_law_1259 (v := 3) (by decide) ?_
  refine j_iadd (pc := 1260) dL_law_1260  ?_
  refine j_sld (pc := 1261) dL_law_1261 hf (fun hf => ?_)
  refine j_callLi (pc := 1262) (As := [.int (xs (Int32.toNatClampNeg (x3 + 1))), .int (xs (Int32.toNatClampNeg (x3 + 2))), .int (xs (Int32.toNatClampNeg (x3 + 3)))]) (st := []) dL_law_1262 s802 (by decide) (by decide) rfl rfl (Nat.le_of_ble_eq_true rfl) (Nat.le_of_ble_eq_true rfl) (fun q hq => t_X8_set (by decide) (by decide) hq) hf (fun q107 hf => ?_)
  refine j_aload_n (pc := 1265) 2 dL_law_1265 rfl rfl ?_
  refine j_aload_n (pc := 1266) 0 dL_law_1266 rfl rfl ?_
  refine j_iload_n (pc := 1267) 3 dL_law_1267 rfl rfl ?_
  refine j_iconst (pc := 1268) dL_law_1268 (v := 1) (by decide) ?_
  refine j_iadd (pc := 1269) dL_law_1269  ?_
  refine j_sld (pc := 1270) dL_law_1270 hf (fun hf => ?_)
  refine j_aload_n (pc := 1271) 0 dL_law_1271 rfl rfl ?_
  refine j_iload_n (pc := 1272) 3 dL_law_1272 rfl rfl ?_
  refine j_iconst (pc := 1273) dL_law_1273 (v := 2) (by decide) ?_
  refine j_iadd (pc := 1274) dL_law_1274  ?_
  refine j_sld (pc := 1275) dL_law_1275 hf (fun hf => ?_)
  refine j_aload_n (pc := 1276) 0 dL_law_1276 rfl rfl ?_
  refine j_iload_n (pc := 1277) 3 dL_law_1277 rfl rfl ?_
  refine j_iconst (pc := 1278) dL_law_1278 (v := 3) (by decide) ?_
  refine j_iadd (pc := 1279) dL_law_1279  ?_
  refine j_sld (pc := 1280) dL_law_1280 hf (fun hf => ?_)
  refine j_callLi (pc := 1281) (As := [.int (xs (Int32.toNatClampNeg (x3 + 1))), .int (xs (Int32.toNatClampNeg (x3 + 2))), .int (xs (Int32.toNatClampNeg (x3 + 3)))]) (st := [.int q107.1]) dL_law_1281 s1340 (by decide) (by decide) rfl rfl (Nat.le_of_ble_eq_true rfl) (Nat.le_of_ble_eq_true rfl) (fun q hq => t_X9_set (by decide) (by decide) hq) hf (fun q108 hf => ?_)
  refine j_icmp_eq (pc := 1284) (tgt := 1382) dL_law_1284 (by decide) hf (fun _ hf => ?_) (fun _ hf => ?_)
  · refine j_iinc (pc := 1382) 3 (c := 5) (lv' := fun v109 => [(3, .int v109), (0, .ref b), (1, .ref (ad 0)), (2, .ref (ad 108))]) dL_law_1382 rfl (by decide) (by decide) (fun _ => rfl) hf (fun v109 hf => ?_)
    refine j_goto (pc := 1385) (tgt := 18) dL_law_1385 (by decide) ?_
    refine j_sub [1, 2, 3, 0] rfl ?_
    exact hk18 hf
  · refine j_iconst (pc := 1287) dL_law_1287 (v := 0) (by decide) ?_
    cases hf
def f_law_c36 (xs : Nat → Int32) (L : Nat) (k18 : Int32 → Hp → Option Unit) (x3 : Int32) (h : Hp) : Option Unit := if ix (x3 + 1) L = true then (if ix (x3 + 2) L = true then ((f_X8_get 0 (xs (Int32.toNatClampNeg (x3 + 1))) (xs (Int32.toNatClampNeg (x3 + 2))) h).bind (fun q110 => if ix (x3 + 1) L = true then (if ix (x3 + 2) L = true then ((f_X9_get 108 (xs (Int32.toNatClampNeg (x3 + 1))) (xs (Int32.toNatClampNeg (x3 + 2))) q110.2).bind (fun q111 => if (lg_cmp q110.1 q111.1) = 0 then (lt (x3 + 5) (fun v112 => k18 v112 q111.2)) else (none))) else none) else none)) else none) else none
set_option maxHeartbeats 4000000 in
set_option maxRecDepth 100000 in
theorem t_law_c36 {l : Launch} {D : va_G} {ad : Nat → Nat} {cA : Nat → ClassId} {b L : Nat} {xs : Nat → Int32} {o : Unit} {k18 : Int32 → Hp → Option Unit} (hk18 : ∀ {x3 : Int32} {h : Hp}, k18 x3 h = some o → J l D ad cA (EL b L xs ad) room_1 (600000, 7302250) (QL b) cL_law RL 4 (some .boolean) 18 [(0, .ref b), (1, .ref (ad 0)), (2, .ref (ad 108)), (3, .int x3)] [] h) {x3 : Int32} {h : Hp} (hf : f_law_c36 xs L k18 x3 h = some o) : J l D ad cA (EL b L xs ad) room_1 (600000, 7302250) (QL b) cL_law RL 4 (some .boolean) 1289 [(0, .ref b), (1, .ref (ad 0)), (2, .ref (ad 108)), (3, .int x3)] [] h := by
  unfold f_law_c36 at hf
  refine j_aload_n (pc := 1289) 1 dL_law_1289 rfl rfl ?_
  refine j_aload_n (pc := 1290) 0 dL_law_1290 rfl rfl ?_
  refine j_iload_n (pc := 1291) 3 dL_law_1291 rfl rfl ?_
  refine j_iconst (pc := 1292) dL_law_1292 (v := 1) (by decide) ?_
  refine j_iadd (pc := 1293) dL_law_1293  ?_
  refine j_sld (pc := 1294) dL_law_1294 hf (fun hf => ?_)
  refine j_aload_n (pc := 1295) 0 dL_law_1295 rfl rfl ?_
  refine j_iload_n (pc := 1296) 3 dL_law_1296 rfl rfl ?_
  refine j_iconst (pc := 1297) dL_law_1297 (v := 2) (by decide) ?_
  refine j_iadd (pc := 1298) dL_law_1298  ?_
  refine j_sld (pc := 1299) dL_law_1299 hf (fun hf => ?_)
  refine j_callLl (pc := 1300) (As := [.int (xs (Int32.toNatClampNeg (x3 + 1))), .int (xs (Int32.toNatClampNeg (x3 + 2)))]) (st := []) dL_law_1300 s818 (by decide) (by decide) rfl rfl (Nat.le_of_ble_eq_true rfl) (Nat.le_of_ble_eq_true rfl) (fun q hq => t_X8_get (by decide) (by decide) hq) hf (fun q110 hf => ?_)
  refine j_aload_n (pc := 1303) 2 dL_law_1303 rfl rfl ?_
  refine j_aload_n (pc := 1304) 0 dL_law_1304 rfl rfl ?_
  refine j_iload_n (pc := 1305) 3 dL_law_1305 rfl rfl ?_
  refine j_iconst (pc := 1306) dL_law_1306 (v := 1) (by decide) ?_
  refine j_iadd (pc := 1307) dL_law_1307  ?_
  refine j_sld (pc := 1308) dL_law_1308 hf (fun hf => ?_)
  refine j_aload_n (pc := 1309) 0 dL_law_1309 rfl rfl ?_
  refine j_iload_n (pc := 1310) 3 dL_law_1310 rfl rfl ?_
  refine j_iconst (pc := 1311) dL_law_1311 (v := 2) (by decide) ?_
  refine j_iadd (pc := 1312) dL_law_1312  ?_
  refine j_sld (pc := 1313) dL_law_1313 hf (fun hf => ?_)
  refine j_callLl (pc := 1314) (As := [.int (xs (Int32.toNatClampNeg (x3 + 1))), .int (xs (Int32.toNatClampNeg (x3 + 2)))]) (st := [.long q110.1]) dL_law_1314 s1344 (by decide) (by decide) rfl rfl (Nat.le_of_ble_eq_true rfl) (Nat.le_of_ble_eq_true rfl) (fun q hq => t_X9_get (by decide) (by decide) hq) hf (fun q111 hf => ?_)
  refine j_lcmp (pc := 1317) dL_law_1317  ?_
  refine j_if_eq (pc := 1318) (tgt := 1382) dL_law_1318 (by decide) hf (fun _ hf => ?_) (fun _ hf => ?_)
  · refine j_iinc (pc := 1382) 3 (c := 5) (lv' := fun v112 => [(3, .int v112), (0, .ref b), (1, .ref (ad 0)), (2, .ref (ad 108))]) dL_law_1382 rfl (by decide) (by decide) (fun _ => rfl) hf (fun v112 hf => ?_)
    refine j_goto (pc := 1385) (tgt := 18) dL_law_1385 (by decide) ?_
    refine j_sub [1, 2, 3, 0] rfl ?_
    exact hk18 hf
  · refine j_iconst (pc := 1321) dL_law_1321 (v := 0) (by decide) ?_
    cases hf
def f_law_c37 (xs : Nat → Int32) (L : Nat) (k18 : Int32 → Hp → Option Unit) (x3 : Int32) (h : Hp) : Option Unit := if ix (x3 + 1) L = true then (if ix (x3 + 2) L = true then ((f_X8_lay 0 (xs (Int32.toNatClampNeg (x3 + 1))) (xs (Int32.toNatClampNeg (x3 + 2))) h).bind (fun q113 => if ix (x3 + 1) L = true then (if ix (x3 + 2) L = true then ((f_X9_lay 108 (xs (Int32.toNatClampNeg (x3 + 1))) (xs (Int32.toNatClampNeg (x3 + 2))) q113.2).bind (fun q114 => if q113.1 = q114.1 then (lt (x3 + 5) (fun v115 => k18 v115 q114.2)) else (none))) else none) else none)) else none) else none
set_option maxHeartbeats 4000000 in
set_option maxRecDepth 100000 in
theorem t_law_c37 {l : Launch} {D : va_G} {ad : Nat → Nat} {cA : Nat → ClassId} {b L : Nat} {xs : Nat → Int32} {o : Unit} {k18 : Int32 → Hp → Option Unit} (hk18 : ∀ {x3 : Int32} {h : Hp}, k18 x3 h = some o → J l D ad cA (EL b L xs ad) room_1 (600000, 7302250) (QL b) cL_law RL 4 (some .boolean) 18 [(0, .ref b), (1, .ref (ad 0)), (2, .ref (ad 108)), (3, .int x3)] [] h) {x3 : Int32} {h : Hp} (hf : f_law_c37 xs L k18 x3 h = some o) : J l D ad cA (EL b L xs ad) room_1 (600000, 7302250) (QL b) cL_law RL 4 (some .boolean) 1323 [(0, .ref b), (1, .ref (ad 0)), (2, .ref (ad 108)), (3, .int x3)] [] h := by
  unfold f_law_c37 at hf
  refine j_aload_n (pc := 1323) 1 dL_law_1323 rfl rfl ?_
  refine j_aload_n (pc := 1324) 0 dL_law_1324 rfl rfl ?_
  refine j_iload_n (pc := 1325) 3 dL_law_1325 rfl rfl ?_
  refine j_iconst (pc := 1326) dL_law_1326 (v := 1) (by decide) ?_
  refine j_iadd (pc := 1327) dL_law_1327  ?_
  refine j_sld (pc := 1328) dL_law_1328 hf (fun hf => ?_)
  refine j_aload_n (pc := 1329) 0 dL_law_1329 rfl rfl ?_
  refine j_iload_n (pc := 1330) 3 dL_law_1330 rfl rfl ?_
  refine j_iconst (pc := 1331) dL_law_1331 (v := 2) (by decide) ?_
  refine j_iadd (pc := 1332) dL_law_1332  ?_
  refine j_sld (pc := 1333) dL_law_1333 hf (fun hf => ?_)
  refine j_callLi (pc := 1334) (As := [.int (xs (Int32.toNatClampNeg (x3 + 1))), .int (xs (Int32.toNatClampNeg (x3 + 2)))]) (st := []) dL_law_1334 s823 (by decide) (by decide) rfl rfl (Nat.le_of_ble_eq_true rfl) (Nat.le_of_ble_eq_true rfl) (fun q hq => t_X8_lay (by decide) (by decide) hq) hf (fun q113 hf => ?_)
  refine j_aload_n (pc := 1337) 2 dL_law_1337 rfl rfl ?_
  refine j_aload_n (pc := 1338) 0 dL_law_1338 rfl rfl ?_
  refine j_iload_n (pc := 1339) 3 dL_law_1339 rfl rfl ?_
  refine j_iconst (pc := 1340) dL_law_1340 (v := 1) (by decide) ?_
  refine j_iadd (pc := 1341) dL_law_1341  ?_
  refine j_sld (pc := 1342) dL_law_1342 hf (fun hf => ?_)
  refine j_aload_n (pc := 1343) 0 dL_law_1343 rfl rfl ?_
  refine j_iload_n (pc := 1344) 3 dL_law_1344 rfl rfl ?_
  refine j_iconst (pc := 1345) dL_law_1345 (v := 2) (by decide) ?_
  refine j_iadd (pc := 1346) dL_law_1346  ?_
  refine j_sld (pc := 1347) dL_law_1347 hf (fun hf => ?_)
  refine j_callLi (pc := 1348) (As := [.int (xs (Int32.toNatClampNeg (x3 + 1))), .int (xs (Int32.toNatClampNeg (x3 + 2)))]) (st := [.int q113.1]) dL_law_1348 s1348 (by decide) (by decide) rfl rfl (Nat.le_of_ble_eq_true rfl) (Nat.le_of_ble_eq_true rfl) (fun q hq => t_X9_lay (by decide) (by decide) hq) hf (fun q114 hf => ?_)
  refine j_icmp_eq (pc := 1351) (tgt := 1382) dL_law_1351 (by decide) hf (fun _ hf => ?_) (fun _ hf => ?_)
  · refine j_iinc (pc := 1382) 3 (c := 5) (lv' := fun v115 => [(3, .int v115), (0, .ref b), (1, .ref (ad 0)), (2, .ref (ad 108))]) dL_law_1382 rfl (by decide) (by decide) (fun _ => rfl) hf (fun v115 hf => ?_)
    refine j_goto (pc := 1385) (tgt := 18) dL_law_1385 (by decide) ?_
    refine j_sub [1, 2, 3, 0] rfl ?_
    exact hk18 hf
  · refine j_iconst (pc := 1354) dL_law_1354 (v := 0) (by decide) ?_
    cases hf
def f_law_c38 (xs : Nat → Int32) (L : Nat) (k18 : Int32 → Hp → Option Unit) (x3 : Int32) (h : Hp) : Option Unit := (f_X8_image 0  h).bind (fun q116 => (f_X9_image 108  q116.2).bind (fun q117 => if q116.1 = q117.1 then (lt (x3 + 5) (fun v118 => k18 v118 q117.2)) else (none)))
set_option maxHeartbeats 4000000 in
set_option maxRecDepth 100000 in
theorem t_law_c38 {l : Launch} {D : va_G} {ad : Nat → Nat} {cA : Nat → ClassId} {b L : Nat} {xs : Nat → Int32} {o : Unit} {k18 : Int32 → Hp → Option Unit} (hk18 : ∀ {x3 : Int32} {h : Hp}, k18 x3 h = some o → J l D ad cA (EL b L xs ad) room_1 (600000, 7302250) (QL b) cL_law RL 4 (some .boolean) 18 [(0, .ref b), (1, .ref (ad 0)), (2, .ref (ad 108)), (3, .int x3)] [] h) {x3 : Int32} {h : Hp} (hf : f_law_c38 xs L k18 x3 h = some o) : J l D ad cA (EL b L xs ad) room_1 (600000, 7302250) (QL b) cL_law RL 4 (some .boolean) 1356 [(0, .ref b), (1, .ref (ad 0)), (2, .ref (ad 108)), (3, .int x3)] [] h := by
  unfold f_law_c38 at hf
  refine j_aload_n (pc := 1356) 1 dL_law_1356 rfl rfl ?_
  refine j_callLi (pc := 1357) (As := []) (st := []) dL_law_1357 s832 (by decide) (by decide) rfl rfl (Nat.le_of_ble_eq_true rfl) (Nat.le_of_ble_eq_true rfl) (fun q hq => t_X8_image (by decide) (by decide) hq) hf (fun q116 hf => ?_)
  refine j_aload_n (pc := 1360) 2 dL_law_1360 rfl rfl ?_
  refine j_callLi (pc := 1361) (As := []) (st := [.int q116.1]) dL_law_1361 s1386 (by decide) (by decide) rfl rfl (Nat.le_of_ble_eq_true rfl) (Nat.le_of_ble_eq_true rfl) (fun q hq => t_X9_image (by decide) (by decide) hq) hf (fun q117 hf => ?_)
  refine j_icmp_eq (pc := 1364) (tgt := 1382) dL_law_1364 (by decide) hf (fun _ hf => ?_) (fun _ hf => ?_)
  · refine j_iinc (pc := 1382) 3 (c := 5) (lv' := fun v118 => [(3, .int v118), (0, .ref b), (1, .ref (ad 0)), (2, .ref (ad 108))]) dL_law_1382 rfl (by decide) (by decide) (fun _ => rfl) hf (fun v118 hf => ?_)
    refine j_goto (pc := 1385) (tgt := 18) dL_law_1385 (by decide) ?_
    refine j_sub [1, 2, 3, 0] rfl ?_
    exact hk18 hf
  · refine j_iconst (pc := 1367) dL_law_1367 (v := 0) (by decide) ?_
    cases hf
def f_law_c39 (xs : Nat → Int32) (L : Nat) (k18 : Int32 → Hp → Option Unit) (x3 : Int32) (h : Hp) : Option Unit := (f_X8_undo 0  h).bind (fun q119 => (f_X9_undo 108  q119.2).bind (fun q120 => if q119.1 = q120.1 then (lt (x3 + 5) (fun v121 => k18 v121 q120.2)) else (none)))
set_option maxHeartbeats 4000000 in
set_option maxRecDepth 100000 in
theorem t_law_c39 {l : Launch} {D : va_G} {ad : Nat → Nat} {cA : Nat → ClassId} {b L : Nat} {xs : Nat → Int32} {o : Unit} {k18 : Int32 → Hp → Option Unit} (hk18 : ∀ {x3 : Int32} {h : Hp}, k18 x3 h = some o → J l D ad cA (EL b L xs ad) room_1 (600000, 7302250) (QL b) cL_law RL 4 (some .boolean) 18 [(0, .ref b), (1, .ref (ad 0)), (2, .ref (ad 108)), (3, .int x3)] [] h) {x3 : Int32} {h : Hp} (hf : f_law_c39 xs L k18 x3 h = some o) : J l D ad cA (EL b L xs ad) room_1 (600000, 7302250) (QL b) cL_law RL 4 (some .boolean) 1369 [(0, .ref b), (1, .ref (ad 0)), (2, .ref (ad 108)), (3, .int x3)] [] h := by
  unfold f_law_c39 at hf
  refine j_aload_n (pc := 1369) 1 dL_law_1369 rfl rfl ?_
  refine j_callLi (pc := 1370) (As := []) (st := []) dL_law_1370 s836 (by decide) (by decide) rfl rfl (Nat.le_of_ble_eq_true rfl) (Nat.le_of_ble_eq_true rfl) (fun q hq => t_X8_undo (by decide) (by decide) hq) hf (fun q119 hf => ?_)
  refine j_aload_n (pc := 1373) 2 dL_law_1373 rfl rfl ?_
  refine j_callLi (pc := 1374) (As := []) (st := [.int q119.1]) dL_law_1374 s1391 (by decide) (by decide) rfl rfl (Nat.le_of_ble_eq_true rfl) (Nat.le_of_ble_eq_true rfl) (fun q hq => t_X9_undo (by decide) (by decide) hq) hf (fun q120 hf => ?_)
  refine j_icmp_eq (pc := 1377) (tgt := 1382) dL_law_1377 (by decide) hf (fun _ hf => ?_) (fun _ hf => ?_)
  · refine j_iinc (pc := 1382) 3 (c := 5) (lv' := fun v121 => [(3, .int v121), (0, .ref b), (1, .ref (ad 0)), (2, .ref (ad 108))]) dL_law_1382 rfl (by decide) (by decide) (fun _ => rfl) hf (fun v121 hf => ?_)
    refine j_goto (pc := 1385) (tgt := 18) dL_law_1385 (by decide) ?_
    refine j_sub [1, 2, 3, 0] rfl ?_
    exact hk18 hf
  · refine j_iconst (pc := 1380) dL_law_1380 (v := 0) (by decide) ?_
    cases hf
def f_law_18 (xs : Nat → Int32) (L : Nat) (k18 : Int32 → Hp → Option Unit) (x3 : Int32) (h : Hp) : Option Unit := if ((Int32.ofNat L) - 5) < x3 then (some ()) else (if ix x3 L = true then (lt ((xs (Int32.toNatClampNeg x3)) &&& 63) (fun w => if w = 0 then (f_law_c0 xs L k18 x3 h) else (if w = 1 then (f_law_c1 xs L k18 x3 h) else (if w = 2 then (f_law_c2 xs L k18 x3 h) else (if w = 3 then (f_law_c3 xs L k18 x3 h) else (if w = 4 then (f_law_c4 xs L k18 x3 h) else (if w = 5 then (f_law_c5 xs L k18 x3 h) else (if w = 6 then (f_law_c6 xs L k18 x3 h) else (if w = 7 then (f_law_c7 xs L k18 x3 h) else (if w = 8 then (f_law_c8 xs L k18 x3 h) else (if w = 9 then (f_law_c9 xs L k18 x3 h) else (if w = 10 then (f_law_c10 xs L k18 x3 h) else (if w = 11 then (f_law_c11 xs L k18 x3 h) else (if w = 12 then (f_law_c12 xs L k18 x3 h) else (if w = 13 then (f_law_c13 xs L k18 x3 h) else (if w = 14 then (f_law_c14 xs L k18 x3 h) else (if w = 15 then (f_law_c15 xs L k18 x3 h) else (if w = 16 then (f_law_c16 xs L k18 x3 h) else (if w = 17 then (f_law_c17 xs L k18 x3 h) else (if w = 18 then (f_law_c18 xs L k18 x3 h) else (if w = 19 then (f_law_c19 xs L k18 x3 h) else (if w = 20 then (f_law_c20 xs L k18 x3 h) else (if w = 21 then (f_law_c21 xs L k18 x3 h) else (if w = 22 then (f_law_c22 xs L k18 x3 h) else (if w = 23 then (f_law_c23 xs L k18 x3 h) else (if w = 24 then (f_law_c24 xs L k18 x3 h) else (if w = 25 then (f_law_c25 xs L k18 x3 h) else (if w = 26 then (f_law_c26 xs L k18 x3 h) else (if w = 27 then (f_law_c27 xs L k18 x3 h) else (if w = 28 then (f_law_c28 xs L k18 x3 h) else (if w = 29 then (f_law_c29 xs L k18 x3 h) else (if w = 30 then (f_law_c30 xs L k18 x3 h) else (if w = 31 then (f_law_c31 xs L k18 x3 h) else (if w = 32 then (f_law_c32 xs L k18 x3 h) else (if w = 33 then (f_law_c33 xs L k18 x3 h) else (if w = 34 then (f_law_c34 xs L k18 x3 h) else (if w = 35 then (f_law_c35 xs L k18 x3 h) else (if w = 36 then (f_law_c36 xs L k18 x3 h) else (if w = 37 then (f_law_c37 xs L k18 x3 h) else (if w = 38 then (f_law_c38 xs L k18 x3 h) else (if w = 39 then (f_law_c39 xs L k18 x3 h) else (lt (x3 + 5) (fun v1 => k18 v1 h))))))))))))))))))))))))))))))))))))))))))) else none)
set_option maxHeartbeats 4000000 in
set_option maxRecDepth 100000 in
theorem t_law_18 {l : Launch} {D : va_G} {ad : Nat → Nat} {cA : Nat → ClassId} {b L : Nat} {xs : Nat → Int32} {o : Unit} : ∀ (n : Nat) {x3 : Int32} {h : Hp}, lp (F := Int32 → Hp → Option Unit) (fun _ _ => none) (f_law_18 xs L) n x3 h = some o → J l D ad cA (EL b L xs ad) room_1 (600000, 7302250) (QL b) cL_law RL 4 (some .boolean) 18 [(0, .ref b), (1, .ref (ad 0)), (2, .ref (ad 108)), (3, .int x3)] [] h := by
  intro n
  induction n with
  | zero =>
    intro x3 h hf
    have hf : (none : Option Unit) = some o := hf
    cases hf
  | succ n hk18 =>
    intro x3 h hf
    have hf : f_law_18 xs L (lp (F := Int32 → Hp → Option Unit) (fun _ _ => none) (f_law_18 xs L) n) x3 h = some o := hf
    unfold f_law_18 at hf
    refine j_iload_n (pc := 18) 3 dL_law_18 rfl rfl ?_
    refine j_aload_n (pc := 19) 0 dL_law_19 rfl rfl ?_
    refine j_slen (pc := 20) dL_law_20  ?_
    refine j_iconst (pc := 21) dL_law_21 (v := 5) (by decide) ?_
    refine j_isub (pc := 22) dL_law_22  ?_
    refine j_icmp_gt (pc := 23) (tgt := 1388) dL_law_23 (by decide) hf (fun _ hf => ?_) (fun _ hf => ?_)
    · refine j_iconst (pc := 1388) dL_law_1388 (v := 1) (by decide) ?_
      exact j_lawret (pc := 1389) dL_law_1389
    · refine j_aload_n (pc := 26) 0 dL_law_26 rfl rfl ?_
      refine j_iload_n (pc := 27) 3 dL_law_27 rfl rfl ?_
      refine j_sld (pc := 28) dL_law_28 hf (fun hf => ?_)
      refine j_bipush (pc := 29) dL_law_29 (v := 63) (by decide) ?_
      refine j_iand (pc := 31) dL_law_31  ?_
      refine j_nm hf (fun w hf => ?_)
      refine j_ite hf (fun hc0 hf => ?_) (fun hc0 hf => ?_)
      · refine j_tin (pc := 32) (tgt := 208) dL_law_32 (by rw [hc0]; decide) (by rw [hc0]; decide) (by rw [hc0]; rfl) (by decide) ?_
        exact t_law_c0 hk18 hf
      refine j_ite hf (fun hc1 hf => ?_) (fun hc1 hf => ?_)
      · refine j_tin (pc := 32) (tgt := 251) dL_law_32 (by rw [hc1]; decide) (by rw [hc1]; decide) (by rw [hc1]; rfl) (by decide) ?_
        exact t_law_c1 hk18 hf
      refine j_ite hf (fun hc2 hf => ?_) (fun hc2 hf => ?_)
      · refine j_tin (pc := 32) (tgt := 284) dL_law_32 (by rw [hc2]; decide) (by rw [hc2]; decide) (by rw [hc2]; rfl) (by decide) ?_
        exact t_law_c2 hk18 hf
      refine j_ite hf (fun hc3 hf => ?_) (fun hc3 hf => ?_)
      · refine j_tin (pc := 32) (tgt := 317) dL_law_32 (by rw [hc3]; decide) (by rw [hc3]; decide) (by rw [hc3]; rfl) (by decide) ?_
        exact t_law_c3 hk18 hf
      refine j_ite hf (fun hc4 hf => ?_) (fun hc4 hf => ?_)
      · refine j_tin (pc := 32) (tgt := 350) dL_law_32 (by rw [hc4]; decide) (by rw [hc4]; decide) (by rw [hc4]; rfl) (by decide) ?_
        exact t_law_c4 hk18 hf
      refine j_ite hf (fun hc5 hf => ?_) (fun hc5 hf => ?_)
      · refine j_tin (pc := 32) (tgt := 383) dL_law_32 (by rw [hc5]; decide) (by rw [hc5]; decide) (by rw [hc5]; rfl) (by decide) ?_
        exact t_law_c5 hk18 hf
      refine j_ite hf (fun hc6 hf => ?_) (fun hc6 hf => ?_)
      · refine j_tin (pc := 32) (tgt := 406) dL_law_32 (by rw [hc6]; decide) (by rw [hc6]; decide) (by rw [hc6]; rfl) (by decide) ?_
        exact t_law_c6 hk18 hf
      refine j_ite hf (fun hc7 hf => ?_) (fun hc7 hf => ?_)
      · refine j_tin (pc := 32) (tgt := 429) dL_law_32 (by rw [hc7]; decide) (by rw [hc7]; decide) (by rw [hc7]; rfl) (by decide) ?_
        exact t_law_c7 hk18 hf
      refine j_ite hf (fun hc8 hf => ?_) (fun hc8 hf => ?_)
      · refine j_tin (pc := 32) (tgt := 462) dL_law_32 (by rw [hc8]; decide) (by rw [hc8]; decide) (by rw [hc8]; rfl) (by decide) ?_
        exact t_law_c8 hk18 hf
      refine j_ite hf (fun hc9 hf => ?_) (fun hc9 hf => ?_)
      · refine j_tin (pc := 32) (tgt := 485) dL_law_32 (by rw [hc9]; decide) (by rw [hc9]; decide) (by rw [hc9]; rfl) (by decide) ?_
        exact t_law_c9 hk18 hf
      refine j_ite hf (fun hc10 hf => ?_) (fun hc10 hf => ?_)
      · refine j_tin (pc := 32) (tgt := 498) dL_law_32 (by rw [hc10]; decide) (by rw [hc10]; decide) (by rw [hc10]; rfl) (by decide) ?_
        exact t_law_c10 hk18 hf
      refine j_ite hf (fun hc11 hf => ?_) (fun hc11 hf => ?_)
      · refine j_tin (pc := 32) (tgt := 521) dL_law_32 (by rw [hc11]; decide) (by rw [hc11]; decide) (by rw [hc11]; rfl) (by decide) ?_
        exact t_law_c11 hk18 hf
      refine j_ite hf (fun hc12 hf => ?_) (fun hc12 hf => ?_)
      · refine j_tin (pc := 32) (tgt := 534) dL_law_32 (by rw [hc12]; decide) (by rw [hc12]; decide) (by rw [hc12]; rfl) (by decide) ?_
        exact t_law_c12 hk18 hf
      refine j_ite hf (fun hc13 hf => ?_) (fun hc13 hf => ?_)
      · refine j_tin (pc := 32) (tgt := 567) dL_law_32 (by rw [hc13]; decide) (by rw [hc13]; decide) (by rw [hc13]; rfl) (by decide) ?_
        exact t_law_c13 hk18 hf
      refine j_ite hf (fun hc14 hf => ?_) (fun hc14 hf => ?_)
      · refine j_tin (pc := 32) (tgt := 600) dL_law_32 (by rw [hc14]; decide) (by rw [hc14]; decide) (by rw [hc14]; rfl) (by decide) ?_
        exact t_law_c14 hk18 hf
      refine j_ite hf (fun hc15 hf => ?_) (fun hc15 hf => ?_)
      · refine j_tin (pc := 32) (tgt := 633) dL_law_32 (by rw [hc15]; decide) (by rw [hc15]; decide) (by rw [hc15]; rfl) (by decide) ?_
        exact t_law_c15 hk18 hf
      refine j_ite hf (fun hc16 hf => ?_) (fun hc16 hf => ?_)
      · refine j_tin (pc := 32) (tgt := 656) dL_law_32 (by rw [hc16]; decide) (by rw [hc16]; decide) (by rw [hc16]; rfl) (by decide) ?_
        exact t_law_c16 hk18 hf
      refine j_ite hf (fun hc17 hf => ?_) (fun hc17 hf => ?_)
      · refine j_tin (pc := 32) (tgt := 699) dL_law_32 (by rw [hc17]; decide) (by rw [hc17]; decide) (by rw [hc17]; rfl) (by decide) ?_
        exact t_law_c17 hk18 hf
      refine j_ite hf (fun hc18 hf => ?_) (fun hc18 hf => ?_)
      · refine j_tin (pc := 32) (tgt := 732) dL_law_32 (by rw [hc18]; decide) (by rw [hc18]; decide) (by rw [hc18]; rfl) (by decide) ?_
        exact t_law_c18 hk18 hf
      refine j_ite hf (fun hc19 hf => ?_) (fun hc19 hf => ?_)
      · refine j_tin (pc := 32) (tgt := 755) dL_law_32 (by rw [hc19]; decide) (by rw [hc19]; decide) (by rw [hc19]; rfl) (by decide) ?_
        exact t_law_c19 hk18 hf
      refine j_ite hf (fun hc20 hf => ?_) (fun hc20 hf => ?_)
      · refine j_tin (pc := 32) (tgt := 799) dL_law_32 (by rw [hc20]; decide) (by rw [hc20]; decide) (by rw [hc20]; rfl) (by decide) ?_
        exact t_law_c20 hk18 hf
      refine j_ite hf (fun hc21 hf => ?_) (fun hc21 hf => ?_)
      · refine j_tin (pc := 32) (tgt := 843) dL_law_32 (by rw [hc21]; decide) (by rw [hc21]; decide) (by rw [hc21]; rfl) (by decide) ?_
        exact t_law_c21 hk18 hf
      refine j_ite hf (fun hc22 hf => ?_) (fun hc22 hf => ?_)
      · refine j_tin (pc := 32) (tgt := 866) dL_law_32 (by rw [hc22]; decide) (by rw [hc22]; decide) (by rw [hc22]; rfl) (by decide) ?_
        exact t_law_c22 hk18 hf
      refine j_ite hf (fun hc23 hf => ?_) (fun hc23 hf => ?_)
      · refine j_tin (pc := 32) (tgt := 889) dL_law_32 (by rw [hc23]; decide) (by rw [hc23]; decide) (by rw [hc23]; rfl) (by decide) ?_
        exact t_law_c23 hk18 hf
      refine j_ite hf (fun hc24 hf => ?_) (fun hc24 hf => ?_)
      · refine j_tin (pc := 32) (tgt := 942) dL_law_32 (by rw [hc24]; decide) (by rw [hc24]; decide) (by rw [hc24]; rfl) (by decide) ?_
        exact t_law_c24 hk18 hf
      refine j_ite hf (fun hc25 hf => ?_) (fun hc25 hf => ?_)
      · refine j_tin (pc := 32) (tgt := 985) dL_law_32 (by rw [hc25]; decide) (by rw [hc25]; decide) (by rw [hc25]; rfl) (by decide) ?_
        exact t_law_c25 hk18 hf
      refine j_ite hf (fun hc26 hf => ?_) (fun hc26 hf => ?_)
      · refine j_tin (pc := 32) (tgt := 1008) dL_law_32 (by rw [hc26]; decide) (by rw [hc26]; decide) (by rw [hc26]; rfl) (by decide) ?_
        exact t_law_c26 hk18 hf
      refine j_ite hf (fun hc27 hf => ?_) (fun hc27 hf => ?_)
      · refine j_tin (pc := 32) (tgt := 1031) dL_law_32 (by rw [hc27]; decide) (by rw [hc27]; decide) (by rw [hc27]; rfl) (by decide) ?_
        exact t_law_c27 hk18 hf
      refine j_ite hf (fun hc28 hf => ?_) (fun hc28 hf => ?_)
      · refine j_tin (pc := 32) (tgt := 1044) dL_law_32 (by rw [hc28]; decide) (by rw [hc28]; decide) (by rw [hc28]; rfl) (by decide) ?_
        exact t_law_c28 hk18 hf
      refine j_ite hf (fun hc29 hf => ?_) (fun hc29 hf => ?_)
      · refine j_tin (pc := 32) (tgt := 1077) dL_law_32 (by rw [hc29]; decide) (by rw [hc29]; decide) (by rw [hc29]; rfl) (by decide) ?_
        exact t_law_c29 hk18 hf
      refine j_ite hf (fun hc30 hf => ?_) (fun hc30 hf => ?_)
      · refine j_tin (pc := 32) (tgt := 1121) dL_law_32 (by rw [hc30]; decide) (by rw [hc30]; decide) (by rw [hc30]; rfl) (by decide) ?_
        exact t_law_c30 hk18 hf
      refine j_ite hf (fun hc31 hf => ?_) (fun hc31 hf => ?_)
      · refine j_tin (pc := 32) (tgt := 1164) dL_law_32 (by rw [hc31]; decide) (by rw [hc31]; decide) (by rw [hc31]; rfl) (by decide) ?_
        exact t_law_c31 hk18 hf
      refine j_ite hf (fun hc32 hf => ?_) (fun hc32 hf => ?_)
      · refine j_tin (pc := 32) (tgt := 1177) dL_law_32 (by rw [hc32]; decide) (by rw [hc32]; decide) (by rw [hc32]; rfl) (by decide) ?_
        exact t_law_c32 hk18 hf
      refine j_ite hf (fun hc33 hf => ?_) (fun hc33 hf => ?_)
      · refine j_tin (pc := 32) (tgt := 1190) dL_law_32 (by rw [hc33]; decide) (by rw [hc33]; decide) (by rw [hc33]; rfl) (by decide) ?_
        exact t_law_c33 hk18 hf
      refine j_ite hf (fun hc34 hf => ?_) (fun hc34 hf => ?_)
      · refine j_tin (pc := 32) (tgt := 1213) dL_law_32 (by rw [hc34]; decide) (by rw [hc34]; decide) (by rw [hc34]; rfl) (by decide) ?_
        exact t_law_c34 hk18 hf
      refine j_ite hf (fun hc35 hf => ?_) (fun hc35 hf => ?_)
      · refine j_tin (pc := 32) (tgt := 1246) dL_law_32 (by rw [hc35]; decide) (by rw [hc35]; decide) (by rw [hc35]; rfl) (by decide) ?_
        exact t_law_c35 hk18 hf
      refine j_ite hf (fun hc36 hf => ?_) (fun hc36 hf => ?_)
      · refine j_tin (pc := 32) (tgt := 1289) dL_law_32 (by rw [hc36]; decide) (by rw [hc36]; decide) (by rw [hc36]; rfl) (by decide) ?_
        exact t_law_c36 hk18 hf
      refine j_ite hf (fun hc37 hf => ?_) (fun hc37 hf => ?_)
      · refine j_tin (pc := 32) (tgt := 1323) dL_law_32 (by rw [hc37]; decide) (by rw [hc37]; decide) (by rw [hc37]; rfl) (by decide) ?_
        exact t_law_c37 hk18 hf
      refine j_ite hf (fun hc38 hf => ?_) (fun hc38 hf => ?_)
      · refine j_tin (pc := 32) (tgt := 1356) dL_law_32 (by rw [hc38]; decide) (by rw [hc38]; decide) (by rw [hc38]; rfl) (by decide) ?_
        exact t_law_c38 hk18 hf
      refine j_ite hf (fun hc39 hf => ?_) (fun hc39 hf => ?_)
      · refine j_tin (pc := 32) (tgt := 1369) dL_law_32 (by rw [hc39]; decide) (by rw [hc39]; decide) (by rw [hc39]; rfl) (by decide) ?_
        exact t_law_c39 hk18 hf
      refine j_tout (pc := 32) (tgt := 1382) dL_law_32 (tsw (lo := 0) (hi := 39) (by decide) (fun j h1 h2 => by
          rcases (show j = 0 ∨ j = 1 ∨ j = 2 ∨ j = 3 ∨ j = 4 ∨ j = 5 ∨ j = 6 ∨ j = 7 ∨ j = 8 ∨ j = 9 ∨ j = 10 ∨ j = 11 ∨ j = 12 ∨ j = 13 ∨ j = 14 ∨ j = 15 ∨ j = 16 ∨ j = 17 ∨ j = 18 ∨ j = 19 ∨ j = 20 ∨ j = 21 ∨ j = 22 ∨ j = 23 ∨ j = 24 ∨ j = 25 ∨ j = 26 ∨ j = 27 ∨ j = 28 ∨ j = 29 ∨ j = 30 ∨ j = 31 ∨ j = 32 ∨ j = 33 ∨ j = 34 ∨ j = 35 ∨ j = 36 ∨ j = 37 ∨ j = 38 ∨ j = 39 by omega) with rfl | rfl | rfl | rfl | rfl | rfl | rfl | rfl | rfl | rfl | rfl | rfl | rfl | rfl | rfl | rfl | rfl | rfl | rfl | rfl | rfl | rfl | rfl | rfl | rfl | rfl | rfl | rfl | rfl | rfl | rfl | rfl | rfl | rfl | rfl | rfl | rfl | rfl | rfl | rfl
          · exact hc0
          · exact hc1
          · exact hc2
          · exact hc3
          · exact hc4
          · exact hc5
          · exact hc6
          · exact hc7
          · exact hc8
          · exact hc9
          · exact hc10
          · exact hc11
          · exact hc12
          · exact hc13
          · exact hc14
          · exact hc15
          · exact hc16
          · exact hc17
          · exact hc18
          · exact hc19
          · exact hc20
          · exact hc21
          · exact hc22
          · exact hc23
          · exact hc24
          · exact hc25
          · exact hc26
          · exact hc27
          · exact hc28
          · exact hc29
          · exact hc30
          · exact hc31
          · exact hc32
          · exact hc33
          · exact hc34
          · exact hc35
          · exact hc36
          · exact hc37
          · exact hc38
          · exact hc39)) (by decide) ?_
      refine j_iinc (pc := 1382) 3 (c := 5) (lv' := fun v1 => [(3, .int v1), (0, .ref b), (1, .ref (ad 0)), (2, .ref (ad 108))]) dL_law_1382 rfl (by decide) (by decide) (fun _ => rfl) hf (fun v1 hf => ?_)
      refine j_goto (pc := 1385) (tgt := 18) dL_law_1385 (by decide) ?_
      refine j_sub [1, 2, 3, 0] rfl ?_
      exact hk18 hf
