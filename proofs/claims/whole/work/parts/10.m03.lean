def f_X3_planMarkBelow (a0 : Nat) (h : Hp) : Option (Int64 × Hp) := (f_X3_priceAbove a0 (h.1 a0 5) 1 1 h).bind (fun q1 => some (q1.1, q1.2))
set_option maxHeartbeats 4000000 in
set_option maxRecDepth 100000 in
theorem t_X3_planMarkBelow {l : Launch} {D : va_G} {ad : Nat → Nat} {cA : Nat → ClassId} {d : Nat} (hdp : 1 ≤ d) {a0 : Nat} (k0 : kd a0 = 3) {h : Hp} {o : Int64 × Hp} (hf : f_X3_planMarkBelow a0 h = some o) : Cr l D ad cA d yX3_planMarkBelow cX3_planMarkBelow 1 (some .long) [.ref (ad a0)] h (some (.long o.1)) o.2 := by
  obtain ⟨d, rfl⟩ : ∃ e, d = e + 1 := ⟨d - 1, by omega⟩
  have hdp : 0 ≤ d := by omega
  unfold f_X3_planMarkBelow at hf
  refine Cr_of (by decide +kernel) rfl (Nat.le_of_ble_eq_true rfl) (lv0 := [(0, .ref (ad a0))]) rfl ?_
  refine j_aload_n (pc := 0) 0 dX3_planMarkBelow_0 rfl rfl ?_
  refine j_aload_n (pc := 1) 0 dX3_planMarkBelow_1 rfl rfl ?_
  refine j_getI (pc := 2) dX3_planMarkBelow_2 fl114 k0 (by decide) rfl ?_
  refine j_lconst (pc := 5) dX3_planMarkBelow_5 (v := 1) rfl ?_
  refine j_iconst (pc := 6) dX3_planMarkBelow_6 (v := 1) (by decide) ?_
  refine j_callVl (pc := 7) (d := d) (As := [.int (h.1 a0 5), .long 1, .int 1]) (st := []) dX3_planMarkBelow_7 s698 k0 (by decide) rfl rfl (by decide) (Nat.le_of_ble_eq_true rfl) (fun q hq => t_X3_priceAbove k0 hq) hf (fun q1 hf => ?_)
  exact j_lret (pc := 10) dX3_planMarkBelow_10 rfl hf
def f_X3_sumOfWard_4 (k4 : Nat → Int32 → Int32 → Int32 → Hp → Option (Int32 × Hp)) (a0 : Nat) (x1 : Int32) (x2 : Int32) (x3 : Int32) (h : Hp) : Option (Int32 × Hp) := if 6 ≤ x3 then (some (x2, h)) else ((f_X8_cellOf x1 x3 h).bind (fun q1 => if ix q1.1 24 = true then (lt (x2 + (q1.2.1 (a0 + 1) (Int32.toNatClampNeg q1.1))) (fun v2 => lt (x3 + 1) (fun v3 => k4 a0 x1 v2 v3 q1.2))) else none))
set_option maxHeartbeats 4000000 in
set_option maxRecDepth 100000 in
theorem t_X3_sumOfWard_4 {l : Launch} {D : va_G} {ad : Nat → Nat} {cA : Nat → ClassId} {d : Nat} (hdp : 0 ≤ d) {o : Int32 × Hp}  : ∀ (n : Nat) {a0 : Nat} {x1 : Int32} {x2 : Int32} {x3 : Int32} (k0 : kd a0 = 3) {h : Hp}, lp (F := Nat → Int32 → Int32 → Int32 → Hp → Option (Int32 × Hp)) (fun _ _ _ _ _ => none) (f_X3_sumOfWard_4) n a0 x1 x2 x3 h = some o → J l D ad cA (fun _ => True) (rmd (d + 1)) (0, 0) (mQ D ad cA (some (.int o.1)) o.2) cX3_sumOfWard RX3 4 (some .int) 4 [(0, .ref (ad a0)), (1, .int x1), (2, .int x2), (3, .int x3)] [] h := by
  intro n
  induction n with
  | zero =>
    intro a0 x1 x2 x3 k0 h hf
    have hf : (none : Option (Int32 × Hp)) = some o := hf
    cases hf
  | succ n hk4 =>
    intro a0 x1 x2 x3 k0 h hf
    have hf : f_X3_sumOfWard_4  (lp (F := Nat → Int32 → Int32 → Int32 → Hp → Option (Int32 × Hp)) (fun _ _ _ _ _ => none) (f_X3_sumOfWard_4) n) a0 x1 x2 x3 h = some o := hf
    unfold f_X3_sumOfWard_4 at hf
    refine j_iload_n (pc := 4) 3 dX3_sumOfWard_4 rfl rfl ?_
    refine j_bipush (pc := 5) dX3_sumOfWard_5 (v := 6) (by decide) ?_
    refine j_icmp_ge (pc := 7) (tgt := 29) dX3_sumOfWard_7 (by decide) hf (fun _ hf => ?_) (fun _ hf => ?_)
    · refine j_iload_n (pc := 29) 2 dX3_sumOfWard_29 rfl rfl ?_
      exact j_iret (pc := 30) dX3_sumOfWard_30 rfl hf
    · refine j_iload_n (pc := 10) 2 dX3_sumOfWard_10 rfl rfl ?_
      refine j_aload_n (pc := 11) 0 dX3_sumOfWard_11 rfl rfl ?_
      refine j_getR (pc := 12) (n := 1) dX3_sumOfWard_12 fl98 k0 (by decide) rfl ?_
      refine j_iload_n (pc := 15) 1 dX3_sumOfWard_15 rfl rfl ?_
      refine j_iload_n (pc := 16) 3 dX3_sumOfWard_16 rfl rfl ?_
      refine j_callNi (pc := 17) (d := d) (As := [.int x1, .int x3]) (st := [.ref (ad (a0 + 1)), .int x2]) dX3_sumOfWard_17 s393 rfl rfl (by decide) (Nat.le_of_ble_eq_true rfl) (fun q hq => t_X8_cellOf  hq) hf (fun q1 hf => ?_)
      refine j_iaload (pc := 20) dX3_sumOfWard_20 (lk_3_0 k0) (ll_3_0 k0) hf (fun _ hf => ?_)
      refine j_iadd (pc := 21) dX3_sumOfWard_21  ?_
      refine j_istore_nN (pc := 22) (lv' := fun v2 => [(2, .int v2), (0, .ref (ad a0)), (1, .int x1), (3, .int x3)]) dX3_sumOfWard_22 rfl (by decide) (fun _ => rfl) hf (fun v2 hf => ?_)
      refine j_iinc (pc := 23) 3 (c := 1) (lv' := fun v3 => [(3, .int v3), (2, .int v2), (0, .ref (ad a0)), (1, .int x1)]) dX3_sumOfWard_23 rfl (by decide) (by decide) (fun _ => rfl) hf (fun v3 hf => ?_)
      refine j_goto (pc := 26) (tgt := 4) dX3_sumOfWard_26 (by decide) ?_
      refine j_sub [2, 3, 1, 0] rfl ?_
      exact hk4 k0 hf
def f_X3_sumOfWard (a0 : Nat) (x1 : Int32) (h : Hp) : Option (Int32 × Hp) := lp (F := Nat → Int32 → Int32 → Int32 → Hp → Option (Int32 × Hp)) (fun _ _ _ _ _ => none) (f_X3_sumOfWard_4) 1000 a0 x1 0 0 h
set_option maxHeartbeats 4000000 in
set_option maxRecDepth 100000 in
theorem t_X3_sumOfWard {l : Launch} {D : va_G} {ad : Nat → Nat} {cA : Nat → ClassId} {d : Nat} (hdp : 1 ≤ d) {a0 : Nat} {x1 : Int32} (k0 : kd a0 = 3) {h : Hp} {o : Int32 × Hp} (hf : f_X3_sumOfWard a0 x1 h = some o) : Cr l D ad cA d yX3_sumOfWard cX3_sumOfWard 4 (some .int) [.ref (ad a0), .int x1] h (some (.int o.1)) o.2 := by
  obtain ⟨d, rfl⟩ : ∃ e, d = e + 1 := ⟨d - 1, by omega⟩
  have hdp : 0 ≤ d := by omega
  unfold f_X3_sumOfWard at hf
  refine Cr_of (by decide +kernel) rfl (Nat.le_of_ble_eq_true rfl) (lv0 := [(0, .ref (ad a0)), (1, .int x1)]) rfl ?_
  refine j_iconst (pc := 0) dX3_sumOfWard_0 (v := 0) (by decide) ?_
  refine j_istore_n (pc := 1) (lv' := [(2, .int 0), (0, .ref (ad a0)), (1, .int x1)]) dX3_sumOfWard_1 rfl (by decide) rfl ?_
  refine j_iconst (pc := 2) dX3_sumOfWard_2 (v := 0) (by decide) ?_
  refine j_istore_n (pc := 3) (lv' := [(3, .int 0), (2, .int 0), (0, .ref (ad a0)), (1, .int x1)]) dX3_sumOfWard_3 rfl (by decide) rfl ?_
  refine j_sub [2, 3, 1, 0] rfl ?_
  exact t_X3_sumOfWard_4 hdp  1000 k0 hf
def f_X3_totalOf_4 (k4 : Nat → Int32 → Int32 → Int32 → Hp → Option (Int32 × Hp)) (a0 : Nat) (x1 : Int32) (x2 : Int32) (x3 : Int32) (h : Hp) : Option (Int32 × Hp) := if 4 ≤ x3 then (some (x2, h)) else ((f_X8_cellOf x3 x1 h).bind (fun q1 => if ix q1.1 24 = true then (lt (x2 + (q1.2.1 (a0 + 1) (Int32.toNatClampNeg q1.1))) (fun v2 => lt (x3 + 1) (fun v3 => k4 a0 x1 v2 v3 q1.2))) else none))
set_option maxHeartbeats 4000000 in
set_option maxRecDepth 100000 in
theorem t_X3_totalOf_4 {l : Launch} {D : va_G} {ad : Nat → Nat} {cA : Nat → ClassId} {d : Nat} (hdp : 0 ≤ d) {o : Int32 × Hp}  : ∀ (n : Nat) {a0 : Nat} {x1 : Int32} {x2 : Int32} {x3 : Int32} (k0 : kd a0 = 3) {h : Hp}, lp (F := Nat → Int32 → Int32 → Int32 → Hp → Option (Int32 × Hp)) (fun _ _ _ _ _ => none) (f_X3_totalOf_4) n a0 x1 x2 x3 h = some o → J l D ad cA (fun _ => True) (rmd (d + 1)) (0, 0) (mQ D ad cA (some (.int o.1)) o.2) cX3_totalOf RX3 4 (some .int) 4 [(0, .ref (ad a0)), (1, .int x1), (2, .int x2), (3, .int x3)] [] h := by
  intro n
  induction n with
  | zero =>
    intro a0 x1 x2 x3 k0 h hf
    have hf : (none : Option (Int32 × Hp)) = some o := hf
    cases hf
  | succ n hk4 =>
    intro a0 x1 x2 x3 k0 h hf
    have hf : f_X3_totalOf_4  (lp (F := Nat → Int32 → Int32 → Int32 → Hp → Option (Int32 × Hp)) (fun _ _ _ _ _ => none) (f_X3_totalOf_4) n) a0 x1 x2 x3 h = some o := hf
    unfold f_X3_totalOf_4 at hf
    refine j_iload_n (pc := 4) 3 dX3_totalOf_4 rfl rfl ?_
    refine j_iconst (pc := 5) dX3_totalOf_5 (v := 4) (by decide) ?_
    refine j_icmp_ge (pc := 6) (tgt := 28) dX3_totalOf_6 (by decide) hf (fun _ hf => ?_) (fun _ hf => ?_)
    · refine j_iload_n (pc := 28) 2 dX3_totalOf_28 rfl rfl ?_
      exact j_iret (pc := 29) dX3_totalOf_29 rfl hf
    · refine j_iload_n (pc := 9) 2 dX3_totalOf_9 rfl rfl ?_
      refine j_aload_n (pc := 10) 0 dX3_totalOf_10 rfl rfl ?_
      refine j_getR (pc := 11) (n := 1) dX3_totalOf_11 fl98 k0 (by decide) rfl ?_
      refine j_iload_n (pc := 14) 3 dX3_totalOf_14 rfl rfl ?_
      refine j_iload_n (pc := 15) 1 dX3_totalOf_15 rfl rfl ?_
      refine j_callNi (pc := 16) (d := d) (As := [.int x3, .int x1]) (st := [.ref (ad (a0 + 1)), .int x2]) dX3_totalOf_16 s393 rfl rfl (by decide) (Nat.le_of_ble_eq_true rfl) (fun q hq => t_X8_cellOf  hq) hf (fun q1 hf => ?_)
      refine j_iaload (pc := 19) dX3_totalOf_19 (lk_3_0 k0) (ll_3_0 k0) hf (fun _ hf => ?_)
      refine j_iadd (pc := 20) dX3_totalOf_20  ?_
      refine j_istore_nN (pc := 21) (lv' := fun v2 => [(2, .int v2), (0, .ref (ad a0)), (1, .int x1), (3, .int x3)]) dX3_totalOf_21 rfl (by decide) (fun _ => rfl) hf (fun v2 hf => ?_)
      refine j_iinc (pc := 22) 3 (c := 1) (lv' := fun v3 => [(3, .int v3), (2, .int v2), (0, .ref (ad a0)), (1, .int x1)]) dX3_totalOf_22 rfl (by decide) (by decide) (fun _ => rfl) hf (fun v3 hf => ?_)
      refine j_goto (pc := 25) (tgt := 4) dX3_totalOf_25 (by decide) ?_
      refine j_sub [2, 3, 1, 0] rfl ?_
      exact hk4 k0 hf
def f_X3_totalOf (a0 : Nat) (x1 : Int32) (h : Hp) : Option (Int32 × Hp) := lp (F := Nat → Int32 → Int32 → Int32 → Hp → Option (Int32 × Hp)) (fun _ _ _ _ _ => none) (f_X3_totalOf_4) 1000 a0 x1 0 0 h
set_option maxHeartbeats 4000000 in
set_option maxRecDepth 100000 in
theorem t_X3_totalOf {l : Launch} {D : va_G} {ad : Nat → Nat} {cA : Nat → ClassId} {d : Nat} (hdp : 1 ≤ d) {a0 : Nat} {x1 : Int32} (k0 : kd a0 = 3) {h : Hp} {o : Int32 × Hp} (hf : f_X3_totalOf a0 x1 h = some o) : Cr l D ad cA d yX3_totalOf cX3_totalOf 4 (some .int) [.ref (ad a0), .int x1] h (some (.int o.1)) o.2 := by
  obtain ⟨d, rfl⟩ : ∃ e, d = e + 1 := ⟨d - 1, by omega⟩
  have hdp : 0 ≤ d := by omega
  unfold f_X3_totalOf at hf
  refine Cr_of (by decide +kernel) rfl (Nat.le_of_ble_eq_true rfl) (lv0 := [(0, .ref (ad a0)), (1, .int x1)]) rfl ?_
  refine j_iconst (pc := 0) dX3_totalOf_0 (v := 0) (by decide) ?_
  refine j_istore_n (pc := 1) (lv' := [(2, .int 0), (0, .ref (ad a0)), (1, .int x1)]) dX3_totalOf_1 rfl (by decide) rfl ?_
  refine j_iconst (pc := 2) dX3_totalOf_2 (v := 0) (by decide) ?_
  refine j_istore_n (pc := 3) (lv' := [(3, .int 0), (2, .int 0), (0, .ref (ad a0)), (1, .int x1)]) dX3_totalOf_3 rfl (by decide) rfl ?_
  refine j_sub [2, 3, 1, 0] rfl ?_
  exact t_X3_totalOf_4 hdp  1000 k0 hf
def f_X4_weigh_164  (x1 : Int64) (x3 : Int64) (h : Hp) : Option (Int32 × Hp) := if (lg_cmp x1 0) < 0 then (some ((-6), h)) else (if 0 ≤ (lg_cmp x3 0) then (if (lg_cmp x1 x3) ≤ 0 then (some (0, h)) else (some (1, h))) else (some ((-6), h)))
set_option maxHeartbeats 4000000 in
set_option maxRecDepth 100000 in
theorem t_X4_weigh_164 {l : Launch} {D : va_G} {ad : Nat → Nat} {cA : Nat → ClassId} {d : Nat} (hdp : 0 ≤ d) {o : Int32 × Hp}  {x1 : Int64} {x3 : Int64}  {h : Hp} (hf : f_X4_weigh_164  x1 x3 h = some o) : J l D ad cA (fun _ => True) (rmd (d + 1)) (0, 0) (mQ D ad cA (some (.int o.1)) o.2) cX4_weigh RX4 6 (some .int) 164 [(1, .long x1), (3, .long x3)] [] h := by
  unfold f_X4_weigh_164 at hf
  refine j_lload_n (pc := 164) 0 dX4_weigh_164 rfl rfl ?_
  refine j_lconst (pc := 165) dX4_weigh_165 (v := 0) rfl ?_
  refine j_lcmp (pc := 166) dX4_weigh_166  ?_
  refine j_if_lt (pc := 167) (tgt := 176) dX4_weigh_167 (by decide) hf (fun _ hf => ?_) (fun _ hf => ?_)
  · refine j_bipush (pc := 176) dX4_weigh_176 (v := -6) (by decide) ?_
    exact j_iret (pc := 178) dX4_weigh_178 rfl hf
  · refine j_lload_n (pc := 170) 1 dX4_weigh_170 rfl rfl ?_
    refine j_lconst (pc := 171) dX4_weigh_171 (v := 0) rfl ?_
    refine j_lcmp (pc := 172) dX4_weigh_172  ?_
    refine j_if_ge (pc := 173) (tgt := 179) dX4_weigh_173 (by decide) hf (fun _ hf => ?_) (fun _ hf => ?_)
    · refine j_lload_n (pc := 179) 0 dX4_weigh_179 rfl rfl ?_
      refine j_lload_n (pc := 180) 1 dX4_weigh_180 rfl rfl ?_
      refine j_lcmp (pc := 181) dX4_weigh_181  ?_
      refine j_if_le (pc := 182) (tgt := 189) dX4_weigh_182 (by decide) hf (fun _ hf => ?_) (fun _ hf => ?_)
      · refine j_iconst (pc := 189) dX4_weigh_189 (v := 0) (by decide) ?_
        exact j_iret (pc := 190) dX4_weigh_190 rfl hf
      · refine j_iconst (pc := 185) dX4_weigh_185 (v := 1) (by decide) ?_
        refine j_goto (pc := 186) (tgt := 190) dX4_weigh_186 (by decide) ?_
        exact j_iret (pc := 190) dX4_weigh_190 rfl hf
    · refine j_bipush (pc := 176) dX4_weigh_176 (v := -6) (by decide) ?_
      exact j_iret (pc := 178) dX4_weigh_178 rfl hf
def f_X4_weigh_109 (k109 : Nat → Int64 → Int64 → Int32 → Hp → Option (Int32 × Hp)) (a0 : Nat) (x1 : Int64) (x3 : Int64) (x5 : Int32) (h : Hp) : Option (Int32 × Hp) := if (h.1 a0 2) ≤ x5 then (f_X4_weigh_164  x1 x3 h) else (if 4 ≤ x5 then (f_X4_weigh_164  x1 x3 h) else (if ix x5 4 = true then (if ix (h.1 (a0 + 4) (Int32.toNatClampNeg x5)) 24 = true then ((f_X8_product x1 (h.2 (a0 + 8) (Int32.toNatClampNeg (h.1 (a0 + 4) (Int32.toNatClampNeg x5)))) h).bind (fun q7 => if ix x5 4 = true then (if ix (q7.2.1 (a0 + 3) (Int32.toNatClampNeg x5)) 24 = true then ((f_X8_product x3 (q7.2.2 (a0 + 7) (Int32.toNatClampNeg (q7.2.1 (a0 + 3) (Int32.toNatClampNeg x5)))) q7.2).bind (fun q8 => lt (x5 + 1) (fun v9 => k109 a0 q7.1 q8.1 v9 q8.2))) else none) else none)) else none) else none))
set_option maxHeartbeats 4000000 in
set_option maxRecDepth 100000 in
theorem t_X4_weigh_109 {l : Launch} {D : va_G} {ad : Nat → Nat} {cA : Nat → ClassId} {d : Nat} (hdp : 0 ≤ d) {o : Int32 × Hp}  : ∀ (n : Nat) {a0 : Nat} {x1 : Int64} {x3 : Int64} {x5 : Int32} (k0 : kd a0 = 4) {h : Hp}, lp (F := Nat → Int64 → Int64 → Int32 → Hp → Option (Int32 × Hp)) (fun _ _ _ _ _ => none) (f_X4_weigh_109) n a0 x1 x3 x5 h = some o → J l D ad cA (fun _ => True) (rmd (d + 1)) (0, 0) (mQ D ad cA (some (.int o.1)) o.2) cX4_weigh RX4 6 (some .int) 109 [(0, .ref (ad a0)), (1, .long x1), (3, .long x3), (5, .int x5)] [] h := by
  intro n
  induction n with
  | zero =>
    intro a0 x1 x3 x5 k0 h hf
    have hf : (none : Option (Int32 × Hp)) = some o := hf
    cases hf
  | succ n hk109 =>
    intro a0 x1 x3 x5 k0 h hf
    have hf : f_X4_weigh_109  (lp (F := Nat → Int64 → Int64 → Int32 → Hp → Option (Int32 × Hp)) (fun _ _ _ _ _ => none) (f_X4_weigh_109) n) a0 x1 x3 x5 h = some o := hf
    unfold f_X4_weigh_109 at hf
    refine j_iload (pc := 109) 3 dX4_weigh_109 rfl ?_
    refine j_aload_n (pc := 111) 0 dX4_weigh_111 rfl rfl ?_
    refine j_getI (pc := 112) dX4_weigh_112 fl224 k0 (by decide) rfl ?_
    refine j_icmp_ge (pc := 115) (tgt := 164) dX4_weigh_115 (by decide) hf (fun _ hf => ?_) (fun _ hf => ?_)
    · refine j_sub [1, 2] rfl ?_
      exact t_X4_weigh_164 hdp   hf
    · refine j_iload (pc := 118) 3 dX4_weigh_118 rfl ?_
      refine j_iconst (pc := 120) dX4_weigh_120 (v := 4) (by decide) ?_
      refine j_icmp_ge (pc := 121) (tgt := 164) dX4_weigh_121 (by decide) hf (fun _ hf => ?_) (fun _ hf => ?_)
      · refine j_sub [1, 2] rfl ?_
        exact t_X4_weigh_164 hdp   hf
      · refine j_lload_n (pc := 124) 1 dX4_weigh_124 rfl rfl ?_
        refine j_aload_n (pc := 125) 0 dX4_weigh_125 rfl rfl ?_
        refine j_getR (pc := 126) (n := 8) dX4_weigh_126 fl232 k0 (by decide) rfl ?_
        refine j_aload_n (pc := 129) 0 dX4_weigh_129 rfl rfl ?_
        refine j_getR (pc := 130) (n := 4) dX4_weigh_130 fl228 k0 (by decide) rfl ?_
        refine j_iload (pc := 133) 3 dX4_weigh_133 rfl ?_
        refine j_iaload (pc := 135) dX4_weigh_135 (lk_4_6 k0) (ll_4_6 k0) hf (fun _ hf => ?_)
        refine j_laload (pc := 136) dX4_weigh_136 (lk_4_10 k0) (ll_4_10 k0) hf (fun _ hf => ?_)
        refine j_callNl (pc := 137) (d := d) (As := [.long x1, .long (h.2 (a0 + 8) (Int32.toNatClampNeg (h.1 (a0 + 4) (Int32.toNatClampNeg x5))))]) (st := []) dX4_weigh_137 s719 rfl rfl (by decide) (Nat.le_of_ble_eq_true rfl) (fun q hq => t_X8_product  hq) hf (fun q7 hf => ?_)
        refine j_lstore_n (pc := 140) (lv' := [(1, .long q7.1), (0, .ref (ad a0)), (3, .long x3), (5, .int x5)]) dX4_weigh_140 rfl (by decide) rfl ?_
        refine j_lload_n (pc := 141) 2 dX4_weigh_141 rfl rfl ?_
        refine j_aload_n (pc := 142) 1 dX4_weigh_142 rfl rfl ?_
        refine j_getR (pc := 143) (n := 7) dX4_weigh_143 fl231 k0 (by decide) rfl ?_
        refine j_aload_n (pc := 146) 1 dX4_weigh_146 rfl rfl ?_
        refine j_getR (pc := 147) (n := 3) dX4_weigh_147 fl227 k0 (by decide) rfl ?_
        refine j_iload (pc := 150) 3 dX4_weigh_150 rfl ?_
        refine j_iaload (pc := 152) dX4_weigh_152 (lk_4_5 k0) (ll_4_5 k0) hf (fun _ hf => ?_)
        refine j_laload (pc := 153) dX4_weigh_153 (lk_4_9 k0) (ll_4_9 k0) hf (fun _ hf => ?_)
        refine j_callNl (pc := 154) (d := d) (As := [.long x3, .long (q7.2.2 (a0 + 7) (Int32.toNatClampNeg (q7.2.1 (a0 + 3) (Int32.toNatClampNeg x5))))]) (st := []) dX4_weigh_154 s719 rfl rfl (by decide) (Nat.le_of_ble_eq_true rfl) (fun q hq => t_X8_product  hq) hf (fun q8 hf => ?_)
        refine j_lstore_n (pc := 157) (lv' := [(3, .long q8.1), (1, .long q7.1), (0, .ref (ad a0)), (5, .int x5)]) dX4_weigh_157 rfl (by decide) rfl ?_
        refine j_iinc (pc := 158) 3 (c := 1) (lv' := fun v9 => [(5, .int v9), (3, .long q8.1), (1, .long q7.1), (0, .ref (ad a0))]) dX4_weigh_158 rfl (by decide) (by decide) (fun _ => rfl) hf (fun v9 hf => ?_)
        refine j_goto (pc := 161) (tgt := 109) dX4_weigh_161 (by decide) ?_
        refine j_sub [3, 2, 1, 0] rfl ?_
        exact hk109 k0 hf
def f_X4_weigh_106  (a0 : Nat) (x1 : Int64) (x3 : Int64) (h : Hp) : Option (Int32 × Hp) := lp (F := Nat → Int64 → Int64 → Int32 → Hp → Option (Int32 × Hp)) (fun _ _ _ _ _ => none) (f_X4_weigh_109) 1000 a0 x1 x3 0 h
set_option maxHeartbeats 4000000 in
set_option maxRecDepth 100000 in
theorem t_X4_weigh_106 {l : Launch} {D : va_G} {ad : Nat → Nat} {cA : Nat → ClassId} {d : Nat} (hdp : 0 ≤ d) {o : Int32 × Hp}  {a0 : Nat} {x1 : Int64} {x3 : Int64} (k0 : kd a0 = 4) {h : Hp} (hf : f_X4_weigh_106  a0 x1 x3 h = some o) : J l D ad cA (fun _ => True) (rmd (d + 1)) (0, 0) (mQ D ad cA (some (.int o.1)) o.2) cX4_weigh RX4 6 (some .int) 106 [(0, .ref (ad a0)), (1, .long x1), (3, .long x3)] [] h := by
  unfold f_X4_weigh_106 at hf
  refine j_iconst (pc := 106) dX4_weigh_106 (v := 0) (by decide) ?_
  refine j_istore (pc := 107) (lv' := [(5, .int 0), (0, .ref (ad a0)), (1, .long x1), (3, .long x3)]) dX4_weigh_107 (by decide) rfl ?_
  refine j_sub [1, 2, 3, 0] rfl ?_
  exact t_X4_weigh_109 hdp  1000 k0 hf
def f_X4_weigh_67 (k67 : Nat → Int64 → Int64 → Int32 → Hp → Option (Int32 × Hp)) (a0 : Nat) (x1 : Int64) (x3 : Int64) (x5 : Int32) (h : Hp) : Option (Int32 × Hp) := if (h.1 a0 2) ≤ x5 then (f_X4_weigh_106  a0 x1 x3 h) else (if 4 ≤ x5 then (f_X4_weigh_106  a0 x1 x3 h) else ((f_X8_product x1 (h.2 a0 11) h).bind (fun q4 => (f_X8_product x3 (q4.2.2 a0 11) q4.2).bind (fun q5 => lt (x5 + 1) (fun v6 => k67 a0 q4.1 q5.1 v6 q5.2)))))
set_option maxHeartbeats 4000000 in
set_option maxRecDepth 100000 in
theorem t_X4_weigh_67 {l : Launch} {D : va_G} {ad : Nat → Nat} {cA : Nat → ClassId} {d : Nat} (hdp : 0 ≤ d) {o : Int32 × Hp}  : ∀ (n : Nat) {a0 : Nat} {x1 : Int64} {x3 : Int64} {x5 : Int32} (k0 : kd a0 = 4) {h : Hp}, lp (F := Nat → Int64 → Int64 → Int32 → Hp → Option (Int32 × Hp)) (fun _ _ _ _ _ => none) (f_X4_weigh_67) n a0 x1 x3 x5 h = some o → J l D ad cA (fun _ => True) (rmd (d + 1)) (0, 0) (mQ D ad cA (some (.int o.1)) o.2) cX4_weigh RX4 6 (some .int) 67 [(0, .ref (ad a0)), (1, .long x1), (3, .long x3), (5, .int x5)] [] h := by
  intro n
  induction n with
  | zero =>
    intro a0 x1 x3 x5 k0 h hf
    have hf : (none : Option (Int32 × Hp)) = some o := hf
    cases hf
  | succ n hk67 =>
    intro a0 x1 x3 x5 k0 h hf
    have hf : f_X4_weigh_67  (lp (F := Nat → Int64 → Int64 → Int32 → Hp → Option (Int32 × Hp)) (fun _ _ _ _ _ => none) (f_X4_weigh_67) n) a0 x1 x3 x5 h = some o := hf
    unfold f_X4_weigh_67 at hf
    refine j_iload (pc := 67) 3 dX4_weigh_67 rfl ?_
    refine j_aload_n (pc := 69) 0 dX4_weigh_69 rfl rfl ?_
    refine j_getI (pc := 70) dX4_weigh_70 fl224 k0 (by decide) rfl ?_
    refine j_icmp_ge (pc := 73) (tgt := 106) dX4_weigh_73 (by decide) hf (fun _ hf => ?_) (fun _ hf => ?_)
    · refine j_sub [0, 1, 2] rfl ?_
      exact t_X4_weigh_106 hdp  k0 hf
    · refine j_iload (pc := 76) 3 dX4_weigh_76 rfl ?_
      refine j_iconst (pc := 78) dX4_weigh_78 (v := 4) (by decide) ?_
      refine j_icmp_ge (pc := 79) (tgt := 106) dX4_weigh_79 (by decide) hf (fun _ hf => ?_) (fun _ hf => ?_)
      · refine j_sub [0, 1, 2] rfl ?_
        exact t_X4_weigh_106 hdp  k0 hf
      · refine j_lload_n (pc := 82) 1 dX4_weigh_82 rfl rfl ?_
        refine j_aload_n (pc := 83) 0 dX4_weigh_83 rfl rfl ?_
        refine j_getL (pc := 84) dX4_weigh_84 fl233 k0 (by decide) rfl ?_
        refine j_callNl (pc := 87) (d := d) (As := [.long x1, .long (h.2 a0 11)]) (st := []) dX4_weigh_87 s719 rfl rfl (by decide) (Nat.le_of_ble_eq_true rfl) (fun q hq => t_X8_product  hq) hf (fun q4 hf => ?_)
        refine j_lstore_n (pc := 90) (lv' := [(1, .long q4.1), (0, .ref (ad a0)), (3, .long x3), (5, .int x5)]) dX4_weigh_90 rfl (by decide) rfl ?_
        refine j_lload_n (pc := 91) 2 dX4_weigh_91 rfl rfl ?_
        refine j_aload_n (pc := 92) 1 dX4_weigh_92 rfl rfl ?_
        refine j_getL (pc := 93) dX4_weigh_93 fl233 k0 (by decide) rfl ?_
        refine j_callNl (pc := 96) (d := d) (As := [.long x3, .long (q4.2.2 a0 11)]) (st := []) dX4_weigh_96 s719 rfl rfl (by decide) (Nat.le_of_ble_eq_true rfl) (fun q hq => t_X8_product  hq) hf (fun q5 hf => ?_)
        refine j_lstore_n (pc := 99) (lv' := [(3, .long q5.1), (1, .long q4.1), (0, .ref (ad a0)), (5, .int x5)]) dX4_weigh_99 rfl (by decide) rfl ?_
        refine j_iinc (pc := 100) 3 (c := 1) (lv' := fun v6 => [(5, .int v6), (3, .long q5.1), (1, .long q4.1), (0, .ref (ad a0))]) dX4_weigh_100 rfl (by decide) (by decide) (fun _ => rfl) hf (fun v6 hf => ?_)
        refine j_goto (pc := 103) (tgt := 67) dX4_weigh_103 (by decide) ?_
        refine j_sub [3, 2, 1, 0] rfl ?_
        exact hk67 k0 hf
def f_X4_weigh_64  (a0 : Nat) (x1 : Int64) (x3 : Int64) (h : Hp) : Option (Int32 × Hp) := lp (F := Nat → Int64 → Int64 → Int32 → Hp → Option (Int32 × Hp)) (fun _ _ _ _ _ => none) (f_X4_weigh_67) 1000 a0 x1 x3 0 h
set_option maxHeartbeats 4000000 in
set_option maxRecDepth 100000 in
theorem t_X4_weigh_64 {l : Launch} {D : va_G} {ad : Nat → Nat} {cA : Nat → ClassId} {d : Nat} (hdp : 0 ≤ d) {o : Int32 × Hp}  {a0 : Nat} {x1 : Int64} {x3 : Int64} (k0 : kd a0 = 4) {h : Hp} (hf : f_X4_weigh_64  a0 x1 x3 h = some o) : J l D ad cA (fun _ => True) (rmd (d + 1)) (0, 0) (mQ D ad cA (some (.int o.1)) o.2) cX4_weigh RX4 6 (some .int) 64 [(0, .ref (ad a0)), (1, .long x1), (3, .long x3)] [] h := by
  unfold f_X4_weigh_64 at hf
  refine j_iconst (pc := 64) dX4_weigh_64 (v := 0) (by decide) ?_
  refine j_istore (pc := 65) (lv' := [(5, .int 0), (0, .ref (ad a0)), (1, .long x1), (3, .long x3)]) dX4_weigh_65 (by decide) rfl ?_
  refine j_sub [1, 2, 3, 0] rfl ?_
  exact t_X4_weigh_67 hdp  1000 k0 hf
def f_X4_weigh_7 (k7 : Nat → Int64 → Int64 → Int32 → Hp → Option (Int32 × Hp)) (a0 : Nat) (x1 : Int64) (x3 : Int64) (x5 : Int32) (h : Hp) : Option (Int32 × Hp) := if (h.1 a0 2) ≤ x5 then (f_X4_weigh_64  a0 x1 x3 h) else (if 4 ≤ x5 then (f_X4_weigh_64  a0 x1 x3 h) else (if ix x5 4 = true then (if ix (h.1 (a0 + 3) (Int32.toNatClampNeg x5)) 24 = true then ((f_X8_product x1 (Int32.toInt64 (h.1 (a0 + 6) (Int32.toNatClampNeg (h.1 (a0 + 3) (Int32.toNatClampNeg x5))))) h).bind (fun q1 => if ix x5 4 = true then (if ix (q1.2.1 (a0 + 4) (Int32.toNatClampNeg x5)) 24 = true then ((f_X8_product x3 (Int32.toInt64 (q1.2.1 (a0 + 6) (Int32.toNatClampNeg (q1.2.1 (a0 + 4) (Int32.toNatClampNeg x5))))) q1.2).bind (fun q2 => lt (x5 + 1) (fun v3 => k7 a0 q1.1 q2.1 v3 q2.2))) else none) else none)) else none) else none))
set_option maxHeartbeats 4000000 in
set_option maxRecDepth 100000 in
theorem t_X4_weigh_7 {l : Launch} {D : va_G} {ad : Nat → Nat} {cA : Nat → ClassId} {d : Nat} (hdp : 0 ≤ d) {o : Int32 × Hp}  : ∀ (n : Nat) {a0 : Nat} {x1 : Int64} {x3 : Int64} {x5 : Int32} (k0 : kd a0 = 4) {h : Hp}, lp (F := Nat → Int64 → Int64 → Int32 → Hp → Option (Int32 × Hp)) (fun _ _ _ _ _ => none) (f_X4_weigh_7) n a0 x1 x3 x5 h = some o → J l D ad cA (fun _ => True) (rmd (d + 1)) (0, 0) (mQ D ad cA (some (.int o.1)) o.2) cX4_weigh RX4 6 (some .int) 7 [(0, .ref (ad a0)), (1, .long x1), (3, .long x3), (5, .int x5)] [] h := by
  intro n
  induction n with
  | zero =>
    intro a0 x1 x3 x5 k0 h hf
    have hf : (none : Option (Int32 × Hp)) = some o := hf
    cases hf
  | succ n hk7 =>
    intro a0 x1 x3 x5 k0 h hf
    have hf : f_X4_weigh_7  (lp (F := Nat → Int64 → Int64 → Int32 → Hp → Option (Int32 × Hp)) (fun _ _ _ _ _ => none) (f_X4_weigh_7) n) a0 x1 x3 x5 h = some o := hf
    unfold f_X4_weigh_7 at hf
    refine j_iload (pc := 7) 3 dX4_weigh_7 rfl ?_
    refine j_aload_n (pc := 9) 0 dX4_weigh_9 rfl rfl ?_
    refine j_getI (pc := 10) dX4_weigh_10 fl224 k0 (by decide) rfl ?_
    refine j_icmp_ge (pc := 13) (tgt := 64) dX4_weigh_13 (by decide) hf (fun _ hf => ?_) (fun _ hf => ?_)
    · refine j_sub [0, 1, 2] rfl ?_
      exact t_X4_weigh_64 hdp  k0 hf
    · refine j_iload (pc := 16) 3 dX4_weigh_16 rfl ?_
      refine j_iconst (pc := 18) dX4_weigh_18 (v := 4) (by decide) ?_
      refine j_icmp_ge (pc := 19) (tgt := 64) dX4_weigh_19 (by decide) hf (fun _ hf => ?_) (fun _ hf => ?_)
      · refine j_sub [0, 1, 2] rfl ?_
        exact t_X4_weigh_64 hdp  k0 hf
      · refine j_lload_n (pc := 22) 1 dX4_weigh_22 rfl rfl ?_
        refine j_aload_n (pc := 23) 0 dX4_weigh_23 rfl rfl ?_
        refine j_getR (pc := 24) (n := 6) dX4_weigh_24 fl230 k0 (by decide) rfl ?_
        refine j_aload_n (pc := 27) 0 dX4_weigh_27 rfl rfl ?_
        refine j_getR (pc := 28) (n := 3) dX4_weigh_28 fl227 k0 (by decide) rfl ?_
        refine j_iload (pc := 31) 3 dX4_weigh_31 rfl ?_
        refine j_iaload (pc := 33) dX4_weigh_33 (lk_4_5 k0) (ll_4_5 k0) hf (fun _ hf => ?_)
        refine j_iaload (pc := 34) dX4_weigh_34 (lk_4_8 k0) (ll_4_8 k0) hf (fun _ hf => ?_)
        refine j_i2l (pc := 35) dX4_weigh_35  ?_
        refine j_callNl (pc := 36) (d := d) (As := [.long x1, .long (Int32.toInt64 (h.1 (a0 + 6) (Int32.toNatClampNeg (h.1 (a0 + 3) (Int32.toNatClampNeg x5)))))]) (st := []) dX4_weigh_36 s719 rfl rfl (by decide) (Nat.le_of_ble_eq_true rfl) (fun q hq => t_X8_product  hq) hf (fun q1 hf => ?_)
        refine j_lstore_n (pc := 39) (lv' := [(1, .long q1.1), (0, .ref (ad a0)), (3, .long x3), (5, .int x5)]) dX4_weigh_39 rfl (by decide) rfl ?_
        refine j_lload_n (pc := 40) 2 dX4_weigh_40 rfl rfl ?_
        refine j_aload_n (pc := 41) 1 dX4_weigh_41 rfl rfl ?_
        refine j_getR (pc := 42) (n := 6) dX4_weigh_42 fl230 k0 (by decide) rfl ?_
        refine j_aload_n (pc := 45) 1 dX4_weigh_45 rfl rfl ?_
        refine j_getR (pc := 46) (n := 4) dX4_weigh_46 fl228 k0 (by decide) rfl ?_
        refine j_iload (pc := 49) 3 dX4_weigh_49 rfl ?_
        refine j_iaload (pc := 51) dX4_weigh_51 (lk_4_6 k0) (ll_4_6 k0) hf (fun _ hf => ?_)
        refine j_iaload (pc := 52) dX4_weigh_52 (lk_4_8 k0) (ll_4_8 k0) hf (fun _ hf => ?_)
        refine j_i2l (pc := 53) dX4_weigh_53  ?_
        refine j_callNl (pc := 54) (d := d) (As := [.long x3, .long (Int32.toInt64 (q1.2.1 (a0 + 6) (Int32.toNatClampNeg (q1.2.1 (a0 + 4) (Int32.toNatClampNeg x5)))))]) (st := []) dX4_weigh_54 s719 rfl rfl (by decide) (Nat.le_of_ble_eq_true rfl) (fun q hq => t_X8_product  hq) hf (fun q2 hf => ?_)
        refine j_lstore_n (pc := 57) (lv' := [(3, .long q2.1), (1, .long q1.1), (0, .ref (ad a0)), (5, .int x5)]) dX4_weigh_57 rfl (by decide) rfl ?_
        refine j_iinc (pc := 58) 3 (c := 1) (lv' := fun v3 => [(5, .int v3), (3, .long q2.1), (1, .long q1.1), (0, .ref (ad a0))]) dX4_weigh_58 rfl (by decide) (by decide) (fun _ => rfl) hf (fun v3 hf => ?_)
        refine j_goto (pc := 61) (tgt := 7) dX4_weigh_61 (by decide) ?_
        refine j_sub [3, 2, 1, 0] rfl ?_
        exact hk7 k0 hf
def f_X4_weigh (a0 : Nat) (h : Hp) : Option (Int32 × Hp) := lp (F := Nat → Int64 → Int64 → Int32 → Hp → Option (Int32 × Hp)) (fun _ _ _ _ _ => none) (f_X4_weigh_7) 1000 a0 1 1 0 h
set_option maxHeartbeats 4000000 in
set_option maxRecDepth 100000 in
theorem t_X4_weigh {l : Launch} {D : va_G} {ad : Nat → Nat} {cA : Nat → ClassId} {d : Nat} (hdp : 1 ≤ d) {a0 : Nat} (k0 : kd a0 = 4) {h : Hp} {o : Int32 × Hp} (hf : f_X4_weigh a0 h = some o) : Cr l D ad cA d yX4_weigh cX4_weigh 6 (some .int) [.ref (ad a0)] h (some (.int o.1)) o.2 := by
  obtain ⟨d, rfl⟩ : ∃ e, d = e + 1 := ⟨d - 1, by omega⟩
  have hdp : 0 ≤ d := by omega
  unfold f_X4_weigh at hf
  refine Cr_of (by decide +kernel) rfl (Nat.le_of_ble_eq_true rfl) (lv0 := [(0, .ref (ad a0))]) rfl ?_
  refine j_lconst (pc := 0) dX4_weigh_0 (v := 1) rfl ?_
  refine j_lstore_n (pc := 1) (lv' := [(1, .long 1), (0, .ref (ad a0))]) dX4_weigh_1 rfl (by decide) rfl ?_
  refine j_lconst (pc := 2) dX4_weigh_2 (v := 1) rfl ?_
  refine j_lstore_n (pc := 3) (lv' := [(3, .long 1), (1, .long 1), (0, .ref (ad a0))]) dX4_weigh_3 rfl (by decide) rfl ?_
  refine j_iconst (pc := 4) dX4_weigh_4 (v := 0) (by decide) ?_
  refine j_istore (pc := 5) (lv' := [(5, .int 0), (3, .long 1), (1, .long 1), (0, .ref (ad a0))]) dX4_weigh_5 (by decide) rfl ?_
  refine j_sub [3, 2, 1, 0] rfl ?_
  exact t_X4_weigh_7 hdp  1000 k0 hf
def f_X5_putSeats_44 (k2 : Nat → Nat → Int32 → Int32 → Hp → Option (Unit × Hp)) (a0 : Nat) (a1 : Nat) (x2 : Int32) (x3 : Int32) (x4 : Int32) (h : Hp) : Option (Unit × Hp) := if 10 = 0 then none else ((f_X5_putByte a0 (48 + (x4 - x4 / 10 * 10)) h).bind (fun q4 => lt (x3 + 1) (fun v5 => k2 a0 a1 x2 v5 q4.2)))
set_option maxHeartbeats 4000000 in
set_option maxRecDepth 100000 in
theorem t_X5_putSeats_44 {l : Launch} {D : va_G} {ad : Nat → Nat} {cA : Nat → ClassId} {d : Nat} (hdp : 0 ≤ d) {o : Unit × Hp} {k2 : Nat → Nat → Int32 → Int32 → Hp → Option (Unit × Hp)} (hk2 : ∀ {a0 : Nat} {a1 : Nat} {x2 : Int32} {x3 : Int32} (k0 : kd a0 = 5) (k1 : kd a1 = 10) {h : Hp}, k2 a0 a1 x2 x3 h = some o → J l D ad cA (fun _ => True) (rmd (d + 1)) (0, 0) (mQ D ad cA (none) o.2) cX5_putSeats RX5 5 (none) 2 [(0, .ref (ad a0)), (1, .ref (ad a1)), (2, .int x2), (3, .int x3)] [] h) {a0 : Nat} {a1 : Nat} {x2 : Int32} {x3 : Int32} {x4 : Int32} (k0 : kd a0 = 5) (k1 : kd a1 = 10) {h : Hp} (hf : f_X5_putSeats_44 k2 a0 a1 x2 x3 x4 h = some o) : J l D ad cA (fun _ => True) (rmd (d + 1)) (0, 0) (mQ D ad cA (none) o.2) cX5_putSeats RX5 5 (none) 44 [(0, .ref (ad a0)), (1, .ref (ad a1)), (2, .int x2), (3, .int x3), (4, .int x4)] [] h := by
  unfold f_X5_putSeats_44 at hf
  refine j_aload_n (pc := 44) 0 dX5_putSeats_44 rfl rfl ?_
  refine j_bipush (pc := 45) dX5_putSeats_45 (v := 48) (by decide) ?_
  refine j_iload (pc := 47) 4 dX5_putSeats_47 rfl ?_
  refine j_bipush (pc := 49) dX5_putSeats_49 (v := 10) (by decide) ?_
  refine j_irem (pc := 51) dX5_putSeats_51 hf (fun hf => ?_)
  refine j_iadd (pc := 52) dX5_putSeats_52  ?_
  refine j_callVv (pc := 53) (d := d) (As := [.int (48 + (x4 - x4 / 10 * 10))]) (st := []) dX5_putSeats_53 s645 k0 (by decide) rfl rfl (by decide) (Nat.le_of_ble_eq_true rfl) (fun q hq => t_X5_putByte k0 hq) hf (fun q4 hf => ?_)
  refine j_iinc (pc := 56) 3 (c := 1) (lv' := fun v5 => [(3, .int v5), (0, .ref (ad a0)), (1, .ref (ad a1)), (2, .int x2), (4, .int x4)]) dX5_putSeats_56 rfl (by decide) (by decide) (fun _ => rfl) hf (fun v5 hf => ?_)
  refine j_goto (pc := 59) (tgt := 2) dX5_putSeats_59 (by decide) ?_
  refine j_sub [1, 2, 3, 0] rfl ?_
  exact hk2 k0 k1 hf
def f_X5_putSeats_18 (k2 : Nat → Nat → Int32 → Int32 → Hp → Option (Unit × Hp)) (a0 : Nat) (a1 : Nat) (x2 : Int32) (x3 : Int32) (h : Hp) : Option (Unit × Hp) := if ix (x2 + x3) (ln a1) = true then (lt (h.1 a1 (Int32.toNatClampNeg (x2 + x3))) (fun v2 => if v2 < 10 then (f_X5_putSeats_44 k2 a0 a1 x2 x3 v2 h) else (if 10 = 0 then none else ((f_X5_putByte a0 (48 + (v2 / 10)) h).bind (fun q3 => f_X5_putSeats_44 k2 a0 a1 x2 x3 v2 q3.2))))) else none
set_option maxHeartbeats 4000000 in
set_option maxRecDepth 100000 in
theorem t_X5_putSeats_18 {l : Launch} {D : va_G} {ad : Nat → Nat} {cA : Nat → ClassId} {d : Nat} (hdp : 0 ≤ d) {o : Unit × Hp} {k2 : Nat → Nat → Int32 → Int32 → Hp → Option (Unit × Hp)} (hk2 : ∀ {a0 : Nat} {a1 : Nat} {x2 : Int32} {x3 : Int32} (k0 : kd a0 = 5) (k1 : kd a1 = 10) {h : Hp}, k2 a0 a1 x2 x3 h = some o → J l D ad cA (fun _ => True) (rmd (d + 1)) (0, 0) (mQ D ad cA (none) o.2) cX5_putSeats RX5 5 (none) 2 [(0, .ref (ad a0)), (1, .ref (ad a1)), (2, .int x2), (3, .int x3)] [] h) {a0 : Nat} {a1 : Nat} {x2 : Int32} {x3 : Int32} (k0 : kd a0 = 5) (k1 : kd a1 = 10) {h : Hp} (hf : f_X5_putSeats_18 k2 a0 a1 x2 x3 h = some o) : J l D ad cA (fun _ => True) (rmd (d + 1)) (0, 0) (mQ D ad cA (none) o.2) cX5_putSeats RX5 5 (none) 18 [(0, .ref (ad a0)), (1, .ref (ad a1)), (2, .int x2), (3, .int x3)] [] h := by
  unfold f_X5_putSeats_18 at hf
  refine j_aload_n (pc := 18) 1 dX5_putSeats_18 rfl rfl ?_
  refine j_iload_n (pc := 19) 2 dX5_putSeats_19 rfl rfl ?_
  refine j_iload_n (pc := 20) 3 dX5_putSeats_20 rfl rfl ?_
  refine j_iadd (pc := 21) dX5_putSeats_21  ?_
  refine j_iaload (pc := 22) dX5_putSeats_22 k1 rfl hf (fun _ hf => ?_)
  refine j_istoreN (pc := 23) (lv' := fun v2 => [(4, .int v2), (0, .ref (ad a0)), (1, .ref (ad a1)), (2, .int x2), (3, .int x3)]) dX5_putSeats_23 (by decide) (fun _ => rfl) hf (fun v2 hf => ?_)
  refine j_iload (pc := 25) 0 dX5_putSeats_25 rfl ?_
  refine j_bipush (pc := 27) dX5_putSeats_27 (v := 10) (by decide) ?_
  refine j_icmp_lt (pc := 29) (tgt := 44) dX5_putSeats_29 (by decide) hf (fun _ hf => ?_) (fun _ hf => ?_)
  · refine j_sub [1, 2, 3, 4, 0] rfl ?_
    exact t_X5_putSeats_44 hdp hk2 k0 k1 hf
  · refine j_aload_n (pc := 32) 1 dX5_putSeats_32 rfl rfl ?_
    refine j_bipush (pc := 33) dX5_putSeats_33 (v := 48) (by decide) ?_
    refine j_iload (pc := 35) 0 dX5_putSeats_35 rfl ?_
    refine j_bipush (pc := 37) dX5_putSeats_37 (v := 10) (by decide) ?_
    refine j_idiv (pc := 39) dX5_putSeats_39 hf (fun hf => ?_)
    refine j_iadd (pc := 40) dX5_putSeats_40  ?_
    refine j_callVv (pc := 41) (d := d) (As := [.int (48 + (v2 / 10))]) (st := []) dX5_putSeats_41 s645 k0 (by decide) rfl rfl (by decide) (Nat.le_of_ble_eq_true rfl) (fun q hq => t_X5_putByte k0 hq) hf (fun q3 hf => ?_)
    refine j_sub [1, 2, 3, 4, 0] rfl ?_
    exact t_X5_putSeats_44 hdp hk2 k0 k1 hf
def f_X5_putSeats_2 (k2 : Nat → Nat → Int32 → Int32 → Hp → Option (Unit × Hp)) (a0 : Nat) (a1 : Nat) (x2 : Int32) (x3 : Int32) (h : Hp) : Option (Unit × Hp) := if 6 ≤ x3 then (some ((), h)) else (if x3 ≤ 0 then (f_X5_putSeats_18 k2 a0 a1 x2 x3 h) else ((f_X5_putByte a0 44 h).bind (fun q1 => f_X5_putSeats_18 k2 a0 a1 x2 x3 q1.2)))
set_option maxHeartbeats 4000000 in
set_option maxRecDepth 100000 in
theorem t_X5_putSeats_2 {l : Launch} {D : va_G} {ad : Nat → Nat} {cA : Nat → ClassId} {d : Nat} (hdp : 0 ≤ d) {o : Unit × Hp}  : ∀ (n : Nat) {a0 : Nat} {a1 : Nat} {x2 : Int32} {x3 : Int32} (k0 : kd a0 = 5) (k1 : kd a1 = 10) {h : Hp}, lp (F := Nat → Nat → Int32 → Int32 → Hp → Option (Unit × Hp)) (fun _ _ _ _ _ => none) (f_X5_putSeats_2) n a0 a1 x2 x3 h = some o → J l D ad cA (fun _ => True) (rmd (d + 1)) (0, 0) (mQ D ad cA (none) o.2) cX5_putSeats RX5 5 (none) 2 [(0, .ref (ad a0)), (1, .ref (ad a1)), (2, .int x2), (3, .int x3)] [] h := by
  intro n
  induction n with
  | zero =>
    intro a0 a1 x2 x3 k0 k1 h hf
    have hf : (none : Option (Unit × Hp)) = some o := hf
    cases hf
  | succ n hk2 =>
    intro a0 a1 x2 x3 k0 k1 h hf
    have hf : f_X5_putSeats_2  (lp (F := Nat → Nat → Int32 → Int32 → Hp → Option (Unit × Hp)) (fun _ _ _ _ _ => none) (f_X5_putSeats_2) n) a0 a1 x2 x3 h = some o := hf
    unfold f_X5_putSeats_2 at hf
    refine j_iload_n (pc := 2) 3 dX5_putSeats_2 rfl rfl ?_
    refine j_bipush (pc := 3) dX5_putSeats_3 (v := 6) (by decide) ?_
    refine j_icmp_ge (pc := 5) (tgt := 62) dX5_putSeats_5 (by decide) hf (fun _ hf => ?_) (fun _ hf => ?_)
    · exact j_vret (pc := 62) dX5_putSeats_62 rfl hf
    · refine j_iload_n (pc := 8) 3 dX5_putSeats_8 rfl rfl ?_
      refine j_if_le (pc := 9) (tgt := 18) dX5_putSeats_9 (by decide) hf (fun _ hf => ?_) (fun _ hf => ?_)
      · refine j_sub [0, 1, 2, 3] rfl ?_
        exact t_X5_putSeats_18 hdp hk2 k0 k1 hf
      · refine j_aload_n (pc := 12) 0 dX5_putSeats_12 rfl rfl ?_
        refine j_bipush (pc := 13) dX5_putSeats_13 (v := 44) (by decide) ?_
        refine j_callVv (pc := 15) (d := d) (As := [.int 44]) (st := []) dX5_putSeats_15 s645 k0 (by decide) rfl rfl (by decide) (Nat.le_of_ble_eq_true rfl) (fun q hq => t_X5_putByte k0 hq) hf (fun q1 hf => ?_)
        refine j_sub [0, 1, 2, 3] rfl ?_
        exact t_X5_putSeats_18 hdp hk2 k0 k1 hf
def f_X5_putSeats (a0 : Nat) (a1 : Nat) (x2 : Int32) (h : Hp) : Option (Unit × Hp) := lp (F := Nat → Nat → Int32 → Int32 → Hp → Option (Unit × Hp)) (fun _ _ _ _ _ => none) (f_X5_putSeats_2) 1000 a0 a1 x2 0 h
set_option maxHeartbeats 4000000 in
set_option maxRecDepth 100000 in
theorem t_X5_putSeats {l : Launch} {D : va_G} {ad : Nat → Nat} {cA : Nat → ClassId} {d : Nat} (hdp : 1 ≤ d) {a0 : Nat} {a1 : Nat} {x2 : Int32} (k0 : kd a0 = 5) (k1 : kd a1 = 10) {h : Hp} {o : Unit × Hp} (hf : f_X5_putSeats a0 a1 x2 h = some o) : Cr l D ad cA d yX5_putSeats cX5_putSeats 5 (none) [.ref (ad a0), .ref (ad a1), .int x2] h (none) o.2 := by
  obtain ⟨d, rfl⟩ : ∃ e, d = e + 1 := ⟨d - 1, by omega⟩
  have hdp : 0 ≤ d := by omega
  unfold f_X5_putSeats at hf
  refine Cr_of (by decide +kernel) rfl (Nat.le_of_ble_eq_true rfl) (lv0 := [(0, .ref (ad a0)), (1, .ref (ad a1)), (2, .int x2)]) rfl ?_
  refine j_iconst (pc := 0) dX5_putSeats_0 (v := 0) (by decide) ?_
  refine j_istore_n (pc := 1) (lv' := [(3, .int 0), (0, .ref (ad a0)), (1, .ref (ad a1)), (2, .int x2)]) dX5_putSeats_1 rfl (by decide) rfl ?_
  refine j_sub [1, 2, 3, 0] rfl ?_
  exact t_X5_putSeats_2 hdp  1000 k0 k1 hf
def f_X6_makeRow (a0 : Nat) (x1 : Int32) (x2 : Int32) (h : Hp) : Option (Unit × Hp) := if ix x1 4 = true then ((f_J7_fill_53178 (a0 + 1 + 1 + (Int32.toNatClampNeg x1)) 0 h).bind (fun q2 => if ix x1 4 = true then (lt (sI q2.2 (a0 + 6) (Int32.toNatClampNeg x1) x2) (fun m3 => some ((), m3))) else none)) else none
set_option maxHeartbeats 4000000 in
set_option maxRecDepth 100000 in
theorem t_X6_makeRow {l : Launch} {D : va_G} {ad : Nat → Nat} {cA : Nat → ClassId} {d : Nat} (hdp : 1 ≤ d) {a0 : Nat} {x1 : Int32} {x2 : Int32} (k0 : kd a0 = 6) {h : Hp} {o : Unit × Hp} (hf : f_X6_makeRow a0 x1 x2 h = some o) : Cr l D ad cA d yX6_makeRow cX6_makeRow 3 (none) [.ref (ad a0), .int x1, .int x2] h (none) o.2 := by
  obtain ⟨d, rfl⟩ : ∃ e, d = e + 1 := ⟨d - 1, by omega⟩
  have hdp : 0 ≤ d := by omega
  unfold f_X6_makeRow at hf
  refine Cr_of (by decide +kernel) rfl (Nat.le_of_ble_eq_true rfl) (lv0 := [(0, .ref (ad a0)), (1, .int x1), (2, .int x2)]) rfl ?_
  refine j_aload_n (pc := 0) 0 dX6_makeRow_0 rfl rfl ?_
  refine j_getR (pc := 1) (n := 1) dX6_makeRow_1 fl324 k0 (by decide) rfl ?_
  refine j_iload_n (pc := 4) 1 dX6_makeRow_4 rfl rfl ?_
  refine j_aaload (pc := 5) dX6_makeRow_5 (lk_6_0 k0) hf (fun hr1 hf => ?_)
  refine j_iconst (pc := 6) dX6_makeRow_6 (v := 0) (by decide) ?_
  refine j_callSv (pc := 7) (d := d) (As := [.ref (ad (a0 + 1 + 1 + (Int32.toNatClampNeg x1))), .int 0]) (st := []) dX6_makeRow_7 s321 rfl rfl (by decide) (Nat.le_of_ble_eq_true rfl) (fun q hq => t_J7_fill_53178 ((lk_row (lk_6_0 k0) (ix_lt hr1)).1) hq) hf (fun q2 hf => ?_)
  refine j_aload_n (pc := 10) 0 dX6_makeRow_10 rfl rfl ?_
  refine j_getR (pc := 11) (n := 6) dX6_makeRow_11 fl326 k0 (by decide) rfl ?_
  refine j_iload_n (pc := 14) 1 dX6_makeRow_14 rfl rfl ?_
  refine j_iload_n (pc := 15) 2 dX6_makeRow_15 rfl rfl ?_
  refine j_iastore (pc := 16) dX6_makeRow_16 (lk_6_1 k0) (ll_6_1 k0) hf (fun m3 hf => ?_)
  exact j_vret (pc := 17) dX6_makeRow_17 rfl hf
def f_X6_put (a0 : Nat) (x1 : Int32) (x2 : Int32) (x3 : Int32) (h : Hp) : Option (Int32 × Hp) := (f_X6_hasPlace a0 x1 x2 h).bind (fun q1 => if q1.1 = 0 then (if isB 0 = true then some (0, q1.2) else none) else (if ix x1 4 = true then (if ix x2 40 = true then (lt (sI q1.2 (a0 + 1 + 1 + (Int32.toNatClampNeg x1)) (Int32.toNatClampNeg x2) x3) (fun m3 => if isB 1 = true then some (1, m3) else none)) else none) else none))
set_option maxHeartbeats 4000000 in
set_option maxRecDepth 100000 in
theorem t_X6_put {l : Launch} {D : va_G} {ad : Nat → Nat} {cA : Nat → ClassId} {d : Nat} (hdp : 1 ≤ d) {a0 : Nat} {x1 : Int32} {x2 : Int32} {x3 : Int32} (k0 : kd a0 = 6) {h : Hp} {o : Int32 × Hp} (hf : f_X6_put a0 x1 x2 x3 h = some o) : Cr l D ad cA d yX6_put cX6_put 4 (some .boolean) [.ref (ad a0), .int x1, .int x2, .int x3] h (some (.int o.1)) o.2 := by
  obtain ⟨d, rfl⟩ : ∃ e, d = e + 1 := ⟨d - 1, by omega⟩
  have hdp : 0 ≤ d := by omega
  unfold f_X6_put at hf
  refine Cr_of (by decide +kernel) rfl (Nat.le_of_ble_eq_true rfl) (lv0 := [(0, .ref (ad a0)), (1, .int x1), (2, .int x2), (3, .int x3)]) rfl ?_
  refine j_aload_n (pc := 0) 0 dX6_put_0 rfl rfl ?_
  refine j_iload_n (pc := 1) 1 dX6_put_1 rfl rfl ?_
  refine j_iload_n (pc := 2) 2 dX6_put_2 rfl rfl ?_
  refine j_callVi (pc := 3) (d := d) (As := [.int x1, .int x2]) (st := []) dX6_put_3 s814 k0 (by decide) rfl rfl (by decide) (Nat.le_of_ble_eq_true rfl) (fun q hq => t_X6_hasPlace k0 hq) hf (fun q1 hf => ?_)
  refine j_if_ne (pc := 6) (tgt := 11) dX6_put_6 (by decide) hf (fun _ hf => ?_) (fun _ hf => ?_)
  · refine j_aload_n (pc := 11) 0 dX6_put_11 rfl rfl ?_
    refine j_getR (pc := 12) (n := 1) dX6_put_12 fl324 k0 (by decide) rfl ?_
    refine j_iload_n (pc := 15) 1 dX6_put_15 rfl rfl ?_
    refine j_aaload (pc := 16) dX6_put_16 (lk_6_0 k0) hf (fun hr2 hf => ?_)
    refine j_iload_n (pc := 17) 2 dX6_put_17 rfl rfl ?_
    refine j_iload_n (pc := 18) 3 dX6_put_18 rfl rfl ?_
    refine j_iastore (pc := 19) dX6_put_19 ((lk_row (lk_6_0 k0) (ix_lt hr2)).1) ((lk_row (lk_6_0 k0) (ix_lt hr2)).2) hf (fun m3 hf => ?_)
    refine j_iconst (pc := 20) dX6_put_20 (v := 1) (by decide) ?_
    exact j_zret (pc := 21) dX6_put_21 rfl hf
  · refine j_iconst (pc := 9) dX6_put_9 (v := 0) (by decide) ?_
    exact j_zret (pc := 10) dX6_put_10 rfl hf
def f_X7_figuresAt_2 (k2 : Nat → Int32 → Int32 → Hp → Option (Int32 × Hp)) (a0 : Nat) (x1 : Int32) (x2 : Int32) (h : Hp) : Option (Int32 × Hp) := if 6 ≤ x2 then (some (x2, h)) else (if (h.1 a0 1) ≤ (x1 + x2) then (some (x2, h)) else (if ix (x1 + x2) 120 = true then ((f_X7_isFigure (h.1 (a0 + 1) (Int32.toNatClampNeg (x1 + x2))) h).bind (fun q1 => if q1.1 = 0 then (some (x2, q1.2)) else (lt (x2 + 1) (fun v2 => k2 a0 x1 v2 q1.2)))) else none))
set_option maxHeartbeats 4000000 in
set_option maxRecDepth 100000 in
theorem t_X7_figuresAt_2 {l : Launch} {D : va_G} {ad : Nat → Nat} {cA : Nat → ClassId} {d : Nat} (hdp : 0 ≤ d) {o : Int32 × Hp}  : ∀ (n : Nat) {a0 : Nat} {x1 : Int32} {x2 : Int32} (k0 : kd a0 = 7) {h : Hp}, lp (F := Nat → Int32 → Int32 → Hp → Option (Int32 × Hp)) (fun _ _ _ _ => none) (f_X7_figuresAt_2) n a0 x1 x2 h = some o → J l D ad cA (fun _ => True) (rmd (d + 1)) (0, 0) (mQ D ad cA (some (.int o.1)) o.2) cX7_figuresAt RX7 3 (some .int) 2 [(0, .ref (ad a0)), (1, .int x1), (2, .int x2)] [] h := by
  intro n
  induction n with
  | zero =>
    intro a0 x1 x2 k0 h hf
    have hf : (none : Option (Int32 × Hp)) = some o := hf
    cases hf
  | succ n hk2 =>
    intro a0 x1 x2 k0 h hf
    have hf : f_X7_figuresAt_2  (lp (F := Nat → Int32 → Int32 → Hp → Option (Int32 × Hp)) (fun _ _ _ _ => none) (f_X7_figuresAt_2) n) a0 x1 x2 h = some o := hf
    unfold f_X7_figuresAt_2 at hf
    refine j_iload_n (pc := 2) 2 dX7_figuresAt_2 rfl rfl ?_
    refine j_bipush (pc := 3) dX7_figuresAt_3 (v := 6) (by decide) ?_
    refine j_icmp_ge (pc := 5) (tgt := 38) dX7_figuresAt_5 (by decide) hf (fun _ hf => ?_) (fun _ hf => ?_)
    · refine j_iload_n (pc := 38) 2 dX7_figuresAt_38 rfl rfl ?_
      exact j_iret (pc := 39) dX7_figuresAt_39 rfl hf
    · refine j_iload_n (pc := 8) 1 dX7_figuresAt_8 rfl rfl ?_
      refine j_iload_n (pc := 9) 2 dX7_figuresAt_9 rfl rfl ?_
      refine j_iadd (pc := 10) dX7_figuresAt_10  ?_
      refine j_aload_n (pc := 11) 0 dX7_figuresAt_11 rfl rfl ?_
      refine j_getI (pc := 12) dX7_figuresAt_12 fl291 k0 (by decide) rfl ?_
      refine j_icmp_ge (pc := 15) (tgt := 38) dX7_figuresAt_15 (by decide) hf (fun _ hf => ?_) (fun _ hf => ?_)
      · refine j_iload_n (pc := 38) 2 dX7_figuresAt_38 rfl rfl ?_
        exact j_iret (pc := 39) dX7_figuresAt_39 rfl hf
      · refine j_aload_n (pc := 18) 0 dX7_figuresAt_18 rfl rfl ?_
        refine j_getR (pc := 19) (n := 1) dX7_figuresAt_19 fl290 k0 (by decide) rfl ?_
        refine j_iload_n (pc := 22) 1 dX7_figuresAt_22 rfl rfl ?_
        refine j_iload_n (pc := 23) 2 dX7_figuresAt_23 rfl rfl ?_
        refine j_iadd (pc := 24) dX7_figuresAt_24  ?_
        refine j_iaload (pc := 25) dX7_figuresAt_25 (lk_7_0 k0) (ll_7_0 k0) hf (fun _ hf => ?_)
        refine j_callSi (pc := 26) (d := d) (As := [.int (h.1 (a0 + 1) (Int32.toNatClampNeg (x1 + x2)))]) (st := []) dX7_figuresAt_26 s453 rfl rfl (by decide) (Nat.le_of_ble_eq_true rfl) (fun q hq => t_X7_isFigure  hq) hf (fun q1 hf => ?_)
        refine j_if_eq (pc := 29) (tgt := 38) dX7_figuresAt_29 (by decide) hf (fun _ hf => ?_) (fun _ hf => ?_)
        · refine j_iload_n (pc := 38) 2 dX7_figuresAt_38 rfl rfl ?_
          exact j_iret (pc := 39) dX7_figuresAt_39 rfl hf
        · refine j_iinc (pc := 32) 2 (c := 1) (lv' := fun v2 => [(2, .int v2), (0, .ref (ad a0)), (1, .int x1)]) dX7_figuresAt_32 rfl (by decide) (by decide) (fun _ => rfl) hf (fun v2 hf => ?_)
          refine j_goto (pc := 35) (tgt := 2) dX7_figuresAt_35 (by decide) ?_
          refine j_sub [1, 2, 0] rfl ?_
          exact hk2 k0 hf
def f_X7_figuresAt (a0 : Nat) (x1 : Int32) (h : Hp) : Option (Int32 × Hp) := lp (F := Nat → Int32 → Int32 → Hp → Option (Int32 × Hp)) (fun _ _ _ _ => none) (f_X7_figuresAt_2) 1000 a0 x1 0 h
set_option maxHeartbeats 4000000 in
set_option maxRecDepth 100000 in
theorem t_X7_figuresAt {l : Launch} {D : va_G} {ad : Nat → Nat} {cA : Nat → ClassId} {d : Nat} (hdp : 1 ≤ d) {a0 : Nat} {x1 : Int32} (k0 : kd a0 = 7) {h : Hp} {o : Int32 × Hp} (hf : f_X7_figuresAt a0 x1 h = some o) : Cr l D ad cA d yX7_figuresAt cX7_figuresAt 3 (some .int) [.ref (ad a0), .int x1] h (some (.int o.1)) o.2 := by
  obtain ⟨d, rfl⟩ : ∃ e, d = e + 1 := ⟨d - 1, by omega⟩
  have hdp : 0 ≤ d := by omega
  unfold f_X7_figuresAt at hf
  refine Cr_of (by decide +kernel) rfl (Nat.le_of_ble_eq_true rfl) (lv0 := [(0, .ref (ad a0)), (1, .int x1)]) rfl ?_
  refine j_iconst (pc := 0) dX7_figuresAt_0 (v := 0) (by decide) ?_
  refine j_istore_n (pc := 1) (lv' := [(2, .int 0), (0, .ref (ad a0)), (1, .int x1)]) dX7_figuresAt_1 rfl (by decide) rfl ?_
  refine j_sub [1, 2, 0] rfl ?_
  exact t_X7_figuresAt_2 hdp  1000 k0 hf
def f_X8_bar (a0 : Nat) (x1 : Int32) (h : Hp) : Option (Int32 × Hp) := (f_X8_within x1 500 h).bind (fun q1 => if q1.1 = 0 then (some ((-2), q1.2)) else (lt (q1.2.1 (a0 + 1) 4) (fun v2 => lt (sI q1.2 (a0 + 1) 4 x1) (fun m3 => (f_X2_forget (a0 + 56) m3).bind (fun q4 => some (v2, q4.2))))))
set_option maxHeartbeats 4000000 in
set_option maxRecDepth 100000 in
theorem t_X8_bar {l : Launch} {D : va_G} {ad : Nat → Nat} {cA : Nat → ClassId} {d : Nat} (hdp : 1 ≤ d) {a0 : Nat} {x1 : Int32} (k0 : kd a0 = 8) {h : Hp} {o : Int32 × Hp} (hf : f_X8_bar a0 x1 h = some o) : Cr l D ad cA d yX8_bar cX8_bar 3 (some .int) [.ref (ad a0), .int x1] h (some (.int o.1)) o.2 := by
  obtain ⟨d, rfl⟩ : ∃ e, d = e + 1 := ⟨d - 1, by omega⟩
  have hdp : 0 ≤ d := by omega
  unfold f_X8_bar at hf
  refine Cr_of (by decide +kernel) rfl (Nat.le_of_ble_eq_true rfl) (lv0 := [(0, .ref (ad a0)), (1, .int x1)]) rfl ?_
  refine j_iload_n (pc := 0) 1 dX8_bar_0 rfl rfl ?_
  refine j_sipush (pc := 1) dX8_bar_1 (v := 500) (by decide) ?_
  refine j_callSi (pc := 4) (d := d) (As := [.int x1, .int 500]) (st := []) dX8_bar_4 s370 rfl rfl (by decide) (Nat.le_of_ble_eq_true rfl) (fun q hq => t_X8_within  hq) hf (fun q1 hf => ?_)
  refine j_if_ne (pc := 7) (tgt := 13) dX8_bar_7 (by decide) hf (fun _ hf => ?_) (fun _ hf => ?_)
  · refine j_aload_n (pc := 13) 0 dX8_bar_13 rfl rfl ?_
    refine j_getR (pc := 14) (n := 1) dX8_bar_14 fl332 k0 (by decide) rfl ?_
    refine j_getI (pc := 17) dX8_bar_17 fl113 (lk_8_0 k0) (by decide) rfl ?_
    refine j_istore_nN (pc := 20) (lv' := fun v2 => [(2, .int v2), (0, .ref (ad a0)), (1, .int x1)]) dX8_bar_20 rfl (by decide) (fun _ => rfl) hf (fun v2 hf => ?_)
    refine j_aload_n (pc := 21) 1 dX8_bar_21 rfl rfl ?_
    refine j_getR (pc := 22) (n := 1) dX8_bar_22 fl332 k0 (by decide) rfl ?_
    refine j_iload_n (pc := 25) 2 dX8_bar_25 rfl rfl ?_
    refine j_putI (pc := 26) dX8_bar_26 fl113 fp3_4 (lk_8_0 k0) (by decide) rfl hf (fun m3 hf => ?_)
    refine j_aload_n (pc := 29) 1 dX8_bar_29 rfl rfl ?_
    refine j_getR (pc := 30) (n := 56) dX8_bar_30 fl337 k0 (by decide) rfl ?_
    refine j_callVv (pc := 33) (d := d) (As := []) (st := []) dX8_bar_33 s377 (lk_8_5 k0) (by decide) rfl rfl (by decide) (Nat.le_of_ble_eq_true rfl) (fun q hq => t_X2_forget (lk_8_5 k0) hq) hf (fun q4 hf => ?_)
    refine j_iload_n (pc := 36) 0 dX8_bar_36 rfl rfl ?_
    exact j_iret (pc := 37) dX8_bar_37 rfl hf
  · refine j_bipush (pc := 10) dX8_bar_10 (v := -2) (by decide) ?_
    exact j_iret (pc := 12) dX8_bar_12 rfl hf
def f_X8_comparePrices_20  (x0 : Int64) (x2 : Int64) (x4 : Int64) (x6 : Int64) (h : Hp) : Option (Int32 × Hp) := if (lg_cmp x2 0) = 0 then (some (1, h)) else (if (lg_cmp x6 0) = 0 then (some ((-1), h)) else ((f_J13_compare_74951 (x0 * x6) (x4 * x2) h).bind (fun q2 => some (q2.1, q2.2))))
set_option maxHeartbeats 4000000 in
set_option maxRecDepth 100000 in
theorem t_X8_comparePrices_20 {l : Launch} {D : va_G} {ad : Nat → Nat} {cA : Nat → ClassId} {d : Nat} (hdp : 0 ≤ d) {o : Int32 × Hp}  {x0 : Int64} {x2 : Int64} {x4 : Int64} {x6 : Int64}  {h : Hp} (hf : f_X8_comparePrices_20  x0 x2 x4 x6 h = some o) : J l D ad cA (fun _ => True) (rmd (d + 1)) (0, 0) (mQ D ad cA (some (.int o.1)) o.2) cX8_comparePrices RX8 8 (some .int) 20 [(0, .long x0), (2, .long x2), (4, .long x4), (6, .long x6)] [] h := by
  unfold f_X8_comparePrices_20 at hf
  refine j_lload_n (pc := 20) 1 dX8_comparePrices_20 rfl rfl ?_
  refine j_lconst (pc := 21) dX8_comparePrices_21 (v := 0) rfl ?_
  refine j_lcmp (pc := 22) dX8_comparePrices_22  ?_
  refine j_if_ne (pc := 23) (tgt := 28) dX8_comparePrices_23 (by decide) hf (fun _ hf => ?_) (fun _ hf => ?_)
  · refine j_lload (pc := 28) 3 dX8_comparePrices_28 rfl ?_
    refine j_lconst (pc := 30) dX8_comparePrices_30 (v := 0) rfl ?_
    refine j_lcmp (pc := 31) dX8_comparePrices_31  ?_
    refine j_if_ne (pc := 32) (tgt := 37) dX8_comparePrices_32 (by decide) hf (fun _ hf => ?_) (fun _ hf => ?_)
    · refine j_lload_n (pc := 37) 0 dX8_comparePrices_37 rfl rfl ?_
      refine j_lload (pc := 38) 3 dX8_comparePrices_38 rfl ?_
      refine j_lmul (pc := 40) dX8_comparePrices_40  ?_
      refine j_lload (pc := 41) 2 dX8_comparePrices_41 rfl ?_
      refine j_lload_n (pc := 43) 1 dX8_comparePrices_43 rfl rfl ?_
      refine j_lmul (pc := 44) dX8_comparePrices_44  ?_
      refine j_callSi (pc := 45) (d := d) (As := [.long (x0 * x6), .long (x4 * x2)]) (st := []) dX8_comparePrices_45 s548 rfl rfl (by decide) (Nat.le_of_ble_eq_true rfl) (fun q hq => t_J13_compare_74951  hq) hf (fun q2 hf => ?_)
      exact j_iret (pc := 48) dX8_comparePrices_48 rfl hf
    · refine j_iconst (pc := 35) dX8_comparePrices_35 (v := -1) (by decide) ?_
      exact j_iret (pc := 36) dX8_comparePrices_36 rfl hf
  · refine j_iconst (pc := 26) dX8_comparePrices_26 (v := 1) (by decide) ?_
    exact j_iret (pc := 27) dX8_comparePrices_27 rfl hf
def f_X8_comparePrices (x0 : Int64) (x2 : Int64) (x4 : Int64) (x6 : Int64) (h : Hp) : Option (Int32 × Hp) := if (lg_cmp x2 0) = 0 then (if (lg_cmp x6 0) = 0 then ((f_J13_compare_74951 x0 x4 h).bind (fun q1 => some (q1.1, q1.2))) else (f_X8_comparePrices_20  x0 x2 x4 x6 h)) else (f_X8_comparePrices_20  x0 x2 x4 x6 h)
set_option maxHeartbeats 4000000 in
set_option maxRecDepth 100000 in
theorem t_X8_comparePrices {l : Launch} {D : va_G} {ad : Nat → Nat} {cA : Nat → ClassId} {d : Nat} (hdp : 1 ≤ d) {x0 : Int64} {x2 : Int64} {x4 : Int64} {x6 : Int64}  {h : Hp} {o : Int32 × Hp} (hf : f_X8_comparePrices x0 x2 x4 x6 h = some o) : Cr l D ad cA d yX8_comparePrices cX8_comparePrices 8 (some .int) [.long x0, .long x2, .long x4, .long x6] h (some (.int o.1)) o.2 := by
  obtain ⟨d, rfl⟩ : ∃ e, d = e + 1 := ⟨d - 1, by omega⟩
  have hdp : 0 ≤ d := by omega
  unfold f_X8_comparePrices at hf
  refine Cr_of (by decide +kernel) rfl (Nat.le_of_ble_eq_true rfl) (lv0 := [(0, .long x0), (2, .long x2), (4, .long x4), (6, .long x6)]) rfl ?_
  refine j_lload_n (pc := 0) 1 dX8_comparePrices_0 rfl rfl ?_
  refine j_lconst (pc := 1) dX8_comparePrices_1 (v := 0) rfl ?_
  refine j_lcmp (pc := 2) dX8_comparePrices_2  ?_
  refine j_if_ne (pc := 3) (tgt := 20) dX8_comparePrices_3 (by decide) hf (fun _ hf => ?_) (fun _ hf => ?_)
  · refine j_sub [0, 1, 2, 3] rfl ?_
    exact t_X8_comparePrices_20 hdp   hf
  · refine j_lload (pc := 6) 3 dX8_comparePrices_6 rfl ?_
    refine j_lconst (pc := 8) dX8_comparePrices_8 (v := 0) rfl ?_
    refine j_lcmp (pc := 9) dX8_comparePrices_9  ?_
    refine j_if_ne (pc := 10) (tgt := 20) dX8_comparePrices_10 (by decide) hf (fun _ hf => ?_) (fun _ hf => ?_)
    · refine j_sub [0, 1, 2, 3] rfl ?_
      exact t_X8_comparePrices_20 hdp   hf
    · refine j_lload_n (pc := 13) 0 dX8_comparePrices_13 rfl rfl ?_
      refine j_lload (pc := 14) 2 dX8_comparePrices_14 rfl ?_
      refine j_callSi (pc := 16) (d := d) (As := [.long x0, .long x4]) (st := []) dX8_comparePrices_16 s548 rfl rfl (by decide) (Nat.le_of_ble_eq_true rfl) (fun q hq => t_J13_compare_74951  hq) hf (fun q1 hf => ?_)
      exact j_iret (pc := 19) dX8_comparePrices_19 rfl hf
def f_X8_feed (a0 : Nat) (x1 : Int32) (h : Hp) : Option (Int32 × Hp) := if x1 < 1 then (some ((-2), h)) else (if x1 ≤ 127 then ((f_X7_takeByte (a0 + 96) x1 h).bind (fun q1 => if q1.1 = 0 then (some ((-4), q1.2)) else (some (q1.2.1 (a0 + 96) 1, q1.2)))) else (some ((-2), h)))
set_option maxHeartbeats 4000000 in
set_option maxRecDepth 100000 in
theorem t_X8_feed {l : Launch} {D : va_G} {ad : Nat → Nat} {cA : Nat → ClassId} {d : Nat} (hdp : 1 ≤ d) {a0 : Nat} {x1 : Int32} (k0 : kd a0 = 8) {h : Hp} {o : Int32 × Hp} (hf : f_X8_feed a0 x1 h = some o) : Cr l D ad cA d yX8_feed cX8_feed 2 (some .int) [.ref (ad a0), .int x1] h (some (.int o.1)) o.2 := by
  obtain ⟨d, rfl⟩ : ∃ e, d = e + 1 := ⟨d - 1, by omega⟩
  have hdp : 0 ≤ d := by omega
  unfold f_X8_feed at hf
  refine Cr_of (by decide +kernel) rfl (Nat.le_of_ble_eq_true rfl) (lv0 := [(0, .ref (ad a0)), (1, .int x1)]) rfl ?_
  refine j_iload_n (pc := 0) 1 dX8_feed_0 rfl rfl ?_
  refine j_iconst (pc := 1) dX8_feed_1 (v := 1) (by decide) ?_
  refine j_icmp_lt (pc := 2) (tgt := 11) dX8_feed_2 (by decide) hf (fun _ hf => ?_) (fun _ hf => ?_)
  · refine j_bipush (pc := 11) dX8_feed_11 (v := -2) (by decide) ?_
    exact j_iret (pc := 13) dX8_feed_13 rfl hf
  · refine j_iload_n (pc := 5) 1 dX8_feed_5 rfl rfl ?_
    refine j_bipush (pc := 6) dX8_feed_6 (v := 127) (by decide) ?_
    refine j_icmp_le (pc := 8) (tgt := 14) dX8_feed_8 (by decide) hf (fun _ hf => ?_) (fun _ hf => ?_)
    · refine j_aload_n (pc := 14) 0 dX8_feed_14 rfl rfl ?_
      refine j_getR (pc := 15) (n := 96) dX8_feed_15 fl338 k0 (by decide) rfl ?_
      refine j_iload_n (pc := 18) 1 dX8_feed_18 rfl rfl ?_
      refine j_callVi (pc := 19) (d := d) (As := [.int x1]) (st := []) dX8_feed_19 s426 (lk_8_6 k0) (by decide) rfl rfl (by decide) (Nat.le_of_ble_eq_true rfl) (fun q hq => t_X7_takeByte (lk_8_6 k0) hq) hf (fun q1 hf => ?_)
      refine j_if_eq (pc := 22) (tgt := 35) dX8_feed_22 (by decide) hf (fun _ hf => ?_) (fun _ hf => ?_)
      · refine j_bipush (pc := 35) dX8_feed_35 (v := -4) (by decide) ?_
        exact j_iret (pc := 37) dX8_feed_37 rfl hf
      · refine j_aload_n (pc := 25) 0 dX8_feed_25 rfl rfl ?_
        refine j_getR (pc := 26) (n := 96) dX8_feed_26 fl338 k0 (by decide) rfl ?_
        refine j_getI (pc := 29) dX8_feed_29 fl292 (lk_8_6 k0) (by decide) rfl ?_
        refine j_goto (pc := 32) (tgt := 37) dX8_feed_32 (by decide) ?_
        exact j_iret (pc := 37) dX8_feed_37 rfl hf
    · refine j_bipush (pc := 11) dX8_feed_11 (v := -2) (by decide) ?_
      exact j_iret (pc := 13) dX8_feed_13 rfl hf
def f_X8_get (a0 : Nat) (x1 : Int32) (x2 : Int32) (h : Hp) : Option (Int64 × Hp) := (f_X8_within x1 3 h).bind (fun q1 => if q1.1 = 0 then (some ((-9223372036854775808), q1.2)) else ((f_X6_hasPlace (a0 + 100) x1 x2 q1.2).bind (fun q2 => if q2.1 = 0 then (some ((-9223372036854775808), q2.2)) else (if ix x1 4 = true then (if ix x2 40 = true then (some (Int32.toInt64 (q2.2.1 (a0 + 100 + 1 + 1 + (Int32.toNatClampNeg x1)) (Int32.toNatClampNeg x2)), q2.2)) else none) else none))))
set_option maxHeartbeats 4000000 in
set_option maxRecDepth 100000 in
theorem t_X8_get {l : Launch} {D : va_G} {ad : Nat → Nat} {cA : Nat → ClassId} {d : Nat} (hdp : 1 ≤ d) {a0 : Nat} {x1 : Int32} {x2 : Int32} (k0 : kd a0 = 8) {h : Hp} {o : Int64 × Hp} (hf : f_X8_get a0 x1 x2 h = some o) : Cr l D ad cA d yX8_get cX8_get 3 (some .long) [.ref (ad a0), .int x1, .int x2] h (some (.long o.1)) o.2 := by
  obtain ⟨d, rfl⟩ : ∃ e, d = e + 1 := ⟨d - 1, by omega⟩
  have hdp : 0 ≤ d := by omega
  unfold f_X8_get at hf
  refine Cr_of (by decide +kernel) rfl (Nat.le_of_ble_eq_true rfl) (lv0 := [(0, .ref (ad a0)), (1, .int x1), (2, .int x2)]) rfl ?_
  refine j_iload_n (pc := 0) 1 dX8_get_0 rfl rfl ?_
  refine j_iconst (pc := 1) dX8_get_1 (v := 3) (by decide) ?_
  refine j_callSi (pc := 2) (d := d) (As := [.int x1, .int 3]) (st := []) dX8_get_2 s370 rfl rfl (by decide) (Nat.le_of_ble_eq_true rfl) (fun q hq => t_X8_within  hq) hf (fun q1 hf => ?_)
  refine j_if_eq (pc := 5) (tgt := 20) dX8_get_5 (by decide) hf (fun _ hf => ?_) (fun _ hf => ?_)
  · refine j_ldc2_w (pc := 20) dX8_get_20 (v := -9223372036854775808) w_c598 ?_
    exact j_lret (pc := 23) dX8_get_23 rfl hf
  · refine j_aload_n (pc := 8) 0 dX8_get_8 rfl rfl ?_
    refine j_getR (pc := 9) (n := 100) dX8_get_9 fl340 k0 (by decide) rfl ?_
    refine j_iload_n (pc := 12) 1 dX8_get_12 rfl rfl ?_
    refine j_iload_n (pc := 13) 2 dX8_get_13 rfl rfl ?_
    refine j_callVi (pc := 14) (d := d) (As := [.int x1, .int x2]) (st := []) dX8_get_14 s822 (lk_8_8 k0) (by decide) rfl rfl (by decide) (Nat.le_of_ble_eq_true rfl) (fun q hq => t_X6_hasPlace (lk_8_8 k0) hq) hf (fun q2 hf => ?_)
    refine j_if_ne (pc := 17) (tgt := 24) dX8_get_17 (by decide) hf (fun _ hf => ?_) (fun _ hf => ?_)
    · refine j_aload_n (pc := 24) 0 dX8_get_24 rfl rfl ?_
      refine j_getR (pc := 25) (n := 100) dX8_get_25 fl340 k0 (by decide) rfl ?_
      refine j_getR (pc := 28) (n := 1) dX8_get_28 fl325 (lk_8_8 k0) (by decide) rfl ?_
      refine j_iload_n (pc := 31) 1 dX8_get_31 rfl rfl ?_
      refine j_aaload (pc := 32) dX8_get_32 (lk_6_0 (lk_8_8 k0)) hf (fun hr3 hf => ?_)
      refine j_iload_n (pc := 33) 2 dX8_get_33 rfl rfl ?_
      refine j_iaload (pc := 34) dX8_get_34 ((lk_row (lk_6_0 (lk_8_8 k0)) (ix_lt hr3)).1) ((lk_row (lk_6_0 (lk_8_8 k0)) (ix_lt hr3)).2) hf (fun _ hf => ?_)
      refine j_i2l (pc := 35) dX8_get_35  ?_
      exact j_lret (pc := 36) dX8_get_36 rfl hf
    · refine j_ldc2_w (pc := 20) dX8_get_20 (v := -9223372036854775808) w_c598 ?_
      exact j_lret (pc := 23) dX8_get_23 rfl hf
def f_X8_join (a0 : Nat) (x1 : Int32) (x2 : Int32) (h : Hp) : Option (Int32 × Hp) := (f_X8_within x1 5 h).bind (fun q1 => if q1.1 = 0 then (some ((-1), q1.2)) else ((f_X8_within x2 5 q1.2).bind (fun q2 => if q2.1 = 0 then (some ((-1), q2.2)) else (if ix x1 6 = true then (lt (q2.2.1 (a0 + 1 + 4) (Int32.toNatClampNeg x1)) (fun v3 => if ix x1 6 = true then (lt (sI q2.2 (a0 + 1 + 4) (Int32.toNatClampNeg x1) x2) (fun m4 => (f_X2_forget (a0 + 56) m4).bind (fun q5 => some (v3, q5.2)))) else none)) else none))))
set_option maxHeartbeats 4000000 in
set_option maxRecDepth 100000 in
theorem t_X8_join {l : Launch} {D : va_G} {ad : Nat → Nat} {cA : Nat → ClassId} {d : Nat} (hdp : 1 ≤ d) {a0 : Nat} {x1 : Int32} {x2 : Int32} (k0 : kd a0 = 8) {h : Hp} {o : Int32 × Hp} (hf : f_X8_join a0 x1 x2 h = some o) : Cr l D ad cA d yX8_join cX8_join 4 (some .int) [.ref (ad a0), .int x1, .int x2] h (some (.int o.1)) o.2 := by
  obtain ⟨d, rfl⟩ : ∃ e, d = e + 1 := ⟨d - 1, by omega⟩
  have hdp : 0 ≤ d := by omega
  unfold f_X8_join at hf
  refine Cr_of (by decide +kernel) rfl (Nat.le_of_ble_eq_true rfl) (lv0 := [(0, .ref (ad a0)), (1, .int x1), (2, .int x2)]) rfl ?_
  refine j_iload_n (pc := 0) 1 dX8_join_0 rfl rfl ?_
  refine j_iconst (pc := 1) dX8_join_1 (v := 5) (by decide) ?_
  refine j_callSi (pc := 2) (d := d) (As := [.int x1, .int 5]) (st := []) dX8_join_2 s370 rfl rfl (by decide) (Nat.le_of_ble_eq_true rfl) (fun q hq => t_X8_within  hq) hf (fun q1 hf => ?_)
  refine j_if_eq (pc := 5) (tgt := 16) dX8_join_5 (by decide) hf (fun _ hf => ?_) (fun _ hf => ?_)
  · refine j_iconst (pc := 16) dX8_join_16 (v := -1) (by decide) ?_
    exact j_iret (pc := 17) dX8_join_17 rfl hf
  · refine j_iload_n (pc := 8) 2 dX8_join_8 rfl rfl ?_
    refine j_iconst (pc := 9) dX8_join_9 (v := 5) (by decide) ?_
    refine j_callSi (pc := 10) (d := d) (As := [.int x2, .int 5]) (st := []) dX8_join_10 s370 rfl rfl (by decide) (Nat.le_of_ble_eq_true rfl) (fun q hq => t_X8_within  hq) hf (fun q2 hf => ?_)
    refine j_if_ne (pc := 13) (tgt := 18) dX8_join_13 (by decide) hf (fun _ hf => ?_) (fun _ hf => ?_)
    · refine j_aload_n (pc := 18) 0 dX8_join_18 rfl rfl ?_
      refine j_getR (pc := 19) (n := 1) dX8_join_19 fl332 k0 (by decide) rfl ?_
      refine j_getR (pc := 22) (n := 4) dX8_join_22 fl111 (lk_8_0 k0) (by decide) rfl ?_
      refine j_iload_n (pc := 25) 1 dX8_join_25 rfl rfl ?_
      refine j_iaload (pc := 26) dX8_join_26 (lk_3_3 (lk_8_0 k0)) (ll_3_3 (lk_8_0 k0)) hf (fun _ hf => ?_)
      refine j_istore_nN (pc := 27) (lv' := fun v3 => [(3, .int v3), (0, .ref (ad a0)), (1, .int x1), (2, .int x2)]) dX8_join_27 rfl (by decide) (fun _ => rfl) hf (fun v3 hf => ?_)
      refine j_aload_n (pc := 28) 1 dX8_join_28 rfl rfl ?_
      refine j_getR (pc := 29) (n := 1) dX8_join_29 fl332 k0 (by decide) rfl ?_
      refine j_getR (pc := 32) (n := 4) dX8_join_32 fl111 (lk_8_0 k0) (by decide) rfl ?_
      refine j_iload_n (pc := 35) 2 dX8_join_35 rfl rfl ?_
      refine j_iload_n (pc := 36) 3 dX8_join_36 rfl rfl ?_
      refine j_iastore (pc := 37) dX8_join_37 (lk_3_3 (lk_8_0 k0)) (ll_3_3 (lk_8_0 k0)) hf (fun m4 hf => ?_)
      refine j_aload_n (pc := 38) 1 dX8_join_38 rfl rfl ?_
      refine j_getR (pc := 39) (n := 56) dX8_join_39 fl337 k0 (by decide) rfl ?_
      refine j_callVv (pc := 42) (d := d) (As := []) (st := []) dX8_join_42 s377 (lk_8_5 k0) (by decide) rfl rfl (by decide) (Nat.le_of_ble_eq_true rfl) (fun q hq => t_X2_forget (lk_8_5 k0) hq) hf (fun q5 hf => ?_)
      refine j_iload_n (pc := 45) 0 dX8_join_45 rfl rfl ?_
      exact j_iret (pc := 46) dX8_join_46 rfl hf
    · refine j_iconst (pc := 16) dX8_join_16 (v := -1) (by decide) ?_
      exact j_iret (pc := 17) dX8_join_17 rfl hf
def f_X8_least (a0 : Nat) (x1 : Int32) (x2 : Int32) (h : Hp) : Option (Int32 × Hp) := (f_X8_within x1 5 h).bind (fun q1 => if q1.1 = 0 then (some ((-1), q1.2)) else ((f_X8_within x2 9 q1.2).bind (fun q2 => if q2.1 = 0 then (some ((-2), q2.2)) else (if ix x1 6 = true then (lt (q2.2.1 (a0 + 1 + 3) (Int32.toNatClampNeg x1)) (fun v3 => if ix x1 6 = true then (lt (sI q2.2 (a0 + 1 + 3) (Int32.toNatClampNeg x1) x2) (fun m4 => (f_X2_forget (a0 + 56) m4).bind (fun q5 => some (v3, q5.2)))) else none)) else none))))
set_option maxHeartbeats 4000000 in
set_option maxRecDepth 100000 in
theorem t_X8_least {l : Launch} {D : va_G} {ad : Nat → Nat} {cA : Nat → ClassId} {d : Nat} (hdp : 1 ≤ d) {a0 : Nat} {x1 : Int32} {x2 : Int32} (k0 : kd a0 = 8) {h : Hp} {o : Int32 × Hp} (hf : f_X8_least a0 x1 x2 h = some o) : Cr l D ad cA d yX8_least cX8_least 4 (some .int) [.ref (ad a0), .int x1, .int x2] h (some (.int o.1)) o.2 := by
  obtain ⟨d, rfl⟩ : ∃ e, d = e + 1 := ⟨d - 1, by omega⟩
  have hdp : 0 ≤ d := by omega
  unfold f_X8_least at hf
  refine Cr_of (by decide +kernel) rfl (Nat.le_of_ble_eq_true rfl) (lv0 := [(0, .ref (ad a0)), (1, .int x1), (2, .int x2)]) rfl ?_
  refine j_iload_n (pc := 0) 1 dX8_least_0 rfl rfl ?_
  refine j_iconst (pc := 1) dX8_least_1 (v := 5) (by decide) ?_
  refine j_callSi (pc := 2) (d := d) (As := [.int x1, .int 5]) (st := []) dX8_least_2 s370 rfl rfl (by decide) (Nat.le_of_ble_eq_true rfl) (fun q hq => t_X8_within  hq) hf (fun q1 hf => ?_)
  refine j_if_ne (pc := 5) (tgt := 10) dX8_least_5 (by decide) hf (fun _ hf => ?_) (fun _ hf => ?_)
  · refine j_iload_n (pc := 10) 2 dX8_least_10 rfl rfl ?_
    refine j_bipush (pc := 11) dX8_least_11 (v := 9) (by decide) ?_
    refine j_callSi (pc := 13) (d := d) (As := [.int x2, .int 9]) (st := []) dX8_least_13 s370 rfl rfl (by decide) (Nat.le_of_ble_eq_true rfl) (fun q hq => t_X8_within  hq) hf (fun q2 hf => ?_)
    refine j_if_ne (pc := 16) (tgt := 22) dX8_least_16 (by decide) hf (fun _ hf => ?_) (fun _ hf => ?_)
    · refine j_aload_n (pc := 22) 0 dX8_least_22 rfl rfl ?_
      refine j_getR (pc := 23) (n := 1) dX8_least_23 fl332 k0 (by decide) rfl ?_
      refine j_getR (pc := 26) (n := 3) dX8_least_26 fl108 (lk_8_0 k0) (by decide) rfl ?_
      refine j_iload_n (pc := 29) 1 dX8_least_29 rfl rfl ?_
      refine j_iaload (pc := 30) dX8_least_30 (lk_3_2 (lk_8_0 k0)) (ll_3_2 (lk_8_0 k0)) hf (fun _ hf => ?_)
      refine j_istore_nN (pc := 31) (lv' := fun v3 => [(3, .int v3), (0, .ref (ad a0)), (1, .int x1), (2, .int x2)]) dX8_least_31 rfl (by decide) (fun _ => rfl) hf (fun v3 hf => ?_)
      refine j_aload_n (pc := 32) 1 dX8_least_32 rfl rfl ?_
      refine j_getR (pc := 33) (n := 1) dX8_least_33 fl332 k0 (by decide) rfl ?_
      refine j_getR (pc := 36) (n := 3) dX8_least_36 fl108 (lk_8_0 k0) (by decide) rfl ?_
      refine j_iload_n (pc := 39) 2 dX8_least_39 rfl rfl ?_
      refine j_iload_n (pc := 40) 3 dX8_least_40 rfl rfl ?_
      refine j_iastore (pc := 41) dX8_least_41 (lk_3_2 (lk_8_0 k0)) (ll_3_2 (lk_8_0 k0)) hf (fun m4 hf => ?_)
      refine j_aload_n (pc := 42) 1 dX8_least_42 rfl rfl ?_
      refine j_getR (pc := 43) (n := 56) dX8_least_43 fl337 k0 (by decide) rfl ?_
      refine j_callVv (pc := 46) (d := d) (As := []) (st := []) dX8_least_46 s377 (lk_8_5 k0) (by decide) rfl rfl (by decide) (Nat.le_of_ble_eq_true rfl) (fun q hq => t_X2_forget (lk_8_5 k0) hq) hf (fun q5 hf => ?_)
      refine j_iload_n (pc := 49) 0 dX8_least_49 rfl rfl ?_
      exact j_iret (pc := 50) dX8_least_50 rfl hf
    · refine j_bipush (pc := 19) dX8_least_19 (v := -2) (by decide) ?_
      exact j_iret (pc := 21) dX8_least_21 rfl hf
  · refine j_iconst (pc := 8) dX8_least_8 (v := -1) (by decide) ?_
    exact j_iret (pc := 9) dX8_least_9 rfl hf
def f_X8_lowest (x0 : Int64) (x2 : Int64) (x4 : Int32) (h : Hp) : Option (Int64 × Hp) := (f_X8_commonDivisor x0 x2 h).bind (fun q1 => if (lg_cmp x2 0) = 0 then (some ((-9223372036854775808), q1.2)) else (if (lg_cmp q1.1 0) = 0 then (some ((-9223372036854775808), q1.2)) else (if x4 = 0 then (if q1.1 = 0 then none else (some (x0 / q1.1, q1.2))) else (if q1.1 = 0 then none else (some (x2 / q1.1, q1.2))))))
set_option maxHeartbeats 4000000 in
set_option maxRecDepth 100000 in
theorem t_X8_lowest {l : Launch} {D : va_G} {ad : Nat → Nat} {cA : Nat → ClassId} {d : Nat} (hdp : 1 ≤ d) {x0 : Int64} {x2 : Int64} {x4 : Int32}  {h : Hp} {o : Int64 × Hp} (hf : f_X8_lowest x0 x2 x4 h = some o) : Cr l D ad cA d yX8_lowest cX8_lowest 7 (some .long) [.long x0, .long x2, .int x4] h (some (.long o.1)) o.2 := by
  obtain ⟨d, rfl⟩ : ∃ e, d = e + 1 := ⟨d - 1, by omega⟩
  have hdp : 0 ≤ d := by omega
  unfold f_X8_lowest at hf
  refine Cr_of (by decide +kernel) rfl (Nat.le_of_ble_eq_true rfl) (lv0 := [(0, .long x0), (2, .long x2), (4, .int x4)]) rfl ?_
  refine j_lload_n (pc := 0) 0 dX8_lowest_0 rfl rfl ?_
  refine j_lload_n (pc := 1) 1 dX8_lowest_1 rfl rfl ?_
  refine j_callSl (pc := 2) (d := d) (As := [.long x0, .long x2]) (st := []) dX8_lowest_2 s604 rfl rfl (by decide) (Nat.le_of_ble_eq_true rfl) (fun q hq => t_X8_commonDivisor  hq) hf (fun q1 hf => ?_)
  refine j_lstore (pc := 5) (lv' := [(5, .long q1.1), (0, .long x0), (2, .long x2), (4, .int x4)]) dX8_lowest_5 (by decide) rfl ?_
  refine j_lload_n (pc := 7) 2 dX8_lowest_7 rfl rfl ?_
  refine j_lconst (pc := 8) dX8_lowest_8 (v := 0) rfl ?_
  refine j_lcmp (pc := 9) dX8_lowest_9  ?_
  refine j_if_eq (pc := 10) (tgt := 20) dX8_lowest_10 (by decide) hf (fun _ hf => ?_) (fun _ hf => ?_)
  · refine j_ldc2_w (pc := 20) dX8_lowest_20 (v := -9223372036854775808) w_c598 ?_
    exact j_lret (pc := 23) dX8_lowest_23 rfl hf
  · refine j_lload (pc := 13) 0 dX8_lowest_13 rfl ?_
    refine j_lconst (pc := 15) dX8_lowest_15 (v := 0) rfl ?_
    refine j_lcmp (pc := 16) dX8_lowest_16  ?_
    refine j_if_ne (pc := 17) (tgt := 24) dX8_lowest_17 (by decide) hf (fun _ hf => ?_) (fun _ hf => ?_)
    · refine j_iload (pc := 24) 3 dX8_lowest_24 rfl ?_
      refine j_if_ne (pc := 26) (tgt := 36) dX8_lowest_26 (by decide) hf (fun _ hf => ?_) (fun _ hf => ?_)
      · refine j_lload_n (pc := 36) 2 dX8_lowest_36 rfl rfl ?_
        refine j_lload (pc := 37) 0 dX8_lowest_37 rfl ?_
        refine j_ldiv (pc := 39) dX8_lowest_39 hf (fun hf => ?_)
        exact j_lret (pc := 40) dX8_lowest_40 rfl hf
      · refine j_lload_n (pc := 29) 1 dX8_lowest_29 rfl rfl ?_
        refine j_lload (pc := 30) 0 dX8_lowest_30 rfl ?_
        refine j_ldiv (pc := 32) dX8_lowest_32 hf (fun hf => ?_)
        refine j_goto (pc := 33) (tgt := 40) dX8_lowest_33 (by decide) ?_
        exact j_lret (pc := 40) dX8_lowest_40 rfl hf
    · refine j_ldc2_w (pc := 20) dX8_lowest_20 (v := -9223372036854775808) w_c598 ?_
      exact j_lret (pc := 23) dX8_lowest_23 rfl hf
def f_X8_seats (a0 : Nat) (x1 : Int32) (x2 : Int32) (h : Hp) : Option (Int32 × Hp) := (f_X8_within x1 3 h).bind (fun q1 => if q1.1 = 0 then (some ((-1), q1.2)) else ((f_X8_within x2 30 q1.2).bind (fun q2 => if q2.1 = 0 then (some ((-2), q2.2)) else (if ix x1 4 = true then (lt (q2.2.1 (a0 + 1 + 2) (Int32.toNatClampNeg x1)) (fun v3 => if ix x1 4 = true then (lt (sI q2.2 (a0 + 1 + 2) (Int32.toNatClampNeg x1) x2) (fun m4 => (f_X2_forget (a0 + 56) m4).bind (fun q5 => some (v3, q5.2)))) else none)) else none))))
set_option maxHeartbeats 4000000 in
set_option maxRecDepth 100000 in
theorem t_X8_seats {l : Launch} {D : va_G} {ad : Nat → Nat} {cA : Nat → ClassId} {d : Nat} (hdp : 1 ≤ d) {a0 : Nat} {x1 : Int32} {x2 : Int32} (k0 : kd a0 = 8) {h : Hp} {o : Int32 × Hp} (hf : f_X8_seats a0 x1 x2 h = some o) : Cr l D ad cA d yX8_seats cX8_seats 4 (some .int) [.ref (ad a0), .int x1, .int x2] h (some (.int o.1)) o.2 := by
  obtain ⟨d, rfl⟩ : ∃ e, d = e + 1 := ⟨d - 1, by omega⟩
  have hdp : 0 ≤ d := by omega
  unfold f_X8_seats at hf
  refine Cr_of (by decide +kernel) rfl (Nat.le_of_ble_eq_true rfl) (lv0 := [(0, .ref (ad a0)), (1, .int x1), (2, .int x2)]) rfl ?_
  refine j_iload_n (pc := 0) 1 dX8_seats_0 rfl rfl ?_
  refine j_iconst (pc := 1) dX8_seats_1 (v := 3) (by decide) ?_
  refine j_callSi (pc := 2) (d := d) (As := [.int x1, .int 3]) (st := []) dX8_seats_2 s370 rfl rfl (by decide) (Nat.le_of_ble_eq_true rfl) (fun q hq => t_X8_within  hq) hf (fun q1 hf => ?_)
  refine j_if_ne (pc := 5) (tgt := 10) dX8_seats_5 (by decide) hf (fun _ hf => ?_) (fun _ hf => ?_)
  · refine j_iload_n (pc := 10) 2 dX8_seats_10 rfl rfl ?_
    refine j_bipush (pc := 11) dX8_seats_11 (v := 30) (by decide) ?_
    refine j_callSi (pc := 13) (d := d) (As := [.int x2, .int 30]) (st := []) dX8_seats_13 s370 rfl rfl (by decide) (Nat.le_of_ble_eq_true rfl) (fun q hq => t_X8_within  hq) hf (fun q2 hf => ?_)
    refine j_if_ne (pc := 16) (tgt := 22) dX8_seats_16 (by decide) hf (fun _ hf => ?_) (fun _ hf => ?_)
    · refine j_aload_n (pc := 22) 0 dX8_seats_22 rfl rfl ?_
      refine j_getR (pc := 23) (n := 1) dX8_seats_23 fl332 k0 (by decide) rfl ?_
      refine j_getR (pc := 26) (n := 2) dX8_seats_26 fl104 (lk_8_0 k0) (by decide) rfl ?_
      refine j_iload_n (pc := 29) 1 dX8_seats_29 rfl rfl ?_
      refine j_iaload (pc := 30) dX8_seats_30 (lk_3_1 (lk_8_0 k0)) (ll_3_1 (lk_8_0 k0)) hf (fun _ hf => ?_)
      refine j_istore_nN (pc := 31) (lv' := fun v3 => [(3, .int v3), (0, .ref (ad a0)), (1, .int x1), (2, .int x2)]) dX8_seats_31 rfl (by decide) (fun _ => rfl) hf (fun v3 hf => ?_)
      refine j_aload_n (pc := 32) 1 dX8_seats_32 rfl rfl ?_
      refine j_getR (pc := 33) (n := 1) dX8_seats_33 fl332 k0 (by decide) rfl ?_
      refine j_getR (pc := 36) (n := 2) dX8_seats_36 fl104 (lk_8_0 k0) (by decide) rfl ?_
      refine j_iload_n (pc := 39) 2 dX8_seats_39 rfl rfl ?_
      refine j_iload_n (pc := 40) 3 dX8_seats_40 rfl rfl ?_
      refine j_iastore (pc := 41) dX8_seats_41 (lk_3_1 (lk_8_0 k0)) (ll_3_1 (lk_8_0 k0)) hf (fun m4 hf => ?_)
      refine j_aload_n (pc := 42) 1 dX8_seats_42 rfl rfl ?_
      refine j_getR (pc := 43) (n := 56) dX8_seats_43 fl337 k0 (by decide) rfl ?_
      refine j_callVv (pc := 46) (d := d) (As := []) (st := []) dX8_seats_46 s377 (lk_8_5 k0) (by decide) rfl rfl (by decide) (Nat.le_of_ble_eq_true rfl) (fun q hq => t_X2_forget (lk_8_5 k0) hq) hf (fun q5 hf => ?_)
      refine j_iload_n (pc := 49) 0 dX8_seats_49 rfl rfl ?_
      exact j_iret (pc := 50) dX8_seats_50 rfl hf
    · refine j_bipush (pc := 19) dX8_seats_19 (v := -2) (by decide) ?_
      exact j_iret (pc := 21) dX8_seats_21 rfl hf
  · refine j_iconst (pc := 8) dX8_seats_8 (v := -1) (by decide) ?_
    exact j_iret (pc := 9) dX8_seats_9 rfl hf
def f_X8_tell (a0 : Nat) (x1 : Int32) (x2 : Int32) (h : Hp) : Option (Int32 × Hp) := (f_X8_within x1 99 h).bind (fun q1 => if q1.1 = 0 then (some ((-2), q1.2)) else (if x2 < 1 then (some ((-2), q1.2)) else (if 99 < x2 then (some ((-2), q1.2)) else (if x1 ≤ x2 then (lt (sI q1.2 (a0 + 1) 6 x1) (fun m2 => lt (sI m2 (a0 + 1) 7 x2) (fun m3 => (f_X2_forget (a0 + 56) m3).bind (fun q4 => some (1, q4.2))))) else (some ((-2), q1.2))))))
set_option maxHeartbeats 4000000 in
set_option maxRecDepth 100000 in
theorem t_X8_tell {l : Launch} {D : va_G} {ad : Nat → Nat} {cA : Nat → ClassId} {d : Nat} (hdp : 1 ≤ d) {a0 : Nat} {x1 : Int32} {x2 : Int32} (k0 : kd a0 = 8) {h : Hp} {o : Int32 × Hp} (hf : f_X8_tell a0 x1 x2 h = some o) : Cr l D ad cA d yX8_tell cX8_tell 3 (some .int) [.ref (ad a0), .int x1, .int x2] h (some (.int o.1)) o.2 := by
  obtain ⟨d, rfl⟩ : ∃ e, d = e + 1 := ⟨d - 1, by omega⟩
  have hdp : 0 ≤ d := by omega
  unfold f_X8_tell at hf
  refine Cr_of (by decide +kernel) rfl (Nat.le_of_ble_eq_true rfl) (lv0 := [(0, .ref (ad a0)), (1, .int x1), (2, .int x2)]) rfl ?_
  refine j_iload_n (pc := 0) 1 dX8_tell_0 rfl rfl ?_
  refine j_bipush (pc := 1) dX8_tell_1 (v := 99) (by decide) ?_
  refine j_callSi (pc := 3) (d := d) (As := [.int x1, .int 99]) (st := []) dX8_tell_3 s370 rfl rfl (by decide) (Nat.le_of_ble_eq_true rfl) (fun q hq => t_X8_within  hq) hf (fun q1 hf => ?_)
  refine j_if_eq (pc := 6) (tgt := 25) dX8_tell_6 (by decide) hf (fun _ hf => ?_) (fun _ hf => ?_)
  · refine j_bipush (pc := 25) dX8_tell_25 (v := -2) (by decide) ?_
    exact j_iret (pc := 27) dX8_tell_27 rfl hf
  · refine j_iload_n (pc := 9) 2 dX8_tell_9 rfl rfl ?_
    refine j_iconst (pc := 10) dX8_tell_10 (v := 1) (by decide) ?_
    refine j_icmp_lt (pc := 11) (tgt := 25) dX8_tell_11 (by decide) hf (fun _ hf => ?_) (fun _ hf => ?_)
    · refine j_bipush (pc := 25) dX8_tell_25 (v := -2) (by decide) ?_
      exact j_iret (pc := 27) dX8_tell_27 rfl hf
    · refine j_iload_n (pc := 14) 2 dX8_tell_14 rfl rfl ?_
      refine j_bipush (pc := 15) dX8_tell_15 (v := 99) (by decide) ?_
      refine j_icmp_gt (pc := 17) (tgt := 25) dX8_tell_17 (by decide) hf (fun _ hf => ?_) (fun _ hf => ?_)
      · refine j_bipush (pc := 25) dX8_tell_25 (v := -2) (by decide) ?_
        exact j_iret (pc := 27) dX8_tell_27 rfl hf
      · refine j_iload_n (pc := 20) 1 dX8_tell_20 rfl rfl ?_
        refine j_iload_n (pc := 21) 2 dX8_tell_21 rfl rfl ?_
        refine j_icmp_le (pc := 22) (tgt := 28) dX8_tell_22 (by decide) hf (fun _ hf => ?_) (fun _ hf => ?_)
        · refine j_aload_n (pc := 28) 0 dX8_tell_28 rfl rfl ?_
          refine j_getR (pc := 29) (n := 1) dX8_tell_29 fl332 k0 (by decide) rfl ?_
          refine j_iload_n (pc := 32) 1 dX8_tell_32 rfl rfl ?_
          refine j_putI (pc := 33) dX8_tell_33 fl119 fp3_6 (lk_8_0 k0) (by decide) rfl hf (fun m2 hf => ?_)
          refine j_aload_n (pc := 36) 0 dX8_tell_36 rfl rfl ?_
          refine j_getR (pc := 37) (n := 1) dX8_tell_37 fl332 k0 (by decide) rfl ?_
          refine j_iload_n (pc := 40) 2 dX8_tell_40 rfl rfl ?_
          refine j_putI (pc := 41) dX8_tell_41 fl121 fp3_7 (lk_8_0 k0) (by decide) rfl hf (fun m3 hf => ?_)
          refine j_aload_n (pc := 44) 0 dX8_tell_44 rfl rfl ?_
          refine j_getR (pc := 45) (n := 56) dX8_tell_45 fl337 k0 (by decide) rfl ?_
          refine j_callVv (pc := 48) (d := d) (As := []) (st := []) dX8_tell_48 s377 (lk_8_5 k0) (by decide) rfl rfl (by decide) (Nat.le_of_ble_eq_true rfl) (fun q hq => t_X2_forget (lk_8_5 k0) hq) hf (fun q4 hf => ?_)
          refine j_iconst (pc := 51) dX8_tell_51 (v := 1) (by decide) ?_
          exact j_iret (pc := 52) dX8_tell_52 rfl hf
        · refine j_bipush (pc := 25) dX8_tell_25 (v := -2) (by decide) ?_
          exact j_iret (pc := 27) dX8_tell_27 rfl hf
