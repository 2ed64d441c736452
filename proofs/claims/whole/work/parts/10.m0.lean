def f_X2_forget (a0 : Nat) (h : Hp) : Option (Unit × Hp) := lt (sI h a0 4 1) (fun m1 => some ((), m1))
set_option maxHeartbeats 4000000 in
set_option maxRecDepth 100000 in
theorem t_X2_forget {l : Launch} {D : va_G} {ad : Nat → Nat} {cA : Nat → ClassId} {d : Nat} {a0 : Nat} (k0 : kd a0 = 2) {h : Hp} {o : Unit × Hp} (hf : f_X2_forget a0 h = some o) : Cr l D ad cA d yX2_forget cX2_forget 1 (none) [.ref (ad a0)] h (none) o.2 := by
  unfold f_X2_forget at hf
  refine Cr_of (by decide +kernel) rfl (Nat.le_of_ble_eq_true rfl) (lv0 := [(0, .ref (ad a0))]) rfl ?_
  refine j_aload_n (pc := 0) 0 dX2_forget_0 rfl rfl ?_
  refine j_iconst (pc := 1) dX2_forget_1 (v := 1) (by decide) ?_
  refine j_putZ (pc := 2) dX2_forget_2 fl269 fp2_4 k0 (by decide) rfl (by decide) hf (fun m1 hf => ?_)
  exact j_vret (pc := 5) dX2_forget_5 rfl hf
def f_X3_sumOfAll_4 (k4 : Nat → Int32 → Int32 → Hp → Option (Int32 × Hp)) (a0 : Nat) (x1 : Int32) (x2 : Int32) (h : Hp) : Option (Int32 × Hp) := if 24 ≤ x2 then (some (x1, h)) else (if ix x2 24 = true then (lt (x1 + (h.1 (a0 + 1) (x2).toNatClampNeg)) (fun v1 => lt (x2 + 1) (fun v2 => k4 a0 v1 v2 h))) else none)
set_option maxHeartbeats 4000000 in
set_option maxRecDepth 100000 in
theorem t_X3_sumOfAll_4 {l : Launch} {D : va_G} {ad : Nat → Nat} {cA : Nat → ClassId} {d : Nat} {o : Int32 × Hp}  : ∀ (n : Nat) {a0 : Nat} {x1 : Int32} {x2 : Int32} (k0 : kd a0 = 3) {h : Hp}, lp (F := Nat → Int32 → Int32 → Hp → Option (Int32 × Hp)) (fun _ _ _ _ => none) (f_X3_sumOfAll_4) n a0 x1 x2 h = some o → J l D ad cA (fun _ => True) (rmd d) (0, 0) (mQ D ad cA (some (.int o.1)) o.2) cX3_sumOfAll RX3 3 (some .int) 4 [(0, .ref (ad a0)), (1, .int x1), (2, .int x2)] [] h := by
  intro n
  induction n with
  | zero =>
    intro a0 x1 x2 k0 h hf
    have hf : (none : Option (Int32 × Hp)) = some o := hf
    cases hf
  | succ n hk4 =>
    intro a0 x1 x2 k0 h hf
    have hf : f_X3_sumOfAll_4  (lp (F := Nat → Int32 → Int32 → Hp → Option (Int32 × Hp)) (fun _ _ _ _ => none) (f_X3_sumOfAll_4) n) a0 x1 x2 h = some o := hf
    unfold f_X3_sumOfAll_4 at hf
    refine j_iload_n (pc := 4) 2 dX3_sumOfAll_4 rfl rfl ?_
    refine j_bipush (pc := 5) dX3_sumOfAll_5 (v := 24) (by decide) ?_
    refine j_icmp_ge (pc := 7) (tgt := 25) dX3_sumOfAll_7 (by decide) hf (fun _ hf => ?_) (fun _ hf => ?_)
    · refine j_iload_n (pc := 25) 1 dX3_sumOfAll_25 rfl rfl ?_
      exact j_iret (pc := 26) dX3_sumOfAll_26 rfl hf
    · refine j_iload_n (pc := 10) 1 dX3_sumOfAll_10 rfl rfl ?_
      refine j_aload_n (pc := 11) 0 dX3_sumOfAll_11 rfl rfl ?_
      refine j_getR (pc := 12) (n := 1) dX3_sumOfAll_12 fl98 k0 (by decide) rfl ?_
      refine j_iload_n (pc := 15) 2 dX3_sumOfAll_15 rfl rfl ?_
      refine j_iaload (pc := 16) dX3_sumOfAll_16 (lk_3_0 k0) (ll_3_0 k0) hf (fun _ hf => ?_)
      refine j_iadd (pc := 17) dX3_sumOfAll_17  ?_
      refine j_istore_nN (pc := 18) (lv' := fun v1 => [(1, .int v1), (0, .ref (ad a0)), (2, .int x2)]) dX3_sumOfAll_18 rfl (by decide) (fun _ => rfl) hf (fun v1 hf => ?_)
      refine j_iinc (pc := 19) 2 (c := 1) (lv' := fun v2 => [(2, .int v2), (1, .int v1), (0, .ref (ad a0))]) dX3_sumOfAll_19 rfl (by decide) (by decide) (fun _ => rfl) hf (fun v2 hf => ?_)
      refine j_goto (pc := 22) (tgt := 4) dX3_sumOfAll_22 (by decide) ?_
      refine j_sub [2, 1, 0] rfl ?_
      exact hk4 k0 hf
def f_X3_sumOfAll (a0 : Nat) (h : Hp) : Option (Int32 × Hp) := lp (F := Nat → Int32 → Int32 → Hp → Option (Int32 × Hp)) (fun _ _ _ _ => none) (f_X3_sumOfAll_4) 1000 a0 0 0 h
set_option maxHeartbeats 4000000 in
set_option maxRecDepth 100000 in
theorem t_X3_sumOfAll {l : Launch} {D : va_G} {ad : Nat → Nat} {cA : Nat → ClassId} {d : Nat} {a0 : Nat} (k0 : kd a0 = 3) {h : Hp} {o : Int32 × Hp} (hf : f_X3_sumOfAll a0 h = some o) : Cr l D ad cA d yX3_sumOfAll cX3_sumOfAll 3 (some .int) [.ref (ad a0)] h (some (.int o.1)) o.2 := by
  unfold f_X3_sumOfAll at hf
  refine Cr_of (by decide +kernel) rfl (Nat.le_of_ble_eq_true rfl) (lv0 := [(0, .ref (ad a0))]) rfl ?_
  refine j_iconst (pc := 0) dX3_sumOfAll_0 (v := 0) (by decide) ?_
  refine j_istore_n (pc := 1) (lv' := [(1, .int 0), (0, .ref (ad a0))]) dX3_sumOfAll_1 rfl (by decide) rfl ?_
  refine j_iconst (pc := 2) dX3_sumOfAll_2 (v := 0) (by decide) ?_
  refine j_istore_n (pc := 3) (lv' := [(2, .int 0), (1, .int 0), (0, .ref (ad a0))]) dX3_sumOfAll_3 rfl (by decide) rfl ?_
  refine j_sub [2, 1, 0] rfl ?_
  exact t_X3_sumOfAll_4  1000 k0 hf
def f_X8_cellOf (x0 : Int32) (x1 : Int32) (h : Hp) : Option (Int32 × Hp) := some ((x0 * 6) + x1, h)
set_option maxHeartbeats 4000000 in
set_option maxRecDepth 100000 in
theorem t_X8_cellOf {l : Launch} {D : va_G} {ad : Nat → Nat} {cA : Nat → ClassId} {d : Nat} {x0 : Int32} {x1 : Int32}  {h : Hp} {o : Int32 × Hp} (hf : f_X8_cellOf x0 x1 h = some o) : Cr l D ad cA d yX8_cellOf cX8_cellOf 2 (some .int) [.int x0, .int x1] h (some (.int o.1)) o.2 := by
  unfold f_X8_cellOf at hf
  refine Cr_of (by decide +kernel) rfl (Nat.le_of_ble_eq_true rfl) (lv0 := [(0, .int x0), (1, .int x1)]) rfl ?_
  refine j_iload_n (pc := 0) 0 dX8_cellOf_0 rfl rfl ?_
  refine j_bipush (pc := 1) dX8_cellOf_1 (v := 6) (by decide) ?_
  refine j_imul (pc := 3) dX8_cellOf_3  ?_
  refine j_iload_n (pc := 4) 1 dX8_cellOf_4 rfl rfl ?_
  refine j_iadd (pc := 5) dX8_cellOf_5  ?_
  exact j_iret (pc := 6) dX8_cellOf_6 rfl hf
def f_X8_within (x0 : Int32) (x1 : Int32) (h : Hp) : Option (Int32 × Hp) := if x0 < 0 then (if isB 0 = true then some (0, h) else none) else (if x1 < x0 then (if isB 0 = true then some (0, h) else none) else (if isB 1 = true then some (1, h) else none))
set_option maxHeartbeats 4000000 in
set_option maxRecDepth 100000 in
theorem t_X8_within {l : Launch} {D : va_G} {ad : Nat → Nat} {cA : Nat → ClassId} {d : Nat} {x0 : Int32} {x1 : Int32}  {h : Hp} {o : Int32 × Hp} (hf : f_X8_within x0 x1 h = some o) : Cr l D ad cA d yX8_within cX8_within 2 (some .boolean) [.int x0, .int x1] h (some (.int o.1)) o.2 := by
  unfold f_X8_within at hf
  refine Cr_of (by decide +kernel) rfl (Nat.le_of_ble_eq_true rfl) (lv0 := [(0, .int x0), (1, .int x1)]) rfl ?_
  refine j_iload_n (pc := 0) 0 dX8_within_0 rfl rfl ?_
  refine j_if_lt (pc := 1) (tgt := 13) dX8_within_1 (by decide) hf (fun _ hf => ?_) (fun _ hf => ?_)
  · refine j_iconst (pc := 13) dX8_within_13 (v := 0) (by decide) ?_
    exact j_zret (pc := 14) dX8_within_14 rfl hf
  · refine j_iload_n (pc := 4) 0 dX8_within_4 rfl rfl ?_
    refine j_iload_n (pc := 5) 1 dX8_within_5 rfl rfl ?_
    refine j_icmp_gt (pc := 6) (tgt := 13) dX8_within_6 (by decide) hf (fun _ hf => ?_) (fun _ hf => ?_)
    · refine j_iconst (pc := 13) dX8_within_13 (v := 0) (by decide) ?_
      exact j_zret (pc := 14) dX8_within_14 rfl hf
    · refine j_iconst (pc := 9) dX8_within_9 (v := 1) (by decide) ?_
      refine j_goto (pc := 10) (tgt := 14) dX8_within_10 (by decide) ?_
      exact j_zret (pc := 14) dX8_within_14 rfl hf
def f_X3_sumOfWard_4 (k4 : Nat → Int32 → Int32 → Int32 → Hp → Option (Int32 × Hp)) (a0 : Nat) (x1 : Int32) (x2 : Int32) (x3 : Int32) (h : Hp) : Option (Int32 × Hp) := if 6 ≤ x3 then (some (x2, h)) else ((f_X8_cellOf x1 x3 h).bind (fun q1 => if ix q1.1 24 = true then (lt (x2 + (q1.2.1 (a0 + 1) (q1.1).toNatClampNeg)) (fun v2 => lt (x3 + 1) (fun v3 => k4 a0 x1 v2 v3 q1.2))) else none))
set_option maxHeartbeats 4000000 in
set_option maxRecDepth 100000 in
theorem t_X3_sumOfWard_4 {l : Launch} {D : va_G} {ad : Nat → Nat} {cA : Nat → ClassId} {d : Nat} (hdp : 0 ≤ d) {o : Int32 × Hp}  : ∀ (n : Nat) {a0 : Nat} {x1 : Int32} {x2 : Int32} {x3 : Int32} (k0 : kd a0 = 3) {h : Hp}, lp (F := Nat → Int32 → Int32 → Int32 → Hp → Option (Int32 × Hp)) (fun _ _ _ _ _ => none) (f_X3_sumOfWard_4) n a0 x1 x2 x3 h = some o → J l D ad cA (fun _ => True) (rmd (d + 1)) (0, 0) (mQ D ad cA (some (.int o.1)) o.2) cX3_sumOfWard RX3 4 (some .int) 4 [(0, .ref (ad a0)), (1, .int x1), (2, .int x2), (3, .int x3)] [] h := by
  intro n
  induction n with
  | zero =>
    intro a0 x1 x2 x3 k0 h hf
    have hf : (none : Option (Int32 × Hp)) = some o := hf
    cases hf
  | succ n hk4 =>
    intro a0 x1 x2 x3 k0 h hf
    have hf : f_X3_sumOfWard_4  (lp (F := Nat → Int32 → Int32 → Int32 → Hp → Option (Int32 × Hp)) (fun _ _ _ _ _ => none) (f_X3_sumOfWard_4) n) a0 x1 x2 x3 h = some o := hf
    unfold f_X3_sumOfWard_4 at hf
    refine j_iload_n (pc := 4) 3 dX3_sumOfWard_4 rfl rfl ?_
    refine j_bipush (pc := 5) dX3_sumOfWard_5 (v := 6) (by decide) ?_
    refine j_icmp_ge (pc := 7) (tgt := 29) dX3_sumOfWard_7 (by decide) hf (fun _ hf => ?_) (fun _ hf => ?_)
    · refine j_iload_n (pc := 29) 2 dX3_sumOfWard_29 rfl rfl ?_
      exact j_iret (pc := 30) dX3_sumOfWard_30 rfl hf
    · refine j_iload_n (pc := 10) 2 dX3_sumOfWard_10 rfl rfl ?_
      refine j_aload_n (pc := 11) 0 dX3_sumOfWard_11 rfl rfl ?_
      refine j_getR (pc := 12) (n := 1) dX3_sumOfWard_12 fl98 k0 (by decide) rfl ?_
      refine j_iload_n (pc := 15) 1 dX3_sumOfWard_15 rfl rfl ?_
      refine j_iload_n (pc := 16) 3 dX3_sumOfWard_16 rfl rfl ?_
      refine j_callNi (pc := 17) (d := d) (As := [.int x1, .int x3]) (st := [.ref (ad (a0 + 1)), .int x2]) dX3_sumOfWard_17 s393 rfl rfl (by decide) (Nat.le_of_ble_eq_true rfl) (fun q hq => t_X8_cellOf  hq) hf (fun q1 hf => ?_)
      refine j_iaload (pc := 20) dX3_sumOfWard_20 (lk_3_0 k0) (ll_3_0 k0) hf (fun _ hf => ?_)
      refine j_iadd (pc := 21) dX3_sumOfWard_21  ?_
      refine j_istore_nN (pc := 22) (lv' := fun v2 => [(2, .int v2), (0, .ref (ad a0)), (1, .int x1), (3, .int x3)]) dX3_sumOfWard_22 rfl (by decide) (fun _ => rfl) hf (fun v2 hf => ?_)
      refine j_iinc (pc := 23) 3 (c := 1) (lv' := fun v3 => [(3, .int v3), (2, .int v2), (0, .ref (ad a0)), (1, .int x1)]) dX3_sumOfWard_23 rfl (by decide) (by decide) (fun _ => rfl) hf (fun v3 hf => ?_)
      refine j_goto (pc := 26) (tgt := 4) dX3_sumOfWard_26 (by decide) ?_
      refine j_sub [2, 3, 1, 0] rfl ?_
      exact hk4 k0 hf
def f_X3_sumOfWard (a0 : Nat) (x1 : Int32) (h : Hp) : Option (Int32 × Hp) := lp (F := Nat → Int32 → Int32 → Int32 → Hp → Option (Int32 × Hp)) (fun _ _ _ _ _ => none) (f_X3_sumOfWard_4) 1000 a0 x1 0 0 h
set_option maxHeartbeats 4000000 in
set_option maxRecDepth 100000 in
theorem t_X3_sumOfWard {l : Launch} {D : va_G} {ad : Nat → Nat} {cA : Nat → ClassId} {d : Nat} (hdp : 1 ≤ d) {a0 : Nat} {x1 : Int32} (k0 : kd a0 = 3) {h : Hp} {o : Int32 × Hp} (hf : f_X3_sumOfWard a0 x1 h = some o) : Cr l D ad cA d yX3_sumOfWard cX3_sumOfWard 4 (some .int) [.ref (ad a0), .int x1] h (some (.int o.1)) o.2 := by
  obtain ⟨d, rfl⟩ : ∃ e, d = e + 1 := ⟨d - 1, by omega⟩
  have hdp : 0 ≤ d := by omega
  unfold f_X3_sumOfWard at hf
  refine Cr_of (by decide +kernel) rfl (Nat.le_of_ble_eq_true rfl) (lv0 := [(0, .ref (ad a0)), (1, .int x1)]) rfl ?_
  refine j_iconst (pc := 0) dX3_sumOfWard_0 (v := 0) (by decide) ?_
  refine j_istore_n (pc := 1) (lv' := [(2, .int 0), (0, .ref (ad a0)), (1, .int x1)]) dX3_sumOfWard_1 rfl (by decide) rfl ?_
  refine j_iconst (pc := 2) dX3_sumOfWard_2 (v := 0) (by decide) ?_
  refine j_istore_n (pc := 3) (lv' := [(3, .int 0), (2, .int 0), (0, .ref (ad a0)), (1, .int x1)]) dX3_sumOfWard_3 rfl (by decide) rfl ?_
  refine j_sub [2, 3, 1, 0] rfl ?_
  exact t_X3_sumOfWard_4 hdp  1000 k0 hf
def f_X3_totalOf_4 (k4 : Nat → Int32 → Int32 → Int32 → Hp → Option (Int32 × Hp)) (a0 : Nat) (x1 : Int32) (x2 : Int32) (x3 : Int32) (h : Hp) : Option (Int32 × Hp) := if 4 ≤ x3 then (some (x2, h)) else ((f_X8_cellOf x3 x1 h).bind (fun q1 => if ix q1.1 24 = true then (lt (x2 + (q1.2.1 (a0 + 1) (q1.1).toNatClampNeg)) (fun v2 => lt (x3 + 1) (fun v3 => k4 a0 x1 v2 v3 q1.2))) else none))
set_option maxHeartbeats 4000000 in
set_option maxRecDepth 100000 in
theorem t_X3_totalOf_4 {l : Launch} {D : va_G} {ad : Nat → Nat} {cA : Nat → ClassId} {d : Nat} (hdp : 0 ≤ d) {o : Int32 × Hp}  : ∀ (n : Nat) {a0 : Nat} {x1 : Int32} {x2 : Int32} {x3 : Int32} (k0 : kd a0 = 3) {h : Hp}, lp (F := Nat → Int32 → Int32 → Int32 → Hp → Option (Int32 × Hp)) (fun _ _ _ _ _ => none) (f_X3_totalOf_4) n a0 x1 x2 x3 h = some o → J l D ad cA (fun _ => True) (rmd (d + 1)) (0, 0) (mQ D ad cA (some (.int o.1)) o.2) cX3_totalOf RX3 4 (some .int) 4 [(0, .ref (ad a0)), (1, .int x1), (2, .int x2), (3, .int x3)] [] h := by
  intro n
  induction n with
  | zero =>
    intro a0 x1 x2 x3 k0 h hf
    have hf : (none : Option (Int32 × Hp)) = some o := hf
    cases hf
  | succ n hk4 =>
    intro a0 x1 x2 x3 k0 h hf
    have hf : f_X3_totalOf_4  (lp (F := Nat → Int32 → Int32 → Int32 → Hp → Option (Int32 × Hp)) (fun _ _ _ _ _ => none) (f_X3_totalOf_4) n) a0 x1 x2 x3 h = some o := hf
    unfold f_X3_totalOf_4 at hf
    refine j_iload_n (pc := 4) 3 dX3_totalOf_4 rfl rfl ?_
    refine j_iconst (pc := 5) dX3_totalOf_5 (v := 4) (by decide) ?_
    refine j_icmp_ge (pc := 6) (tgt := 28) dX3_totalOf_6 (by decide) hf (fun _ hf => ?_) (fun _ hf => ?_)
    · refine j_iload_n (pc := 28) 2 dX3_totalOf_28 rfl rfl ?_
      exact j_iret (pc := 29) dX3_totalOf_29 rfl hf
    · refine j_iload_n (pc := 9) 2 dX3_totalOf_9 rfl rfl ?_
      refine j_aload_n (pc := 10) 0 dX3_totalOf_10 rfl rfl ?_
      refine j_getR (pc := 11) (n := 1) dX3_totalOf_11 fl98 k0 (by decide) rfl ?_
      refine j_iload_n (pc := 14) 3 dX3_totalOf_14 rfl rfl ?_
      refine j_iload_n (pc := 15) 1 dX3_totalOf_15 rfl rfl ?_
      refine j_callNi (pc := 16) (d := d) (As := [.int x3, .int x1]) (st := [.ref (ad (a0 + 1)), .int x2]) dX3_totalOf_16 s393 rfl rfl (by decide) (Nat.le_of_ble_eq_true rfl) (fun q hq => t_X8_cellOf  hq) hf (fun q1 hf => ?_)
      refine j_iaload (pc := 19) dX3_totalOf_19 (lk_3_0 k0) (ll_3_0 k0) hf (fun _ hf => ?_)
      refine j_iadd (pc := 20) dX3_totalOf_20  ?_
      refine j_istore_nN (pc := 21) (lv' := fun v2 => [(2, .int v2), (0, .ref (ad a0)), (1, .int x1), (3, .int x3)]) dX3_totalOf_21 rfl (by decide) (fun _ => rfl) hf (fun v2 hf => ?_)
      refine j_iinc (pc := 22) 3 (c := 1) (lv' := fun v3 => [(3, .int v3), (2, .int v2), (0, .ref (ad a0)), (1, .int x1)]) dX3_totalOf_22 rfl (by decide) (by decide) (fun _ => rfl) hf (fun v3 hf => ?_)
      refine j_goto (pc := 25) (tgt := 4) dX3_totalOf_25 (by decide) ?_
      refine j_sub [2, 3, 1, 0] rfl ?_
      exact hk4 k0 hf
def f_X3_totalOf (a0 : Nat) (x1 : Int32) (h : Hp) : Option (Int32 × Hp) := lp (F := Nat → Int32 → Int32 → Int32 → Hp → Option (Int32 × Hp)) (fun _ _ _ _ _ => none) (f_X3_totalOf_4) 1000 a0 x1 0 0 h
set_option maxHeartbeats 4000000 in
set_option maxRecDepth 100000 in
theorem t_X3_totalOf {l : Launch} {D : va_G} {ad : Nat → Nat} {cA : Nat → ClassId} {d : Nat} (hdp : 1 ≤ d) {a0 : Nat} {x1 : Int32} (k0 : kd a0 = 3) {h : Hp} {o : Int32 × Hp} (hf : f_X3_totalOf a0 x1 h = some o) : Cr l D ad cA d yX3_totalOf cX3_totalOf 4 (some .int) [.ref (ad a0), .int x1] h (some (.int o.1)) o.2 := by
  obtain ⟨d, rfl⟩ : ∃ e, d = e + 1 := ⟨d - 1, by omega⟩
  have hdp : 0 ≤ d := by omega
  unfold f_X3_totalOf at hf
  refine Cr_of (by decide +kernel) rfl (Nat.le_of_ble_eq_true rfl) (lv0 := [(0, .ref (ad a0)), (1, .int x1)]) rfl ?_
  refine j_iconst (pc := 0) dX3_totalOf_0 (v := 0) (by decide) ?_
  refine j_istore_n (pc := 1) (lv' := [(2, .int 0), (0, .ref (ad a0)), (1, .int x1)]) dX3_totalOf_1 rfl (by decide) rfl ?_
  refine j_iconst (pc := 2) dX3_totalOf_2 (v := 0) (by decide) ?_
  refine j_istore_n (pc := 3) (lv' := [(3, .int 0), (2, .int 0), (0, .ref (ad a0)), (1, .int x1)]) dX3_totalOf_3 rfl (by decide) rfl ?_
  refine j_sub [2, 3, 1, 0] rfl ?_
  exact t_X3_totalOf_4 hdp  1000 k0 hf
def f_X8_seats (a0 : Nat) (x1 : Int32) (x2 : Int32) (h : Hp) : Option (Int32 × Hp) := (f_X8_within x1 3 h).bind (fun q1 => if q1.1 = 0 then (some ((-1), q1.2)) else ((f_X8_within x2 30 q1.2).bind (fun q2 => if q2.1 = 0 then (some ((-2), q2.2)) else (if ix x1 4 = true then (lt (q2.2.1 (a0 + 1 + 2) (x1).toNatClampNeg) (fun v3 => if ix x1 4 = true then (lt (sI q2.2 (a0 + 1 + 2) (x1).toNatClampNeg x2) (fun m4 => (f_X2_forget (a0 + 56) m4).bind (fun q5 => some (v3, q5.2)))) else none)) else none))))
set_option maxHeartbeats 4000000 in
set_option maxRecDepth 100000 in
theorem t_X8_seats {l : Launch} {D : va_G} {ad : Nat → Nat} {cA : Nat → ClassId} {d : Nat} (hdp : 1 ≤ d) {a0 : Nat} {x1 : Int32} {x2 : Int32} (k0 : kd a0 = 8) {h : Hp} {o : Int32 × Hp} (hf : f_X8_seats a0 x1 x2 h = some o) : Cr l D ad cA d yX8_seats cX8_seats 4 (some .int) [.ref (ad a0), .int x1, .int x2] h (some (.int o.1)) o.2 := by
  obtain ⟨d, rfl⟩ : ∃ e, d = e + 1 := ⟨d - 1, by omega⟩
  have hdp : 0 ≤ d := by omega
  unfold f_X8_seats at hf
  refine Cr_of (by decide +kernel) rfl (Nat.le_of_ble_eq_true rfl) (lv0 := [(0, .ref (ad a0)), (1, .int x1), (2, .int x2)]) rfl ?_
  refine j_iload_n (pc := 0) 1 dX8_seats_0 rfl rfl ?_
  refine j_iconst (pc := 1) dX8_seats_1 (v := 3) (by decide) ?_
  refine j_callSi (pc := 2) (d := d) (As := [.int x1, .int 3]) (st := []) dX8_seats_2 s370 rfl rfl (by decide) (Nat.le_of_ble_eq_true rfl) (fun q hq => t_X8_within  hq) hf (fun q1 hf => ?_)
  refine j_if_ne (pc := 5) (tgt := 10) dX8_seats_5 (by decide) hf (fun _ hf => ?_) (fun _ hf => ?_)
  · refine j_iload_n (pc := 10) 2 dX8_seats_10 rfl rfl ?_
    refine j_bipush (pc := 11) dX8_seats_11 (v := 30) (by decide) ?_
    refine j_callSi (pc := 13) (d := d) (As := [.int x2, .int 30]) (st := []) dX8_seats_13 s370 rfl rfl (by decide) (Nat.le_of_ble_eq_true rfl) (fun q hq => t_X8_within  hq) hf (fun q2 hf => ?_)
    refine j_if_ne (pc := 16) (tgt := 22) dX8_seats_16 (by decide) hf (fun _ hf => ?_) (fun _ hf => ?_)
    · refine j_aload_n (pc := 22) 0 dX8_seats_22 rfl rfl ?_
      refine j_getR (pc := 23) (n := 1) dX8_seats_23 fl332 k0 (by decide) rfl ?_
      refine j_getR (pc := 26) (n := 2) dX8_seats_26 fl104 (lk_8_0 k0) (by decide) rfl ?_
      refine j_iload_n (pc := 29) 1 dX8_seats_29 rfl rfl ?_
      refine j_iaload (pc := 30) dX8_seats_30 (lk_3_1 (lk_8_0 k0)) (ll_3_1 (lk_8_0 k0)) hf (fun _ hf => ?_)
      refine j_istore_nN (pc := 31) (lv' := fun v3 => [(3, .int v3), (0, .ref (ad a0)), (1, .int x1), (2, .int x2)]) dX8_seats_31 rfl (by decide) (fun _ => rfl) hf (fun v3 hf => ?_)
      refine j_aload_n (pc := 32) 1 dX8_seats_32 rfl rfl ?_
      refine j_getR (pc := 33) (n := 1) dX8_seats_33 fl332 k0 (by decide) rfl ?_
      refine j_getR (pc := 36) (n := 2) dX8_seats_36 fl104 (lk_8_0 k0) (by decide) rfl ?_
      refine j_iload_n (pc := 39) 2 dX8_seats_39 rfl rfl ?_
      refine j_iload_n (pc := 40) 3 dX8_seats_40 rfl rfl ?_
      refine j_iastore (pc := 41) dX8_seats_41 (lk_3_1 (lk_8_0 k0)) (ll_3_1 (lk_8_0 k0)) hf (fun m4 hf => ?_)
      refine j_aload_n (pc := 42) 1 dX8_seats_42 rfl rfl ?_
      refine j_getR (pc := 43) (n := 56) dX8_seats_43 fl337 k0 (by decide) rfl ?_
      refine j_callVv (pc := 46) (d := d) (As := []) (st := []) dX8_seats_46 s377 (lk_8_5 k0) (by decide) rfl rfl (by decide) (Nat.le_of_ble_eq_true rfl) (fun q hq => t_X2_forget (lk_8_5 k0) hq) hf (fun q5 hf => ?_)
      refine j_iload_n (pc := 49) 0 dX8_seats_49 rfl rfl ?_
      exact j_iret (pc := 50) dX8_seats_50 rfl hf
    · refine j_bipush (pc := 19) dX8_seats_19 (v := -2) (by decide) ?_
      exact j_iret (pc := 21) dX8_seats_21 rfl hf
  · refine j_iconst (pc := 8) dX8_seats_8 (v := -1) (by decide) ?_
    exact j_iret (pc := 9) dX8_seats_9 rfl hf
def f_X8_vote (a0 : Nat) (x1 : Int32) (x2 : Int32) (x3 : Int32) (h : Hp) : Option (Int32 × Hp) := (f_X8_within x1 3 h).bind (fun q1 => if q1.1 = 0 then (some ((-1), q1.2)) else ((f_X8_within x2 5 q1.2).bind (fun q2 => if q2.1 = 0 then (some ((-1), q2.2)) else ((f_X8_within x3 100000 q2.2).bind (fun q3 => if q3.1 = 0 then (some ((-2), q3.2)) else ((f_X8_cellOf x1 x2 q3.2).bind (fun q4 => if ix q4.1 24 = true then (lt (q4.2.1 (a0 + 1 + 1) (q4.1).toNatClampNeg) (fun v5 => (f_X8_cellOf x1 x2 q4.2).bind (fun q6 => if ix q6.1 24 = true then (lt (sI q6.2 (a0 + 1 + 1) (q6.1).toNatClampNeg x3) (fun m7 => (f_X2_forget (a0 + 56) m7).bind (fun q8 => some (v5, q8.2)))) else none))) else none)))))))
set_option maxHeartbeats 4000000 in
set_option maxRecDepth 100000 in
theorem t_X8_vote {l : Launch} {D : va_G} {ad : Nat → Nat} {cA : Nat → ClassId} {d : Nat} (hdp : 1 ≤ d) {a0 : Nat} {x1 : Int32} {x2 : Int32} {x3 : Int32} (k0 : kd a0 = 8) {h : Hp} {o : Int32 × Hp} (hf : f_X8_vote a0 x1 x2 x3 h = some o) : Cr l D ad cA d yX8_vote cX8_vote 5 (some .int) [.ref (ad a0), .int x1, .int x2, .int x3] h (some (.int o.1)) o.2 := by
  obtain ⟨d, rfl⟩ : ∃ e, d = e + 1 := ⟨d - 1, by omega⟩
  have hdp : 0 ≤ d := by omega
  unfold f_X8_vote at hf
  refine Cr_of (by decide +kernel) rfl (Nat.le_of_ble_eq_true rfl) (lv0 := [(0, .ref (ad a0)), (1, .int x1), (2, .int x2), (3, .int x3)]) rfl ?_
  refine j_iload_n (pc := 0) 1 dX8_vote_0 rfl rfl ?_
  refine j_iconst (pc := 1) dX8_vote_1 (v := 3) (by decide) ?_
  refine j_callSi (pc := 2) (d := d) (As := [.int x1, .int 3]) (st := []) dX8_vote_2 s370 rfl rfl (by decide) (Nat.le_of_ble_eq_true rfl) (fun q hq => t_X8_within  hq) hf (fun q1 hf => ?_)
  refine j_if_eq (pc := 5) (tgt := 16) dX8_vote_5 (by decide) hf (fun _ hf => ?_) (fun _ hf => ?_)
  · refine j_iconst (pc := 16) dX8_vote_16 (v := -1) (by decide) ?_
    exact j_iret (pc := 17) dX8_vote_17 rfl hf
  · refine j_iload_n (pc := 8) 2 dX8_vote_8 rfl rfl ?_
    refine j_iconst (pc := 9) dX8_vote_9 (v := 5) (by decide) ?_
    refine j_callSi (pc := 10) (d := d) (As := [.int x2, .int 5]) (st := []) dX8_vote_10 s370 rfl rfl (by decide) (Nat.le_of_ble_eq_true rfl) (fun q hq => t_X8_within  hq) hf (fun q2 hf => ?_)
    refine j_if_ne (pc := 13) (tgt := 18) dX8_vote_13 (by decide) hf (fun _ hf => ?_) (fun _ hf => ?_)
    · refine j_iload_n (pc := 18) 3 dX8_vote_18 rfl rfl ?_
      refine j_ldc (pc := 19) dX8_vote_19 (v := 100000) w_c373 ?_
      refine j_callSi (pc := 21) (d := d) (As := [.int x3, .int 100000]) (st := []) dX8_vote_21 s370 rfl rfl (by decide) (Nat.le_of_ble_eq_true rfl) (fun q hq => t_X8_within  hq) hf (fun q3 hf => ?_)
      refine j_if_ne (pc := 24) (tgt := 30) dX8_vote_24 (by decide) hf (fun _ hf => ?_) (fun _ hf => ?_)
      · refine j_aload_n (pc := 30) 0 dX8_vote_30 rfl rfl ?_
        refine j_getR (pc := 31) (n := 1) dX8_vote_31 fl332 k0 (by decide) rfl ?_
        refine j_getR (pc := 34) (n := 1) dX8_vote_34 fl99 (lk_8_0 k0) (by decide) rfl ?_
        refine j_iload_n (pc := 37) 1 dX8_vote_37 rfl rfl ?_
        refine j_iload_n (pc := 38) 2 dX8_vote_38 rfl rfl ?_
        refine j_callSi (pc := 39) (d := d) (As := [.int x1, .int x2]) (st := [.ref (ad (a0 + 1 + 1))]) dX8_vote_39 s374 rfl rfl (by decide) (Nat.le_of_ble_eq_true rfl) (fun q hq => t_X8_cellOf  hq) hf (fun q4 hf => ?_)
        refine j_iaload (pc := 42) dX8_vote_42 (lk_3_0 (lk_8_0 k0)) (ll_3_0 (lk_8_0 k0)) hf (fun _ hf => ?_)
        refine j_istoreN (pc := 43) (lv' := fun v5 => [(4, .int v5), (0, .ref (ad a0)), (1, .int x1), (2, .int x2), (3, .int x3)]) dX8_vote_43 (by decide) (fun _ => rfl) hf (fun v5 hf => ?_)
        refine j_aload_n (pc := 45) 1 dX8_vote_45 rfl rfl ?_
        refine j_getR (pc := 46) (n := 1) dX8_vote_46 fl332 k0 (by decide) rfl ?_
        refine j_getR (pc := 49) (n := 1) dX8_vote_49 fl99 (lk_8_0 k0) (by decide) rfl ?_
        refine j_iload_n (pc := 52) 2 dX8_vote_52 rfl rfl ?_
        refine j_iload_n (pc := 53) 3 dX8_vote_53 rfl rfl ?_
        refine j_callSi (pc := 54) (d := d) (As := [.int x1, .int x2]) (st := [.ref (ad (a0 + 1 + 1))]) dX8_vote_54 s374 rfl rfl (by decide) (Nat.le_of_ble_eq_true rfl) (fun q hq => t_X8_cellOf  hq) hf (fun q6 hf => ?_)
        refine j_iload_n (pc := 57) 4 dX8_vote_57 rfl rfl ?_
        refine j_iastore (pc := 58) dX8_vote_58 (lk_3_0 (lk_8_0 k0)) (ll_3_0 (lk_8_0 k0)) hf (fun m7 hf => ?_)
        refine j_aload_n (pc := 59) 1 dX8_vote_59 rfl rfl ?_
        refine j_getR (pc := 60) (n := 56) dX8_vote_60 fl337 k0 (by decide) rfl ?_
        refine j_callVv (pc := 63) (d := d) (As := []) (st := []) dX8_vote_63 s377 (lk_8_5 k0) (by decide) rfl rfl (by decide) (Nat.le_of_ble_eq_true rfl) (fun q hq => t_X2_forget (lk_8_5 k0) hq) hf (fun q8 hf => ?_)
        refine j_iload (pc := 66) 0 dX8_vote_66 rfl ?_
        exact j_iret (pc := 68) dX8_vote_68 rfl hf
      · refine j_bipush (pc := 27) dX8_vote_27 (v := -2) (by decide) ?_
        exact j_iret (pc := 29) dX8_vote_29 rfl hf
    · refine j_iconst (pc := 16) dX8_vote_16 (v := -1) (by decide) ?_
      exact j_iret (pc := 17) dX8_vote_17 rfl hf
def f_X8_votes (a0 : Nat) (x1 : Int32) (x2 : Int32) (h : Hp) : Option (Int32 × Hp) := if x1 < ((-1)) then (some ((-1), h)) else (if 4 ≤ x1 then (some ((-1), h)) else (if x2 < ((-1)) then (some ((-1), h)) else (if x2 < 6 then (if x1 = ((-1)) then (if x2 = ((-1)) then ((f_X3_sumOfAll (a0 + 1) h).bind (fun q4 => some (q4.1, q4.2))) else ((f_X3_totalOf (a0 + 1) x2 h).bind (fun q3 => some (q3.1, q3.2)))) else (if x2 = ((-1)) then ((f_X3_sumOfWard (a0 + 1) x1 h).bind (fun q2 => some (q2.1, q2.2))) else ((f_X8_cellOf x1 x2 h).bind (fun q1 => if ix q1.1 24 = true then (some (q1.2.1 (a0 + 1 + 1) (q1.1).toNatClampNeg, q1.2)) else none)))) else (some ((-1), h)))))
set_option maxHeartbeats 4000000 in
set_option maxRecDepth 100000 in
theorem t_X8_votes {l : Launch} {D : va_G} {ad : Nat → Nat} {cA : Nat → ClassId} {d : Nat} (hdp : 2 ≤ d) {a0 : Nat} {x1 : Int32} {x2 : Int32} (k0 : kd a0 = 8) {h : Hp} {o : Int32 × Hp} (hf : f_X8_votes a0 x1 x2 h = some o) : Cr l D ad cA d yX8_votes cX8_votes 3 (some .int) [.ref (ad a0), .int x1, .int x2] h (some (.int o.1)) o.2 := by
  obtain ⟨d, rfl⟩ : ∃ e, d = e + 1 := ⟨d - 1, by omega⟩
  have hdp : 1 ≤ d := by omega
  unfold f_X8_votes at hf
  refine Cr_of (by decide +kernel) rfl (Nat.le_of_ble_eq_true rfl) (lv0 := [(0, .ref (ad a0)), (1, .int x1), (2, .int x2)]) rfl ?_
  refine j_iload_n (pc := 0) 1 dX8_votes_0 rfl rfl ?_
  refine j_iconst (pc := 1) dX8_votes_1 (v := -1) (by decide) ?_
  refine j_icmp_lt (pc := 2) (tgt := 21) dX8_votes_2 (by decide) hf (fun _ hf => ?_) (fun _ hf => ?_)
  · refine j_iconst (pc := 21) dX8_votes_21 (v := -1) (by decide) ?_
    exact j_iret (pc := 22) dX8_votes_22 rfl hf
  · refine j_iload_n (pc := 5) 1 dX8_votes_5 rfl rfl ?_
    refine j_iconst (pc := 6) dX8_votes_6 (v := 4) (by decide) ?_
    refine j_icmp_ge (pc := 7) (tgt := 21) dX8_votes_7 (by decide) hf (fun _ hf => ?_) (fun _ hf => ?_)
    · refine j_iconst (pc := 21) dX8_votes_21 (v := -1) (by decide) ?_
      exact j_iret (pc := 22) dX8_votes_22 rfl hf
    · refine j_iload_n (pc := 10) 2 dX8_votes_10 rfl rfl ?_
      refine j_iconst (pc := 11) dX8_votes_11 (v := -1) (by decide) ?_
      refine j_icmp_lt (pc := 12) (tgt := 21) dX8_votes_12 (by decide) hf (fun _ hf => ?_) (fun _ hf => ?_)
      · refine j_iconst (pc := 21) dX8_votes_21 (v := -1) (by decide) ?_
        exact j_iret (pc := 22) dX8_votes_22 rfl hf
      · refine j_iload_n (pc := 15) 2 dX8_votes_15 rfl rfl ?_
        refine j_bipush (pc := 16) dX8_votes_16 (v := 6) (by decide) ?_
        refine j_icmp_lt (pc := 18) (tgt := 23) dX8_votes_18 (by decide) hf (fun _ hf => ?_) (fun _ hf => ?_)
        · refine j_iload_n (pc := 23) 1 dX8_votes_23 rfl rfl ?_
          refine j_iconst (pc := 24) dX8_votes_24 (v := -1) (by decide) ?_
          refine j_icmp_ne (pc := 25) (tgt := 52) dX8_votes_25 (by decide) hf (fun _ hf => ?_) (fun _ hf => ?_)
          · refine j_iload_n (pc := 52) 2 dX8_votes_52 rfl rfl ?_
            refine j_iconst (pc := 53) dX8_votes_53 (v := -1) (by decide) ?_
            refine j_icmp_ne (pc := 54) (tgt := 68) dX8_votes_54 (by decide) hf (fun _ hf => ?_) (fun _ hf => ?_)
            · refine j_aload_n (pc := 68) 0 dX8_votes_68 rfl rfl ?_
              refine j_getR (pc := 69) (n := 1) dX8_votes_69 fl332 k0 (by decide) rfl ?_
              refine j_getR (pc := 72) (n := 1) dX8_votes_72 fl99 (lk_8_0 k0) (by decide) rfl ?_
              refine j_iload_n (pc := 75) 1 dX8_votes_75 rfl rfl ?_
              refine j_iload_n (pc := 76) 2 dX8_votes_76 rfl rfl ?_
              refine j_callSi (pc := 77) (d := d) (As := [.int x1, .int x2]) (st := [.ref (ad (a0 + 1 + 1))]) dX8_votes_77 s374 rfl rfl (by decide) (Nat.le_of_ble_eq_true rfl) (fun q hq => t_X8_cellOf  hq) hf (fun q1 hf => ?_)
              refine j_iaload (pc := 80) dX8_votes_80 (lk_3_0 (lk_8_0 k0)) (ll_3_0 (lk_8_0 k0)) hf (fun _ hf => ?_)
              exact j_iret (pc := 81) dX8_votes_81 rfl hf
            · refine j_aload_n (pc := 57) 0 dX8_votes_57 rfl rfl ?_
              refine j_getR (pc := 58) (n := 1) dX8_votes_58 fl332 k0 (by decide) rfl ?_
              refine j_iload_n (pc := 61) 1 dX8_votes_61 rfl rfl ?_
              refine j_callVi (pc := 62) (d := d) (As := [.int x1]) (st := []) dX8_votes_62 s394 (lk_8_0 k0) (by decide) rfl rfl (by decide) (Nat.le_of_ble_eq_true rfl) (fun q hq => t_X3_sumOfWard (by omega) (lk_8_0 k0) hq) hf (fun q2 hf => ?_)
              refine j_goto (pc := 65) (tgt := 81) dX8_votes_65 (by decide) ?_
              exact j_iret (pc := 81) dX8_votes_81 rfl hf
          · refine j_iload_n (pc := 28) 2 dX8_votes_28 rfl rfl ?_
            refine j_iconst (pc := 29) dX8_votes_29 (v := -1) (by decide) ?_
            refine j_icmp_ne (pc := 30) (tgt := 43) dX8_votes_30 (by decide) hf (fun _ hf => ?_) (fun _ hf => ?_)
            · refine j_aload_n (pc := 43) 0 dX8_votes_43 rfl rfl ?_
              refine j_getR (pc := 44) (n := 1) dX8_votes_44 fl332 k0 (by decide) rfl ?_
              refine j_iload_n (pc := 47) 2 dX8_votes_47 rfl rfl ?_
              refine j_callVi (pc := 48) (d := d) (As := [.int x2]) (st := []) dX8_votes_48 s389 (lk_8_0 k0) (by decide) rfl rfl (by decide) (Nat.le_of_ble_eq_true rfl) (fun q hq => t_X3_totalOf (by omega) (lk_8_0 k0) hq) hf (fun q3 hf => ?_)
              exact j_iret (pc := 51) dX8_votes_51 rfl hf
            · refine j_aload_n (pc := 33) 0 dX8_votes_33 rfl rfl ?_
              refine j_getR (pc := 34) (n := 1) dX8_votes_34 fl332 k0 (by decide) rfl ?_
              refine j_callVi (pc := 37) (d := d) (As := []) (st := []) dX8_votes_37 s385 (lk_8_0 k0) (by decide) rfl rfl (by decide) (Nat.le_of_ble_eq_true rfl) (fun q hq => t_X3_sumOfAll (lk_8_0 k0) hq) hf (fun q4 hf => ?_)
              refine j_goto (pc := 40) (tgt := 51) dX8_votes_40 (by decide) ?_
              exact j_iret (pc := 51) dX8_votes_51 rfl hf
        · refine j_iconst (pc := 21) dX8_votes_21 (v := -1) (by decide) ?_
          exact j_iret (pc := 22) dX8_votes_22 rfl hf
