def f_X9_supposed_49  (a0 : Nat) (x5 : Int32) (x6 : Int32) (y0 : Int32) (h : Hp) : Option (Int32 × Hp) := if ix x5 44 = true then (lt (sI h (a0 + 1) (Int32.toNatClampNeg x5) x6) (fun m6 => some (y0, m6))) else none
set_option maxHeartbeats 4000000 in
set_option maxRecDepth 100000 in
theorem t_X9_supposed_49 {l : Launch} {D : va_G} {ad : Nat → Nat} {cA : Nat → ClassId} {d : Nat} (hdp : 7 ≤ d) {o : Int32 × Hp}  {a0 : Nat} {x5 : Int32} {x6 : Int32} {y0 : Int32} (k0 : kd a0 = 9) {h : Hp} (hf : f_X9_supposed_49  a0 x5 x6 y0 h = some o) : J l D ad cA (fun _ => True) (rmd (d + 1)) (0, 0) (mQ D ad cA (some (.int o.1)) o.2) cX9_supposed RX9 8 (some .int) 49 [(0, .ref (ad a0)), (5, .int x5), (6, .int x6)] [.int y0] h := by
  unfold f_X9_supposed_49 at hf
  refine j_istore (pc := 49) (lv' := [(7, .int y0), (0, .ref (ad a0)), (5, .int x5), (6, .int x6)]) dX9_supposed_49 (by decide) rfl ?_
  refine j_aload_n (pc := 51) 1 dX9_supposed_51 rfl rfl ?_
  refine j_getR (pc := 52) (n := 1) dX9_supposed_52 fl846 k0 (by decide) rfl ?_
  refine j_iload (pc := 55) 2 dX9_supposed_55 rfl ?_
  refine j_iload (pc := 57) 3 dX9_supposed_57 rfl ?_
  refine j_iastore (pc := 59) dX9_supposed_59 (lk_9_0 k0) (ll_9_0 k0) hf (fun m6 hf => ?_)
  refine j_iload (pc := 60) 0 dX9_supposed_60 rfl ?_
  exact j_iret (pc := 62) dX9_supposed_62 rfl hf
def f_X9_supposed (a0 : Nat) (x1 : Int32) (x2 : Int32) (x3 : Int32) (x4 : Int32) (h : Hp) : Option (Int32 × Hp) := lt ((6 * x1) + x2) (fun v1 => if ix v1 44 = true then (lt (h.1 (a0 + 1) (Int32.toNatClampNeg v1)) (fun v2 => if ix v1 44 = true then (lt (sI h (a0 + 1) (Int32.toNatClampNeg v1) x3) (fun m3 => (f_X9_wayNow a0 m3).bind (fun q4 => (f_X9_houses a0 q4.1 x4 q4.2).bind (fun q5 => if q5.1 = 0 then (f_X9_supposed_49  a0 v1 v2 ((-3)) q5.2) else (if ix x2 6 = true then (f_X9_supposed_49  a0 v1 v2 (q5.2.1 (a0 + 16) (Int32.toNatClampNeg x2)) q5.2) else none))))) else none)) else none)
set_option maxHeartbeats 4000000 in
set_option maxRecDepth 100000 in
theorem t_X9_supposed {l : Launch} {D : va_G} {ad : Nat → Nat} {cA : Nat → ClassId} {d : Nat} (hdp : 8 ≤ d) {a0 : Nat} {x1 : Int32} {x2 : Int32} {x3 : Int32} {x4 : Int32} (k0 : kd a0 = 9) {h : Hp} {o : Int32 × Hp} (hf : f_X9_supposed a0 x1 x2 x3 x4 h = some o) : Cr l D ad cA d yX9_supposed cX9_supposed 8 (some .int) [.ref (ad a0), .int x1, .int x2, .int x3, .int x4] h (some (.int o.1)) o.2 := by
  obtain ⟨d, rfl⟩ : ∃ e, d = e + 1 := ⟨d - 1, by omega⟩
  have hdp : 7 ≤ d := by omega
  unfold f_X9_supposed at hf
  refine Cr_of (by decide +kernel) rfl (Nat.le_of_ble_eq_true rfl) (lv0 := [(0, .ref (ad a0)), (1, .int x1), (2, .int x2), (3, .int x3), (4, .int x4)]) rfl ?_
  refine j_bipush (pc := 0) dX9_supposed_0 (v := 6) (by decide) ?_
  refine j_iload_n (pc := 2) 1 dX9_supposed_2 rfl rfl ?_
  refine j_imul (pc := 3) dX9_supposed_3  ?_
  refine j_iload_n (pc := 4) 2 dX9_supposed_4 rfl rfl ?_
  refine j_iadd (pc := 5) dX9_supposed_5  ?_
  refine j_istoreN (pc := 6) (lv' := fun v1 => [(5, .int v1), (0, .ref (ad a0)), (1, .int x1), (2, .int x2), (3, .int x3), (4, .int x4)]) dX9_supposed_6 (by decide) (fun _ => rfl) hf (fun v1 hf => ?_)
  refine j_aload_n (pc := 8) 1 dX9_supposed_8 rfl rfl ?_
  refine j_getR (pc := 9) (n := 1) dX9_supposed_9 fl846 k0 (by decide) rfl ?_
  refine j_iload (pc := 12) 0 dX9_supposed_12 rfl ?_
  refine j_iaload (pc := 14) dX9_supposed_14 (lk_9_0 k0) (ll_9_0 k0) hf (fun _ hf => ?_)
  refine j_istoreN (pc := 15) (lv' := fun v2 => [(6, .int v2), (5, .int v1), (0, .ref (ad a0)), (1, .int x1), (2, .int x2), (3, .int x3), (4, .int x4)]) dX9_supposed_15 (by decide) (fun _ => rfl) hf (fun v2 hf => ?_)
  refine j_aload_n (pc := 17) 2 dX9_supposed_17 rfl rfl ?_
  refine j_getR (pc := 18) (n := 1) dX9_supposed_18 fl846 k0 (by decide) rfl ?_
  refine j_iload (pc := 21) 1 dX9_supposed_21 rfl ?_
  refine j_iload_n (pc := 23) 5 dX9_supposed_23 rfl rfl ?_
  refine j_iastore (pc := 24) dX9_supposed_24 (lk_9_0 k0) (ll_9_0 k0) hf (fun m3 hf => ?_)
  refine j_aload_n (pc := 25) 2 dX9_supposed_25 rfl rfl ?_
  refine j_aload_n (pc := 26) 2 dX9_supposed_26 rfl rfl ?_
  refine j_callVi (pc := 27) (d := d) (As := []) (st := [.ref (ad a0)]) dX9_supposed_27 s1079 k0 (by decide) rfl rfl (by decide) (Nat.le_of_ble_eq_true rfl) (fun q hq => t_X9_wayNow k0 hq) hf (fun q4 hf => ?_)
  refine j_iload (pc := 30) 6 dX9_supposed_30 rfl ?_
  refine j_callVi (pc := 32) (d := d) (As := [.int q4.1, .int x4]) (st := []) dX9_supposed_32 s1118 k0 (by decide) rfl rfl (by decide) (Nat.le_of_ble_eq_true rfl) (fun q hq => t_X9_houses (by omega) k0 hq) hf (fun q5 hf => ?_)
  refine j_if_eq (pc := 35) (tgt := 47) dX9_supposed_35 (by decide) hf (fun _ hf => ?_) (fun _ hf => ?_)
  · refine j_bipush (pc := 47) dX9_supposed_47 (v := -3) (by decide) ?_
    refine j_sub [2, 1, 0] rfl ?_
    exact t_X9_supposed_49 hdp  k0 hf
  · refine j_aload_n (pc := 38) 2 dX9_supposed_38 rfl rfl ?_
    refine j_getR (pc := 39) (n := 16) dX9_supposed_39 fl868 k0 (by decide) rfl ?_
    refine j_iload_n (pc := 42) 4 dX9_supposed_42 rfl rfl ?_
    refine j_iaload (pc := 43) dX9_supposed_43 (lk_9_22 k0) (ll_9_22 k0) hf (fun _ hf => ?_)
    refine j_goto (pc := 44) (tgt := 49) dX9_supposed_44 (by decide) ?_
    refine j_sub [2, 1, 0] rfl ?_
    exact t_X9_supposed_49 hdp  k0 hf
def f_X9_given (a0 : Nat) (x1 : Int32) (x2 : Int32) (h : Hp) : Option (Int32 × Hp) := (f_X9_orderRefusal a0 x1 h).bind (fun q1 => if 0 ≤ q1.1 then ((f_X9_within (Int32.toInt64 x2) 0 (Int32.toInt64 ((q1.2.1 a0 24) - 1)) q1.2).bind (fun q2 => if q2.1 = 0 then (some ((-1), q2.2)) else (if ix x2 60 = true then (some (q2.2.1 (a0 + 17) (Int32.toNatClampNeg x2), q2.2)) else none))) else (some (q1.1, q1.2)))
set_option maxHeartbeats 4000000 in
set_option maxRecDepth 100000 in
theorem t_X9_given {l : Launch} {D : va_G} {ad : Nat → Nat} {cA : Nat → ClassId} {d : Nat} (hdp : 9 ≤ d) {a0 : Nat} {x1 : Int32} {x2 : Int32} (k0 : kd a0 = 9) {h : Hp} {o : Int32 × Hp} (hf : f_X9_given a0 x1 x2 h = some o) : Cr l D ad cA d yX9_given cX9_given 4 (some .int) [.ref (ad a0), .int x1, .int x2] h (some (.int o.1)) o.2 := by
  obtain ⟨d, rfl⟩ : ∃ e, d = e + 1 := ⟨d - 1, by omega⟩
  have hdp : 8 ≤ d := by omega
  unfold f_X9_given at hf
  refine Cr_of (by decide +kernel) rfl (Nat.le_of_ble_eq_true rfl) (lv0 := [(0, .ref (ad a0)), (1, .int x1), (2, .int x2)]) rfl ?_
  refine j_aload_n (pc := 0) 0 dX9_given_0 rfl rfl ?_
  refine j_iload_n (pc := 1) 1 dX9_given_1 rfl rfl ?_
  refine j_callVi (pc := 2) (d := d) (As := [.int x1]) (st := []) dX9_given_2 s1178 k0 (by decide) rfl rfl (by decide) (Nat.le_of_ble_eq_true rfl) (fun q hq => t_X9_orderRefusal (by omega) k0 hq) hf (fun q1 hf => ?_)
  refine j_istore_n (pc := 5) (lv' := [(3, .int q1.1), (0, .ref (ad a0)), (1, .int x1), (2, .int x2)]) dX9_given_5 rfl (by decide) rfl ?_
  refine j_iload_n (pc := 6) 0 dX9_given_6 rfl rfl ?_
  refine j_if_ge (pc := 7) (tgt := 12) dX9_given_7 (by decide) hf (fun _ hf => ?_) (fun _ hf => ?_)
  · refine j_iload_n (pc := 12) 3 dX9_given_12 rfl rfl ?_
    refine j_i2l (pc := 13) dX9_given_13  ?_
    refine j_lconst (pc := 14) dX9_given_14 (v := 0) rfl ?_
    refine j_aload_n (pc := 15) 1 dX9_given_15 rfl rfl ?_
    refine j_getI (pc := 16) dX9_given_16 fl870 k0 (by decide) rfl ?_
    refine j_iconst (pc := 19) dX9_given_19 (v := 1) (by decide) ?_
    refine j_isub (pc := 20) dX9_given_20  ?_
    refine j_i2l (pc := 21) dX9_given_21  ?_
    refine j_callSi (pc := 22) (d := d) (As := [.long (Int32.toInt64 x2), .long 0, .long (Int32.toInt64 ((q1.2.1 a0 24) - 1))]) (st := []) dX9_given_22 s982 rfl rfl (by decide) (Nat.le_of_ble_eq_true rfl) (fun q hq => t_X9_within  hq) hf (fun q2 hf => ?_)
    refine j_if_eq (pc := 25) (tgt := 37) dX9_given_25 (by decide) hf (fun _ hf => ?_) (fun _ hf => ?_)
    · refine j_iconst (pc := 37) dX9_given_37 (v := -1) (by decide) ?_
      exact j_iret (pc := 38) dX9_given_38 rfl hf
    · refine j_aload_n (pc := 28) 1 dX9_given_28 rfl rfl ?_
      refine j_getR (pc := 29) (n := 17) dX9_given_29 fl869 k0 (by decide) rfl ?_
      refine j_iload_n (pc := 32) 3 dX9_given_32 rfl rfl ?_
      refine j_iaload (pc := 33) dX9_given_33 (lk_9_23 k0) (ll_9_23 k0) hf (fun _ hf => ?_)
      refine j_goto (pc := 34) (tgt := 38) dX9_given_34 (by decide) ?_
      exact j_iret (pc := 38) dX9_given_38 rfl hf
  · refine j_iload_n (pc := 10) 0 dX9_given_10 rfl rfl ?_
    exact j_iret (pc := 11) dX9_given_11 rfl hf
def f_X9_loser (a0 : Nat) (x1 : Int32) (h : Hp) : Option (Int32 × Hp) := (f_X9_within (Int32.toInt64 x1) 1 60 h).bind (fun q1 => if q1.1 = 0 then (some ((-2), q1.2)) else ((f_X9_losesAt a0 x1 q1.2).bind (fun q2 => some (q2.1, q2.2))))
set_option maxHeartbeats 4000000 in
set_option maxRecDepth 100000 in
theorem t_X9_loser {l : Launch} {D : va_G} {ad : Nat → Nat} {cA : Nat → ClassId} {d : Nat} (hdp : 9 ≤ d) {a0 : Nat} {x1 : Int32} (k0 : kd a0 = 9) {h : Hp} {o : Int32 × Hp} (hf : f_X9_loser a0 x1 h = some o) : Cr l D ad cA d yX9_loser cX9_loser 2 (some .int) [.ref (ad a0), .int x1] h (some (.int o.1)) o.2 := by
  obtain ⟨d, rfl⟩ : ∃ e, d = e + 1 := ⟨d - 1, by omega⟩
  have hdp : 8 ≤ d := by omega
  unfold f_X9_loser at hf
  refine Cr_of (by decide +kernel) rfl (Nat.le_of_ble_eq_true rfl) (lv0 := [(0, .ref (ad a0)), (1, .int x1)]) rfl ?_
  refine j_iload_n (pc := 0) 1 dX9_loser_0 rfl rfl ?_
  refine j_i2l (pc := 1) dX9_loser_1  ?_
  refine j_lconst (pc := 2) dX9_loser_2 (v := 1) rfl ?_
  refine j_ldc2_w (pc := 3) dX9_loser_3 (v := 60) w_c1075 ?_
  refine j_callSi (pc := 6) (d := d) (As := [.long (Int32.toInt64 x1), .long 1, .long 60]) (st := []) dX9_loser_6 s982 rfl rfl (by decide) (Nat.le_of_ble_eq_true rfl) (fun q hq => t_X9_within  hq) hf (fun q1 hf => ?_)
  refine j_if_eq (pc := 9) (tgt := 20) dX9_loser_9 (by decide) hf (fun _ hf => ?_) (fun _ hf => ?_)
  · refine j_bipush (pc := 20) dX9_loser_20 (v := -2) (by decide) ?_
    exact j_iret (pc := 22) dX9_loser_22 rfl hf
  · refine j_aload_n (pc := 12) 0 dX9_loser_12 rfl rfl ?_
    refine j_iload_n (pc := 13) 1 dX9_loser_13 rfl rfl ?_
    refine j_callVi (pc := 14) (d := d) (As := [.int x1]) (st := []) dX9_loser_14 s1203 k0 (by decide) rfl rfl (by decide) (Nat.le_of_ble_eq_true rfl) (fun q hq => t_X9_losesAt (by omega) k0 hq) hf (fun q2 hf => ?_)
    refine j_goto (pc := 17) (tgt := 22) dX9_loser_17 (by decide) ?_
    exact j_iret (pc := 22) dX9_loser_22 rfl hf
def f_X9_loses_26 (k26 : Nat → Int32 → Int32 → Hp → Option (Int32 × Hp)) (a0 : Nat) (x2 : Int32) (x3 : Int32) (h : Hp) : Option (Int32 × Hp) := if x2 < x3 then (some ((-5), h)) else ((f_X9_losesAt a0 x3 h).bind (fun q4 => if q4.1 = ((-5)) then (lt (x3 + 1) (fun v5 => k26 a0 x2 v5 q4.2)) else (some (x3, q4.2))))
set_option maxHeartbeats 4000000 in
set_option maxRecDepth 100000 in
theorem t_X9_loses_26 {l : Launch} {D : va_G} {ad : Nat → Nat} {cA : Nat → ClassId} {d : Nat} (hdp : 8 ≤ d) {o : Int32 × Hp}  : ∀ (n : Nat) {a0 : Nat} {x2 : Int32} {x3 : Int32} (k0 : kd a0 = 9) {h : Hp}, lp (F := Nat → Int32 → Int32 → Hp → Option (Int32 × Hp)) (fun _ _ _ _ => none) (f_X9_loses_26) n a0 x2 x3 h = some o → J l D ad cA (fun _ => True) (rmd (d + 1)) (0, 0) (mQ D ad cA (some (.int o.1)) o.2) cX9_loses RX9 4 (some .int) 26 [(0, .ref (ad a0)), (2, .int x2), (3, .int x3)] [] h := by
  intro n
  induction n with
  | zero =>
    intro a0 x2 x3 k0 h hf
    have hf : (none : Option (Int32 × Hp)) = some o := hf
    cases hf
  | succ n hk26 =>
    intro a0 x2 x3 k0 h hf
    have hf : f_X9_loses_26  (lp (F := Nat → Int32 → Int32 → Hp → Option (Int32 × Hp)) (fun _ _ _ _ => none) (f_X9_loses_26) n) a0 x2 x3 h = some o := hf
    unfold f_X9_loses_26 at hf
    refine j_iload_n (pc := 26) 2 dX9_loses_26 rfl rfl ?_
    refine j_iload_n (pc := 27) 1 dX9_loses_27 rfl rfl ?_
    refine j_icmp_gt (pc := 28) (tgt := 49) dX9_loses_28 (by decide) hf (fun _ hf => ?_) (fun _ hf => ?_)
    · refine j_bipush (pc := 49) dX9_loses_49 (v := -5) (by decide) ?_
      exact j_iret (pc := 51) dX9_loses_51 rfl hf
    · refine j_aload_n (pc := 31) 0 dX9_loses_31 rfl rfl ?_
      refine j_iload_n (pc := 32) 2 dX9_loses_32 rfl rfl ?_
      refine j_callVi (pc := 33) (d := d) (As := [.int x3]) (st := []) dX9_loses_33 s1203 k0 (by decide) rfl rfl (by decide) (Nat.le_of_ble_eq_true rfl) (fun q hq => t_X9_losesAt (by omega) k0 hq) hf (fun q4 hf => ?_)
      refine j_bipush (pc := 36) dX9_loses_36 (v := -5) (by decide) ?_
      refine j_icmp_eq (pc := 38) (tgt := 43) dX9_loses_38 (by decide) hf (fun _ hf => ?_) (fun _ hf => ?_)
      · refine j_iinc (pc := 43) 2 (c := 1) (lv' := fun v5 => [(3, .int v5), (0, .ref (ad a0)), (2, .int x2)]) dX9_loses_43 rfl (by decide) (by decide) (fun _ => rfl) hf (fun v5 hf => ?_)
        refine j_goto (pc := 46) (tgt := 26) dX9_loses_46 (by decide) ?_
        refine j_sub [1, 2, 0] rfl ?_
        exact hk26 k0 hf
      · refine j_iload_n (pc := 41) 2 dX9_loses_41 rfl rfl ?_
        exact j_iret (pc := 42) dX9_loses_42 rfl hf
def f_X9_loses (a0 : Nat) (x1 : Int32) (x2 : Int32) (h : Hp) : Option (Int32 × Hp) := (f_X9_isHouse x1 h).bind (fun q1 => if q1.1 = 0 then (some ((-2), q1.2)) else ((f_X9_isHouse x2 q1.2).bind (fun q2 => if q2.1 = 0 then (some ((-2), q2.2)) else (if x1 ≤ x2 then (lt (x1 + 1) (fun v3 => lp (F := Nat → Int32 → Int32 → Hp → Option (Int32 × Hp)) (fun _ _ _ _ => none) (f_X9_loses_26) 1000 a0 x2 v3 q2.2)) else (some ((-2), q2.2))))))
set_option maxHeartbeats 4000000 in
set_option maxRecDepth 100000 in
theorem t_X9_loses {l : Launch} {D : va_G} {ad : Nat → Nat} {cA : Nat → ClassId} {d : Nat} (hdp : 9 ≤ d) {a0 : Nat} {x1 : Int32} {x2 : Int32} (k0 : kd a0 = 9) {h : Hp} {o : Int32 × Hp} (hf : f_X9_loses a0 x1 x2 h = some o) : Cr l D ad cA d yX9_loses cX9_loses 4 (some .int) [.ref (ad a0), .int x1, .int x2] h (some (.int o.1)) o.2 := by
  obtain ⟨d, rfl⟩ : ∃ e, d = e + 1 := ⟨d - 1, by omega⟩
  have hdp : 8 ≤ d := by omega
  unfold f_X9_loses at hf
  refine Cr_of (by decide +kernel) rfl (Nat.le_of_ble_eq_true rfl) (lv0 := [(0, .ref (ad a0)), (1, .int x1), (2, .int x2)]) rfl ?_
  refine j_iload_n (pc := 0) 1 dX9_loses_0 rfl rfl ?_
  refine j_callSi (pc := 1) (d := d) (As := [.int x1]) (st := []) dX9_loses_1 s1115 rfl rfl (by decide) (Nat.le_of_ble_eq_true rfl) (fun q hq => t_X9_isHouse (by omega)  hq) hf (fun q1 hf => ?_)
  refine j_if_eq (pc := 4) (tgt := 19) dX9_loses_4 (by decide) hf (fun _ hf => ?_) (fun _ hf => ?_)
  · refine j_bipush (pc := 19) dX9_loses_19 (v := -2) (by decide) ?_
    exact j_iret (pc := 21) dX9_loses_21 rfl hf
  · refine j_iload_n (pc := 7) 2 dX9_loses_7 rfl rfl ?_
    refine j_callSi (pc := 8) (d := d) (As := [.int x2]) (st := []) dX9_loses_8 s1115 rfl rfl (by decide) (Nat.le_of_ble_eq_true rfl) (fun q hq => t_X9_isHouse (by omega)  hq) hf (fun q2 hf => ?_)
    refine j_if_eq (pc := 11) (tgt := 19) dX9_loses_11 (by decide) hf (fun _ hf => ?_) (fun _ hf => ?_)
    · refine j_bipush (pc := 19) dX9_loses_19 (v := -2) (by decide) ?_
      exact j_iret (pc := 21) dX9_loses_21 rfl hf
    · refine j_iload_n (pc := 14) 2 dX9_loses_14 rfl rfl ?_
      refine j_iload_n (pc := 15) 1 dX9_loses_15 rfl rfl ?_
      refine j_icmp_ge (pc := 16) (tgt := 22) dX9_loses_16 (by decide) hf (fun _ hf => ?_) (fun _ hf => ?_)
      · refine j_iload_n (pc := 22) 1 dX9_loses_22 rfl rfl ?_
        refine j_iconst (pc := 23) dX9_loses_23 (v := 1) (by decide) ?_
        refine j_iadd (pc := 24) dX9_loses_24  ?_
        refine j_istore_nN (pc := 25) (lv' := fun v3 => [(3, .int v3), (0, .ref (ad a0)), (1, .int x1), (2, .int x2)]) dX9_loses_25 rfl (by decide) (fun _ => rfl) hf (fun v3 hf => ?_)
        refine j_sub [1, 3, 0] rfl ?_
        exact t_X9_loses_26 hdp  1000 k0 hf
      · refine j_bipush (pc := 19) dX9_loses_19 (v := -2) (by decide) ?_
        exact j_iret (pc := 21) dX9_loses_21 rfl hf
def f_X9_needs_58 (k58 : Nat → Int32 → Int32 → Int32 → Int32 → Int32 → Int32 → Hp → Option (Int32 × Hp)) (a0 : Nat) (x1 : Int32) (x2 : Int32) (x3 : Int32) (x4 : Int32) (x5 : Int32) (x6 : Int32) (h : Hp) : Option (Int32 × Hp) := if 300 < x6 then (some ((-5), h)) else (if 100000 < (x4 + x6) then (some ((-5), h)) else ((f_X9_supposed a0 x1 x2 (x4 + x6) x3 h).bind (fun q6 => if q6.1 ≤ x5 then (lt (x6 + 1) (fun v7 => k58 a0 x1 x2 x3 x4 x5 v7 q6.2)) else (some (x6, q6.2)))))
set_option maxHeartbeats 4000000 in
set_option maxRecDepth 100000 in
theorem t_X9_needs_58 {l : Launch} {D : va_G} {ad : Nat → Nat} {cA : Nat → ClassId} {d : Nat} (hdp : 8 ≤ d) {o : Int32 × Hp}  : ∀ (n : Nat) {a0 : Nat} {x1 : Int32} {x2 : Int32} {x3 : Int32} {x4 : Int32} {x5 : Int32} {x6 : Int32} (k0 : kd a0 = 9) {h : Hp}, lp (F := Nat → Int32 → Int32 → Int32 → Int32 → Int32 → Int32 → Hp → Option (Int32 × Hp)) (fun _ _ _ _ _ _ _ _ => none) (f_X9_needs_58) n a0 x1 x2 x3 x4 x5 x6 h = some o → J l D ad cA (fun _ => True) (rmd (d + 1)) (0, 0) (mQ D ad cA (some (.int o.1)) o.2) cX9_needs RX9 7 (some .int) 58 [(0, .ref (ad a0)), (1, .int x1), (2, .int x2), (3, .int x3), (4, .int x4), (5, .int x5), (6, .int x6)] [] h := by
  intro n
  induction n with
  | zero =>
    intro a0 x1 x2 x3 x4 x5 x6 k0 h hf
    have hf : (none : Option (Int32 × Hp)) = some o := hf
    cases hf
  | succ n hk58 =>
    intro a0 x1 x2 x3 x4 x5 x6 k0 h hf
    have hf : f_X9_needs_58  (lp (F := Nat → Int32 → Int32 → Int32 → Int32 → Int32 → Int32 → Hp → Option (Int32 × Hp)) (fun _ _ _ _ _ _ _ _ => none) (f_X9_needs_58) n) a0 x1 x2 x3 x4 x5 x6 h = some o := hf
    unfold f_X9_needs_58 at hf
    refine j_iload (pc := 58) 6 dX9_needs_58 rfl ?_
    refine j_sipush (pc := 60) dX9_needs_60 (v := 300) (by decide) ?_
    refine j_icmp_gt (pc := 63) (tgt := 102) dX9_needs_63 (by decide) hf (fun _ hf => ?_) (fun _ hf => ?_)
    · refine j_bipush (pc := 102) dX9_needs_102 (v := -5) (by decide) ?_
      exact j_iret (pc := 104) dX9_needs_104 rfl hf
    · refine j_iload (pc := 66) 4 dX9_needs_66 rfl ?_
      refine j_iload (pc := 68) 6 dX9_needs_68 rfl ?_
      refine j_iadd (pc := 70) dX9_needs_70  ?_
      refine j_ldc (pc := 71) dX9_needs_71 (v := 100000) w_c1070 ?_
      refine j_icmp_gt (pc := 73) (tgt := 102) dX9_needs_73 (by decide) hf (fun _ hf => ?_) (fun _ hf => ?_)
      · refine j_bipush (pc := 102) dX9_needs_102 (v := -5) (by decide) ?_
        exact j_iret (pc := 104) dX9_needs_104 rfl hf
      · refine j_aload_n (pc := 76) 0 dX9_needs_76 rfl rfl ?_
        refine j_iload_n (pc := 77) 1 dX9_needs_77 rfl rfl ?_
        refine j_iload_n (pc := 78) 2 dX9_needs_78 rfl rfl ?_
        refine j_iload (pc := 79) 4 dX9_needs_79 rfl ?_
        refine j_iload (pc := 81) 6 dX9_needs_81 rfl ?_
        refine j_iadd (pc := 83) dX9_needs_83  ?_
        refine j_iload_n (pc := 84) 3 dX9_needs_84 rfl rfl ?_
        refine j_callVi (pc := 85) (d := d) (As := [.int x1, .int x2, .int (x4 + x6), .int x3]) (st := []) dX9_needs_85 s1231 k0 (by decide) rfl rfl (by decide) (Nat.le_of_ble_eq_true rfl) (fun q hq => t_X9_supposed (by omega) k0 hq) hf (fun q6 hf => ?_)
        refine j_iload (pc := 88) 5 dX9_needs_88 rfl ?_
        refine j_icmp_le (pc := 90) (tgt := 96) dX9_needs_90 (by decide) hf (fun _ hf => ?_) (fun _ hf => ?_)
        · refine j_iinc (pc := 96) 6 (c := 1) (lv' := fun v7 => [(6, .int v7), (0, .ref (ad a0)), (1, .int x1), (2, .int x2), (3, .int x3), (4, .int x4), (5, .int x5)]) dX9_needs_96 rfl (by decide) (by decide) (fun _ => rfl) hf (fun v7 hf => ?_)
          refine j_goto (pc := 99) (tgt := 58) dX9_needs_99 (by decide) ?_
          refine j_sub [1, 2, 3, 4, 5, 6, 0] rfl ?_
          exact hk58 k0 hf
        · refine j_iload (pc := 93) 6 dX9_needs_93 rfl ?_
          exact j_iret (pc := 95) dX9_needs_95 rfl hf
def f_X9_needs (a0 : Nat) (x1 : Int32) (x2 : Int32) (x3 : Int32) (h : Hp) : Option (Int32 × Hp) := (f_X9_isWard x1 h).bind (fun q1 => if q1.1 = 0 then (some ((-1), q1.2)) else ((f_X9_isParty x2 q1.2).bind (fun q2 => if q2.1 = 0 then (some ((-1), q2.2)) else ((f_X9_isHouse x3 q2.2).bind (fun q3 => if q3.1 = 0 then (some ((-2), q3.2)) else ((f_X9_votesOf a0 x1 x2 q3.2).bind (fun q4 => (f_X9_supposed a0 x1 x2 q4.1 x3 q4.2).bind (fun q5 => if q5.1 = ((-3)) then (some ((-3), q5.2)) else (lp (F := Nat → Int32 → Int32 → Int32 → Int32 → Int32 → Int32 → Hp → Option (Int32 × Hp)) (fun _ _ _ _ _ _ _ _ => none) (f_X9_needs_58) 1000 a0 x1 x2 x3 q4.1 q5.1 1 q5.2)))))))))
set_option maxHeartbeats 4000000 in
set_option maxRecDepth 100000 in
theorem t_X9_needs {l : Launch} {D : va_G} {ad : Nat → Nat} {cA : Nat → ClassId} {d : Nat} (hdp : 9 ≤ d) {a0 : Nat} {x1 : Int32} {x2 : Int32} {x3 : Int32} (k0 : kd a0 = 9) {h : Hp} {o : Int32 × Hp} (hf : f_X9_needs a0 x1 x2 x3 h = some o) : Cr l D ad cA d yX9_needs cX9_needs 7 (some .int) [.ref (ad a0), .int x1, .int x2, .int x3] h (some (.int o.1)) o.2 := by
  obtain ⟨d, rfl⟩ : ∃ e, d = e + 1 := ⟨d - 1, by omega⟩
  have hdp : 8 ≤ d := by omega
  unfold f_X9_needs at hf
  refine Cr_of (by decide +kernel) rfl (Nat.le_of_ble_eq_true rfl) (lv0 := [(0, .ref (ad a0)), (1, .int x1), (2, .int x2), (3, .int x3)]) rfl ?_
  refine j_iload_n (pc := 0) 1 dX9_needs_0 rfl rfl ?_
  refine j_callSi (pc := 1) (d := d) (As := [.int x1]) (st := []) dX9_needs_1 s978 rfl rfl (by decide) (Nat.le_of_ble_eq_true rfl) (fun q hq => t_X9_isWard (by omega)  hq) hf (fun q1 hf => ?_)
  refine j_if_eq (pc := 4) (tgt := 14) dX9_needs_4 (by decide) hf (fun _ hf => ?_) (fun _ hf => ?_)
  · refine j_iconst (pc := 14) dX9_needs_14 (v := -1) (by decide) ?_
    exact j_iret (pc := 15) dX9_needs_15 rfl hf
  · refine j_iload_n (pc := 7) 2 dX9_needs_7 rfl rfl ?_
    refine j_callSi (pc := 8) (d := d) (As := [.int x2]) (st := []) dX9_needs_8 s985 rfl rfl (by decide) (Nat.le_of_ble_eq_true rfl) (fun q hq => t_X9_isParty (by omega)  hq) hf (fun q2 hf => ?_)
    refine j_if_ne (pc := 11) (tgt := 16) dX9_needs_11 (by decide) hf (fun _ hf => ?_) (fun _ hf => ?_)
    · refine j_iload_n (pc := 16) 3 dX9_needs_16 rfl rfl ?_
      refine j_callSi (pc := 17) (d := d) (As := [.int x3]) (st := []) dX9_needs_17 s1115 rfl rfl (by decide) (Nat.le_of_ble_eq_true rfl) (fun q hq => t_X9_isHouse (by omega)  hq) hf (fun q3 hf => ?_)
      refine j_if_ne (pc := 20) (tgt := 26) dX9_needs_20 (by decide) hf (fun _ hf => ?_) (fun _ hf => ?_)
      · refine j_aload_n (pc := 26) 0 dX9_needs_26 rfl rfl ?_
        refine j_iload_n (pc := 27) 1 dX9_needs_27 rfl rfl ?_
        refine j_iload_n (pc := 28) 2 dX9_needs_28 rfl rfl ?_
        refine j_callVi (pc := 29) (d := d) (As := [.int x1, .int x2]) (st := []) dX9_needs_29 s1006 k0 (by decide) rfl rfl (by decide) (Nat.le_of_ble_eq_true rfl) (fun q hq => t_X9_votesOf k0 hq) hf (fun q4 hf => ?_)
        refine j_istore (pc := 32) (lv' := [(4, .int q4.1), (0, .ref (ad a0)), (1, .int x1), (2, .int x2), (3, .int x3)]) dX9_needs_32 (by decide) rfl ?_
        refine j_aload_n (pc := 34) 1 dX9_needs_34 rfl rfl ?_
        refine j_iload_n (pc := 35) 2 dX9_needs_35 rfl rfl ?_
        refine j_iload_n (pc := 36) 3 dX9_needs_36 rfl rfl ?_
        refine j_iload (pc := 37) 0 dX9_needs_37 rfl ?_
        refine j_iload_n (pc := 39) 4 dX9_needs_39 rfl rfl ?_
        refine j_callVi (pc := 40) (d := d) (As := [.int x1, .int x2, .int q4.1, .int x3]) (st := []) dX9_needs_40 s1231 k0 (by decide) rfl rfl (by decide) (Nat.le_of_ble_eq_true rfl) (fun q hq => t_X9_supposed (by omega) k0 hq) hf (fun q5 hf => ?_)
        refine j_istore (pc := 43) (lv' := [(5, .int q5.1), (4, .int q4.1), (0, .ref (ad a0)), (1, .int x1), (2, .int x2), (3, .int x3)]) dX9_needs_43 (by decide) rfl ?_
        refine j_iload (pc := 45) 0 dX9_needs_45 rfl ?_
        refine j_bipush (pc := 47) dX9_needs_47 (v := -3) (by decide) ?_
        refine j_icmp_ne (pc := 49) (tgt := 55) dX9_needs_49 (by decide) hf (fun _ hf => ?_) (fun _ hf => ?_)
        · refine j_iconst (pc := 55) dX9_needs_55 (v := 1) (by decide) ?_
          refine j_istore (pc := 56) (lv' := [(6, .int 1), (5, .int q5.1), (4, .int q4.1), (0, .ref (ad a0)), (1, .int x1), (2, .int x2), (3, .int x3)]) dX9_needs_56 (by decide) rfl ?_
          refine j_sub [3, 4, 5, 6, 2, 1, 0] rfl ?_
          exact t_X9_needs_58 hdp  1000 k0 hf
        · refine j_bipush (pc := 52) dX9_needs_52 (v := -3) (by decide) ?_
          exact j_iret (pc := 54) dX9_needs_54 rfl hf
      · refine j_bipush (pc := 23) dX9_needs_23 (v := -2) (by decide) ?_
        exact j_iret (pc := 25) dX9_needs_25 rfl hf
    · refine j_iconst (pc := 14) dX9_needs_14 (v := -1) (by decide) ?_
      exact j_iret (pc := 15) dX9_needs_15 rfl hf
def f_X9_tie (a0 : Nat) (x1 : Int32) (h : Hp) : Option (Int32 × Hp) := (f_X9_orderRefusal a0 x1 h).bind (fun q1 => if 0 ≤ q1.1 then (some (q1.2.1 a0 25, q1.2)) else (some (q1.1, q1.2)))
set_option maxHeartbeats 4000000 in
set_option maxRecDepth 100000 in
theorem t_X9_tie {l : Launch} {D : va_G} {ad : Nat → Nat} {cA : Nat → ClassId} {d : Nat} (hdp : 9 ≤ d) {a0 : Nat} {x1 : Int32} (k0 : kd a0 = 9) {h : Hp} {o : Int32 × Hp} (hf : f_X9_tie a0 x1 h = some o) : Cr l D ad cA d yX9_tie cX9_tie 3 (some .int) [.ref (ad a0), .int x1] h (some (.int o.1)) o.2 := by
  obtain ⟨d, rfl⟩ : ∃ e, d = e + 1 := ⟨d - 1, by omega⟩
  have hdp : 8 ≤ d := by omega
  unfold f_X9_tie at hf
  refine Cr_of (by decide +kernel) rfl (Nat.le_of_ble_eq_true rfl) (lv0 := [(0, .ref (ad a0)), (1, .int x1)]) rfl ?_
  refine j_aload_n (pc := 0) 0 dX9_tie_0 rfl rfl ?_
  refine j_iload_n (pc := 1) 1 dX9_tie_1 rfl rfl ?_
  refine j_callVi (pc := 2) (d := d) (As := [.int x1]) (st := []) dX9_tie_2 s1178 k0 (by decide) rfl rfl (by decide) (Nat.le_of_ble_eq_true rfl) (fun q hq => t_X9_orderRefusal (by omega) k0 hq) hf (fun q1 hf => ?_)
  refine j_istore_n (pc := 5) (lv' := [(2, .int q1.1), (0, .ref (ad a0)), (1, .int x1)]) dX9_tie_5 rfl (by decide) rfl ?_
  refine j_iload_n (pc := 6) 0 dX9_tie_6 rfl rfl ?_
  refine j_if_ge (pc := 7) (tgt := 14) dX9_tie_7 (by decide) hf (fun _ hf => ?_) (fun _ hf => ?_)
  · refine j_aload_n (pc := 14) 1 dX9_tie_14 rfl rfl ?_
    refine j_getI (pc := 15) dX9_tie_15 fl871 k0 (by decide) rfl ?_
    exact j_iret (pc := 18) dX9_tie_18 rfl hf
  · refine j_iload_n (pc := 10) 0 dX9_tie_10 rfl rfl ?_
    refine j_goto (pc := 11) (tgt := 18) dX9_tie_11 (by decide) ?_
    exact j_iret (pc := 18) dX9_tie_18 rfl hf
def f_X9_would (a0 : Nat) (x1 : Int32) (x2 : Int32) (x3 : Int32) (x4 : Int32) (h : Hp) : Option (Int32 × Hp) := (f_X9_isWard x1 h).bind (fun q1 => if q1.1 = 0 then (some ((-1), q1.2)) else ((f_X9_isParty x2 q1.2).bind (fun q2 => if q2.1 = 0 then (some ((-1), q2.2)) else ((f_X9_within (Int32.toInt64 x3) 0 100000 q2.2).bind (fun q3 => if q3.1 = 0 then (some ((-2), q3.2)) else ((f_X9_isHouse x4 q3.2).bind (fun q4 => if q4.1 = 0 then (some ((-2), q4.2)) else ((f_X9_supposed a0 x1 x2 x3 x4 q4.2).bind (fun q5 => some (q5.1, q5.2))))))))))
set_option maxHeartbeats 4000000 in
set_option maxRecDepth 100000 in
theorem t_X9_would {l : Launch} {D : va_G} {ad : Nat → Nat} {cA : Nat → ClassId} {d : Nat} (hdp : 9 ≤ d) {a0 : Nat} {x1 : Int32} {x2 : Int32} {x3 : Int32} {x4 : Int32} (k0 : kd a0 = 9) {h : Hp} {o : Int32 × Hp} (hf : f_X9_would a0 x1 x2 x3 x4 h = some o) : Cr l D ad cA d yX9_would cX9_would 5 (some .int) [.ref (ad a0), .int x1, .int x2, .int x3, .int x4] h (some (.int o.1)) o.2 := by
  obtain ⟨d, rfl⟩ : ∃ e, d = e + 1 := ⟨d - 1, by omega⟩
  have hdp : 8 ≤ d := by omega
  unfold f_X9_would at hf
  refine Cr_of (by decide +kernel) rfl (Nat.le_of_ble_eq_true rfl) (lv0 := [(0, .ref (ad a0)), (1, .int x1), (2, .int x2), (3, .int x3), (4, .int x4)]) rfl ?_
  refine j_iload_n (pc := 0) 1 dX9_would_0 rfl rfl ?_
  refine j_callSi (pc := 1) (d := d) (As := [.int x1]) (st := []) dX9_would_1 s978 rfl rfl (by decide) (Nat.le_of_ble_eq_true rfl) (fun q hq => t_X9_isWard (by omega)  hq) hf (fun q1 hf => ?_)
  refine j_if_eq (pc := 4) (tgt := 14) dX9_would_4 (by decide) hf (fun _ hf => ?_) (fun _ hf => ?_)
  · refine j_iconst (pc := 14) dX9_would_14 (v := -1) (by decide) ?_
    exact j_iret (pc := 15) dX9_would_15 rfl hf
  · refine j_iload_n (pc := 7) 2 dX9_would_7 rfl rfl ?_
    refine j_callSi (pc := 8) (d := d) (As := [.int x2]) (st := []) dX9_would_8 s985 rfl rfl (by decide) (Nat.le_of_ble_eq_true rfl) (fun q hq => t_X9_isParty (by omega)  hq) hf (fun q2 hf => ?_)
    refine j_if_ne (pc := 11) (tgt := 16) dX9_would_11 (by decide) hf (fun _ hf => ?_) (fun _ hf => ?_)
    · refine j_iload_n (pc := 16) 3 dX9_would_16 rfl rfl ?_
      refine j_i2l (pc := 17) dX9_would_17  ?_
      refine j_lconst (pc := 18) dX9_would_18 (v := 0) rfl ?_
      refine j_ldc2_w (pc := 19) dX9_would_19 (v := 100000) w_c989 ?_
      refine j_callSi (pc := 22) (d := d) (As := [.long (Int32.toInt64 x3), .long 0, .long 100000]) (st := []) dX9_would_22 s982 rfl rfl (by decide) (Nat.le_of_ble_eq_true rfl) (fun q hq => t_X9_within  hq) hf (fun q3 hf => ?_)
      refine j_if_eq (pc := 25) (tgt := 48) dX9_would_25 (by decide) hf (fun _ hf => ?_) (fun _ hf => ?_)
      · refine j_bipush (pc := 48) dX9_would_48 (v := -2) (by decide) ?_
        exact j_iret (pc := 50) dX9_would_50 rfl hf
      · refine j_iload (pc := 28) 4 dX9_would_28 rfl ?_
        refine j_callSi (pc := 30) (d := d) (As := [.int x4]) (st := []) dX9_would_30 s1115 rfl rfl (by decide) (Nat.le_of_ble_eq_true rfl) (fun q hq => t_X9_isHouse (by omega)  hq) hf (fun q4 hf => ?_)
        refine j_if_eq (pc := 33) (tgt := 48) dX9_would_33 (by decide) hf (fun _ hf => ?_) (fun _ hf => ?_)
        · refine j_bipush (pc := 48) dX9_would_48 (v := -2) (by decide) ?_
          exact j_iret (pc := 50) dX9_would_50 rfl hf
        · refine j_aload_n (pc := 36) 0 dX9_would_36 rfl rfl ?_
          refine j_iload_n (pc := 37) 1 dX9_would_37 rfl rfl ?_
          refine j_iload_n (pc := 38) 2 dX9_would_38 rfl rfl ?_
          refine j_iload_n (pc := 39) 3 dX9_would_39 rfl rfl ?_
          refine j_iload (pc := 40) 4 dX9_would_40 rfl ?_
          refine j_callVi (pc := 42) (d := d) (As := [.int x1, .int x2, .int x3, .int x4]) (st := []) dX9_would_42 s1231 k0 (by decide) rfl rfl (by decide) (Nat.le_of_ble_eq_true rfl) (fun q hq => t_X9_supposed (by omega) k0 hq) hf (fun q5 hf => ?_)
          refine j_goto (pc := 45) (tgt := 50) dX9_would_45 (by decide) ?_
          exact j_iret (pc := 50) dX9_would_50 rfl hf
    · refine j_iconst (pc := 14) dX9_would_14 (v := -1) (by decide) ?_
      exact j_iret (pc := 15) dX9_would_15 rfl hf
def f_X4_pickWard_72 (fr : Nat → Int32 → Int32 → Hp → Option (Int32 × Hp)) (k25 : Nat → Int32 → Int32 → Int32 → Hp → Option (Int32 × Hp)) (a0 : Nat) (x1 : Int32) (x2 : Int32) (x3 : Int32) (h : Hp) : Option (Int32 × Hp) := lt (x3 + 1) (fun v4 => k25 a0 x1 x2 v4 h)
set_option maxHeartbeats 4000000 in
set_option maxRecDepth 100000 in
theorem t_X4_pickWard_72 {l : Launch} {D : va_G} {ad : Nat → Nat} {cA : Nat → ClassId} {d : Nat} (hdp : 10 ≤ d) {o : Int32 × Hp} {fr : Nat → Int32 → Int32 → Hp → Option (Int32 × Hp)} (hfr : ∀ {a0 : Nat} {x1 : Int32} {x2 : Int32} (k0 : kd a0 = 4) {h : Hp} {o : Int32 × Hp}, fr a0 x1 x2 h = some o → Cr l D ad cA d yX4_pickWard cX4_pickWard 5 (some .int) [.ref (ad a0), .int x1, .int x2] h (some (.int o.1)) o.2) {k25 : Nat → Int32 → Int32 → Int32 → Hp → Option (Int32 × Hp)} (hk25 : ∀ {a0 : Nat} {x1 : Int32} {x2 : Int32} {x3 : Int32} (k0 : kd a0 = 4) {h : Hp}, k25 a0 x1 x2 x3 h = some o → J l D ad cA (fun _ => True) (rmd (d + 1)) (0, 0) (mQ D ad cA (some (.int o.1)) o.2) cX4_pickWard RX4 5 (some .int) 25 [(0, .ref (ad a0)), (1, .int x1), (2, .int x2), (3, .int x3)] [] h) {a0 : Nat} {x1 : Int32} {x2 : Int32} {x3 : Int32} (k0 : kd a0 = 4) {h : Hp} (hf : f_X4_pickWard_72 fr k25 a0 x1 x2 x3 h = some o) : J l D ad cA (fun _ => True) (rmd (d + 1)) (0, 0) (mQ D ad cA (some (.int o.1)) o.2) cX4_pickWard RX4 5 (some .int) 72 [(0, .ref (ad a0)), (1, .int x1), (2, .int x2), (3, .int x3)] [] h := by
  unfold f_X4_pickWard_72 at hf
  refine j_iinc (pc := 72) 3 (c := 1) (lv' := fun v4 => [(3, .int v4), (0, .ref (ad a0)), (1, .int x1), (2, .int x2)]) dX4_pickWard_72 rfl (by decide) (by decide) (fun _ => rfl) hf (fun v4 hf => ?_)
  refine j_goto (pc := 75) (tgt := 25) dX4_pickWard_75 (by decide) ?_
  refine j_sub [1, 2, 3, 0] rfl ?_
  exact hk25 k0 hf
def f_X4_pickWard_25 (fr : Nat → Int32 → Int32 → Hp → Option (Int32 × Hp)) (k25 : Nat → Int32 → Int32 → Int32 → Hp → Option (Int32 × Hp)) (a0 : Nat) (x1 : Int32) (x2 : Int32) (x3 : Int32) (h : Hp) : Option (Int32 × Hp) := if 4 ≤ x3 then (some (0, h)) else ((f_X8_holds x2 x3 h).bind (fun q1 => if q1.1 = 0 then (f_X4_pickWard_72 fr k25 a0 x1 x2 x3 q1.2) else (if ix x1 4 = true then (lt (sI q1.2 (a0 + 1) (Int32.toNatClampNeg x1) x3) (fun m2 => (fr a0 (x1 + 1) (x2 &&& ((1 <<< (x3 &&& 31)) ^^^ ((-1)))) m2).bind (fun q3 => if q3.1 = 0 then (f_X4_pickWard_72 fr k25 a0 x1 x2 x3 q3.2) else (some (q3.1, q3.2))))) else none)))
set_option maxHeartbeats 4000000 in
set_option maxRecDepth 100000 in
theorem t_X4_pickWard_25 {l : Launch} {D : va_G} {ad : Nat → Nat} {cA : Nat → ClassId} {d : Nat} (hdp : 10 ≤ d) {o : Int32 × Hp} {fr : Nat → Int32 → Int32 → Hp → Option (Int32 × Hp)} (hfr : ∀ {a0 : Nat} {x1 : Int32} {x2 : Int32} (k0 : kd a0 = 4) {h : Hp} {o : Int32 × Hp}, fr a0 x1 x2 h = some o → Cr l D ad cA d yX4_pickWard cX4_pickWard 5 (some .int) [.ref (ad a0), .int x1, .int x2] h (some (.int o.1)) o.2)  : ∀ (n : Nat) {a0 : Nat} {x1 : Int32} {x2 : Int32} {x3 : Int32} (k0 : kd a0 = 4) {h : Hp}, lp (F := Nat → Int32 → Int32 → Int32 → Hp → Option (Int32 × Hp)) (fun _ _ _ _ _ => none) (f_X4_pickWard_25 fr) n a0 x1 x2 x3 h = some o → J l D ad cA (fun _ => True) (rmd (d + 1)) (0, 0) (mQ D ad cA (some (.int o.1)) o.2) cX4_pickWard RX4 5 (some .int) 25 [(0, .ref (ad a0)), (1, .int x1), (2, .int x2), (3, .int x3)] [] h := by
  intro n
  induction n with
  | zero =>
    intro a0 x1 x2 x3 k0 h hf
    have hf : (none : Option (Int32 × Hp)) = some o := hf
    cases hf
  | succ n hk25 =>
    intro a0 x1 x2 x3 k0 h hf
    have hf : f_X4_pickWard_25 fr  (lp (F := Nat → Int32 → Int32 → Int32 → Hp → Option (Int32 × Hp)) (fun _ _ _ _ _ => none) (f_X4_pickWard_25 fr) n) a0 x1 x2 x3 h = some o := hf
    unfold f_X4_pickWard_25 at hf
    refine j_iload_n (pc := 25) 3 dX4_pickWard_25 rfl rfl ?_
    refine j_iconst (pc := 26) dX4_pickWard_26 (v := 4) (by decide) ?_
    refine j_icmp_ge (pc := 27) (tgt := 78) dX4_pickWard_27 (by decide) hf (fun _ hf => ?_) (fun _ hf => ?_)
    · refine j_iconst (pc := 78) dX4_pickWard_78 (v := 0) (by decide) ?_
      exact j_iret (pc := 79) dX4_pickWard_79 rfl hf
    · refine j_iload_n (pc := 30) 2 dX4_pickWard_30 rfl rfl ?_
      refine j_iload_n (pc := 31) 3 dX4_pickWard_31 rfl rfl ?_
      refine j_callNi (pc := 32) (d := d) (As := [.int x2, .int x3]) (st := []) dX4_pickWard_32 s724 rfl rfl (by decide) (Nat.le_of_ble_eq_true rfl) (fun q hq => t_X8_holds  hq) hf (fun q1 hf => ?_)
      refine j_if_ne (pc := 35) (tgt := 41) dX4_pickWard_35 (by decide) hf (fun _ hf => ?_) (fun _ hf => ?_)
      · refine j_aload_n (pc := 41) 0 dX4_pickWard_41 rfl rfl ?_
        refine j_getR (pc := 42) (n := 1) dX4_pickWard_42 fl225 k0 (by decide) rfl ?_
        refine j_iload_n (pc := 45) 1 dX4_pickWard_45 rfl rfl ?_
        refine j_iload_n (pc := 46) 3 dX4_pickWard_46 rfl rfl ?_
        refine j_iastore (pc := 47) dX4_pickWard_47 (lk_4_3 k0) (ll_4_3 k0) hf (fun m2 hf => ?_)
        refine j_aload_n (pc := 48) 0 dX4_pickWard_48 rfl rfl ?_
        refine j_iload_n (pc := 49) 1 dX4_pickWard_49 rfl rfl ?_
        refine j_iconst (pc := 50) dX4_pickWard_50 (v := 1) (by decide) ?_
        refine j_iadd (pc := 51) dX4_pickWard_51  ?_
        refine j_iload_n (pc := 52) 2 dX4_pickWard_52 rfl rfl ?_
        refine j_iconst (pc := 53) dX4_pickWard_53 (v := 1) (by decide) ?_
        refine j_iload_n (pc := 54) 3 dX4_pickWard_54 rfl rfl ?_
        refine j_ishl (pc := 55) dX4_pickWard_55  ?_
        refine j_iconst (pc := 56) dX4_pickWard_56 (v := -1) (by decide) ?_
        refine j_ixor (pc := 57) dX4_pickWard_57  ?_
        refine j_iand (pc := 58) dX4_pickWard_58  ?_
        refine j_callVi (pc := 59) (d := d) (As := [.int (x1 + 1), .int (x2 &&& ((1 <<< (x3 &&& 31)) ^^^ ((-1))))]) (st := []) dX4_pickWard_59 s707 k0 (by decide) rfl rfl (by decide) (Nat.le_of_ble_eq_true rfl) (fun q hq => hfr k0 hq) hf (fun q3 hf => ?_)
        refine j_istore (pc := 62) (lv' := [(4, .int q3.1), (0, .ref (ad a0)), (1, .int x1), (2, .int x2), (3, .int x3)]) dX4_pickWard_62 (by decide) rfl ?_
        refine j_iload (pc := 64) 0 dX4_pickWard_64 rfl ?_
        refine j_if_eq (pc := 66) (tgt := 72) dX4_pickWard_66 (by decide) hf (fun _ hf => ?_) (fun _ hf => ?_)
        · refine j_sub [1, 2, 3, 4] rfl ?_
          exact t_X4_pickWard_72 hdp hfr hk25 k0 hf
        · refine j_iload (pc := 69) 0 dX4_pickWard_69 rfl ?_
          exact j_iret (pc := 71) dX4_pickWard_71 rfl hf
      · refine j_goto (pc := 38) (tgt := 72) dX4_pickWard_38 (by decide) ?_
        refine j_sub [0, 1, 2, 3] rfl ?_
        exact t_X4_pickWard_72 hdp hfr hk25 k0 hf
def f_X4_pickWard_13 (fr : Nat → Int32 → Int32 → Hp → Option (Int32 × Hp))  (a0 : Nat) (h : Hp) : Option (Int32 × Hp) := (f_X4_pickParty 8 a0 0 (h.1 a0 1) h).bind (fun q5 => some (q5.1, q5.2))
set_option maxHeartbeats 4000000 in
set_option maxRecDepth 100000 in
theorem t_X4_pickWard_13 {l : Launch} {D : va_G} {ad : Nat → Nat} {cA : Nat → ClassId} {d : Nat} (hdp : 10 ≤ d) {o : Int32 × Hp} {fr : Nat → Int32 → Int32 → Hp → Option (Int32 × Hp)} (hfr : ∀ {a0 : Nat} {x1 : Int32} {x2 : Int32} (k0 : kd a0 = 4) {h : Hp} {o : Int32 × Hp}, fr a0 x1 x2 h = some o → Cr l D ad cA d yX4_pickWard cX4_pickWard 5 (some .int) [.ref (ad a0), .int x1, .int x2] h (some (.int o.1)) o.2)  {a0 : Nat} (k0 : kd a0 = 4) {h : Hp} (hf : f_X4_pickWard_13 fr  a0 h = some o) : J l D ad cA (fun _ => True) (rmd (d + 1)) (0, 0) (mQ D ad cA (some (.int o.1)) o.2) cX4_pickWard RX4 5 (some .int) 13 [(0, .ref (ad a0))] [] h := by
  unfold f_X4_pickWard_13 at hf
  refine j_aload_n (pc := 13) 0 dX4_pickWard_13 rfl rfl ?_
  refine j_iconst (pc := 14) dX4_pickWard_14 (v := 0) (by decide) ?_
  refine j_aload_n (pc := 15) 0 dX4_pickWard_15 rfl rfl ?_
  refine j_getI (pc := 16) dX4_pickWard_16 fl223 k0 (by decide) rfl ?_
  refine j_callVi (pc := 19) (d := d) (As := [.int 0, .int (h.1 a0 1)]) (st := []) dX4_pickWard_19 s711 k0 (by decide) rfl rfl (by decide) (Nat.le_of_ble_eq_true rfl) (fun q hq => t_X4_pickParty 8 (by omega) k0 hq) hf (fun q5 hf => ?_)
  exact j_iret (pc := 22) dX4_pickWard_22 rfl hf
def f_X4_pickWard_0 (fr : Nat → Int32 → Int32 → Hp → Option (Int32 × Hp)) (a0 : Nat) (x1 : Int32) (x2 : Int32) (h : Hp) : Option (Int32 × Hp) := if (h.1 a0 2) ≤ x1 then (f_X4_pickWard_13 fr  a0 h) else (if x1 < 4 then (lp (F := Nat → Int32 → Int32 → Int32 → Hp → Option (Int32 × Hp)) (fun _ _ _ _ _ => none) (f_X4_pickWard_25 fr) 1000 a0 x1 x2 0 h) else (f_X4_pickWard_13 fr  a0 h))
abbrev f_X4_pickWard (n : Nat) : Nat → Int32 → Int32 → Hp → Option (Int32 × Hp) := lp (F := Nat → Int32 → Int32 → Hp → Option (Int32 × Hp)) (fun _ _ _ _ => none) f_X4_pickWard_0 n
set_option maxHeartbeats 4000000 in
set_option maxRecDepth 100000 in
theorem t_X4_pickWard {l : Launch} {D : va_G} {ad : Nat → Nat} {cA : Nat → ClassId} : ∀ (n : Nat) {d : Nat} (hdp : 11 + n ≤ d) {a0 : Nat} {x1 : Int32} {x2 : Int32} (k0 : kd a0 = 4) {h : Hp} {o : Int32 × Hp}, f_X4_pickWard n a0 x1 x2 h = some o → Cr l D ad cA d yX4_pickWard cX4_pickWard 5 (some .int) [.ref (ad a0), .int x1, .int x2] h (some (.int o.1)) o.2 := by
  intro n
  induction n with
  | zero =>
    intro d hdp a0 x1 x2 k0 h o hf
    have hf : (none : Option (Int32 × Hp)) = some o := hf
    cases hf
  | succ n hfr0 =>
    intro d hdp a0 x1 x2 k0 h o hf
    have hf : f_X4_pickWard_0 (f_X4_pickWard n) a0 x1 x2 h = some o := hf
    obtain ⟨d, rfl⟩ : ∃ e, d = e + 1 := ⟨d - 1, by omega⟩
    have hfr : ∀ {a0 : Nat} {x1 : Int32} {x2 : Int32} (k0 : kd a0 = 4) {h : Hp} {o : Int32 × Hp}, f_X4_pickWard n a0 x1 x2 h = some o → Cr l D ad cA d yX4_pickWard cX4_pickWard 5 (some .int) [.ref (ad a0), .int x1, .int x2] h (some (.int o.1)) o.2 := hfr0 (by omega)
    have hdp : 10 ≤ d := by omega
    unfold f_X4_pickWard_0 at hf
    refine Cr_of (by decide +kernel) rfl (Nat.le_of_ble_eq_true rfl) (lv0 := [(0, .ref (ad a0)), (1, .int x1), (2, .int x2)]) rfl ?_
    refine j_iload_n (pc := 0) 1 dX4_pickWard_0 rfl rfl ?_
    refine j_aload_n (pc := 1) 0 dX4_pickWard_1 rfl rfl ?_
    refine j_getI (pc := 2) dX4_pickWard_2 fl224 k0 (by decide) rfl ?_
    refine j_icmp_ge (pc := 5) (tgt := 13) dX4_pickWard_5 (by decide) hf (fun _ hf => ?_) (fun _ hf => ?_)
    · refine j_sub [0] rfl ?_
      exact t_X4_pickWard_13 hdp hfr  k0 hf
    · refine j_iload_n (pc := 8) 1 dX4_pickWard_8 rfl rfl ?_
      refine j_iconst (pc := 9) dX4_pickWard_9 (v := 4) (by decide) ?_
      refine j_icmp_lt (pc := 10) (tgt := 23) dX4_pickWard_10 (by decide) hf (fun _ hf => ?_) (fun _ hf => ?_)
      · refine j_iconst (pc := 23) dX4_pickWard_23 (v := 0) (by decide) ?_
        refine j_istore_n (pc := 24) (lv' := [(3, .int 0), (0, .ref (ad a0)), (1, .int x1), (2, .int x2)]) dX4_pickWard_24 rfl (by decide) rfl ?_
        refine j_sub [1, 2, 3, 0] rfl ?_
        exact t_X4_pickWard_25 hdp hfr  1000 k0 hf
      · refine j_sub [0] rfl ?_
        exact t_X4_pickWard_13 hdp hfr  k0 hf
def f_X9_findsWards_64 (fr : Nat → Nat → Int32 → Hp → Option (Int32 × Hp)) (k17 : Nat → Nat → Int32 → Int32 → Hp → Option (Int32 × Hp)) (a0 : Nat) (a1 : Nat) (x2 : Int32) (x3 : Int32) (h : Hp) : Option (Int32 × Hp) := lt (x3 + 1) (fun v5 => k17 a0 a1 x2 v5 h)
set_option maxHeartbeats 4000000 in
set_option maxRecDepth 100000 in
theorem t_X9_findsWards_64 {l : Launch} {D : va_G} {ad : Nat → Nat} {cA : Nat → ClassId} {d : Nat} (hdp : 11 ≤ d) {o : Int32 × Hp} {fr : Nat → Nat → Int32 → Hp → Option (Int32 × Hp)} (hfr : ∀ {a0 : Nat} {a1 : Nat} {x2 : Int32} (k0 : kd a0 = 9) (k1 : kd a1 = 10) {h : Hp} {o : Int32 × Hp}, fr a0 a1 x2 h = some o → Cr l D ad cA d yX9_findsWards cX9_findsWards 4 (some .boolean) [.ref (ad a0), .ref (ad a1), .int x2] h (some (.int o.1)) o.2) {k17 : Nat → Nat → Int32 → Int32 → Hp → Option (Int32 × Hp)} (hk17 : ∀ {a0 : Nat} {a1 : Nat} {x2 : Int32} {x3 : Int32} (k0 : kd a0 = 9) (k1 : kd a1 = 10) {h : Hp}, k17 a0 a1 x2 x3 h = some o → J l D ad cA (fun _ => True) (rmd (d + 1)) (0, 0) (mQ D ad cA (some (.int o.1)) o.2) cX9_findsWards RX9 4 (some .boolean) 17 [(0, .ref (ad a0)), (1, .ref (ad a1)), (2, .int x2), (3, .int x3)] [] h) {a0 : Nat} {a1 : Nat} {x2 : Int32} {x3 : Int32} (k0 : kd a0 = 9) (k1 : kd a1 = 10) {h : Hp} (hf : f_X9_findsWards_64 fr k17 a0 a1 x2 x3 h = some o) : J l D ad cA (fun _ => True) (rmd (d + 1)) (0, 0) (mQ D ad cA (some (.int o.1)) o.2) cX9_findsWards RX9 4 (some .boolean) 64 [(0, .ref (ad a0)), (1, .ref (ad a1)), (2, .int x2), (3, .int x3)] [] h := by
  unfold f_X9_findsWards_64 at hf
  refine j_iinc (pc := 64) 3 (c := 1) (lv' := fun v5 => [(3, .int v5), (0, .ref (ad a0)), (1, .ref (ad a1)), (2, .int x2)]) dX9_findsWards_64 rfl (by decide) (by decide) (fun _ => rfl) hf (fun v5 hf => ?_)
  refine j_goto (pc := 67) (tgt := 17) dX9_findsWards_67 (by decide) ?_
  refine j_sub [1, 2, 3, 0] rfl ?_
  exact hk17 k0 k1 hf
def f_X9_findsWards_17 (fr : Nat → Nat → Int32 → Hp → Option (Int32 × Hp)) (k17 : Nat → Nat → Int32 → Int32 → Hp → Option (Int32 × Hp)) (a0 : Nat) (a1 : Nat) (x2 : Int32) (x3 : Int32) (h : Hp) : Option (Int32 × Hp) := if (h.1 a0 31) ≤ x3 then (if isB 0 = true then some (0, h) else none) else (if ix x3 4 = true then ((f_X9_isRingWard a0 x2 (h.1 (a0 + 20) (Int32.toNatClampNeg x3)) h).bind (fun q2 => if q2.1 = 0 then (if ix x3 4 = true then (if ix x2 4 = true then (lt (sI q2.2 (a0 + 24) (Int32.toNatClampNeg x2) (q2.2.1 (a0 + 20) (Int32.toNatClampNeg x3))) (fun m3 => (fr a0 a1 (x2 + 1) m3).bind (fun q4 => if q4.1 = 0 then (f_X9_findsWards_64 fr k17 a0 a1 x2 x3 q4.2) else (if isB 1 = true then some (1, q4.2) else none)))) else none) else none) else (f_X9_findsWards_64 fr k17 a0 a1 x2 x3 q2.2))) else none)
set_option maxHeartbeats 4000000 in
set_option maxRecDepth 100000 in
theorem t_X9_findsWards_17 {l : Launch} {D : va_G} {ad : Nat → Nat} {cA : Nat → ClassId} {d : Nat} (hdp : 11 ≤ d) {o : Int32 × Hp} {fr : Nat → Nat → Int32 → Hp → Option (Int32 × Hp)} (hfr : ∀ {a0 : Nat} {a1 : Nat} {x2 : Int32} (k0 : kd a0 = 9) (k1 : kd a1 = 10) {h : Hp} {o : Int32 × Hp}, fr a0 a1 x2 h = some o → Cr l D ad cA d yX9_findsWards cX9_findsWards 4 (some .boolean) [.ref (ad a0), .ref (ad a1), .int x2] h (some (.int o.1)) o.2)  : ∀ (n : Nat) {a0 : Nat} {a1 : Nat} {x2 : Int32} {x3 : Int32} (k0 : kd a0 = 9) (k1 : kd a1 = 10) {h : Hp}, lp (F := Nat → Nat → Int32 → Int32 → Hp → Option (Int32 × Hp)) (fun _ _ _ _ _ => none) (f_X9_findsWards_17 fr) n a0 a1 x2 x3 h = some o → J l D ad cA (fun _ => True) (rmd (d + 1)) (0, 0) (mQ D ad cA (some (.int o.1)) o.2) cX9_findsWards RX9 4 (some .boolean) 17 [(0, .ref (ad a0)), (1, .ref (ad a1)), (2, .int x2), (3, .int x3)] [] h := by
  intro n
  induction n with
  | zero =>
    intro a0 a1 x2 x3 k0 k1 h hf
    have hf : (none : Option (Int32 × Hp)) = some o := hf
    cases hf
  | succ n hk17 =>
    intro a0 a1 x2 x3 k0 k1 h hf
    have hf : f_X9_findsWards_17 fr  (lp (F := Nat → Nat → Int32 → Int32 → Hp → Option (Int32 × Hp)) (fun _ _ _ _ _ => none) (f_X9_findsWards_17 fr) n) a0 a1 x2 x3 h = some o := hf
    unfold f_X9_findsWards_17 at hf
    refine j_iload_n (pc := 17) 3 dX9_findsWards_17 rfl rfl ?_
    refine j_aload_n (pc := 18) 0 dX9_findsWards_18 rfl rfl ?_
    refine j_getI (pc := 19) dX9_findsWards_19 fl877 k0 (by decide) rfl ?_
    refine j_icmp_ge (pc := 22) (tgt := 70) dX9_findsWards_22 (by decide) hf (fun _ hf => ?_) (fun _ hf => ?_)
    · refine j_iconst (pc := 70) dX9_findsWards_70 (v := 0) (by decide) ?_
      exact j_zret (pc := 71) dX9_findsWards_71 rfl hf
    · refine j_aload_n (pc := 25) 0 dX9_findsWards_25 rfl rfl ?_
      refine j_iload_n (pc := 26) 2 dX9_findsWards_26 rfl rfl ?_
      refine j_aload_n (pc := 27) 0 dX9_findsWards_27 rfl rfl ?_
      refine j_getR (pc := 28) (n := 20) dX9_findsWards_28 fl875 k0 (by decide) rfl ?_
      refine j_iload_n (pc := 31) 3 dX9_findsWards_31 rfl rfl ?_
      refine j_iaload (pc := 32) dX9_findsWards_32 (lk_9_29 k0) (ll_9_29 k0) hf (fun _ hf => ?_)
      refine j_callVi (pc := 33) (d := d) (As := [.int x2, .int (h.1 (a0 + 20) (Int32.toNatClampNeg x3))]) (st := []) dX9_findsWards_33 s1321 k0 (by decide) rfl rfl (by decide) (Nat.le_of_ble_eq_true rfl) (fun q hq => t_X9_isRingWard k0 hq) hf (fun q2 hf => ?_)
      refine j_if_ne (pc := 36) (tgt := 64) dX9_findsWards_36 (by decide) hf (fun _ hf => ?_) (fun _ hf => ?_)
      · refine j_sub [0, 1, 2, 3] rfl ?_
        exact t_X9_findsWards_64 hdp hfr hk17 k0 k1 hf
      · refine j_aload_n (pc := 39) 0 dX9_findsWards_39 rfl rfl ?_
        refine j_getR (pc := 40) (n := 24) dX9_findsWards_40 fl882 k0 (by decide) rfl ?_
        refine j_iload_n (pc := 43) 2 dX9_findsWards_43 rfl rfl ?_
        refine j_aload_n (pc := 44) 0 dX9_findsWards_44 rfl rfl ?_
        refine j_getR (pc := 45) (n := 20) dX9_findsWards_45 fl875 k0 (by decide) rfl ?_
        refine j_iload_n (pc := 48) 3 dX9_findsWards_48 rfl rfl ?_
        refine j_iaload (pc := 49) dX9_findsWards_49 (lk_9_29 k0) (ll_9_29 k0) hf (fun _ hf => ?_)
        refine j_iastore (pc := 50) dX9_findsWards_50 (lk_9_36 k0) (ll_9_36 k0) hf (fun m3 hf => ?_)
        refine j_aload_n (pc := 51) 0 dX9_findsWards_51 rfl rfl ?_
        refine j_aload_n (pc := 52) 1 dX9_findsWards_52 rfl rfl ?_
        refine j_iload_n (pc := 53) 2 dX9_findsWards_53 rfl rfl ?_
        refine j_iconst (pc := 54) dX9_findsWards_54 (v := 1) (by decide) ?_
        refine j_iadd (pc := 55) dX9_findsWards_55  ?_
        refine j_callVi (pc := 56) (d := d) (As := [.ref (ad a1), .int (x2 + 1)]) (st := []) dX9_findsWards_56 s1288 k0 (by decide) rfl rfl (by decide) (Nat.le_of_ble_eq_true rfl) (fun q hq => hfr k0 k1 hq) hf (fun q4 hf => ?_)
        refine j_if_eq (pc := 59) (tgt := 64) dX9_findsWards_59 (by decide) hf (fun _ hf => ?_) (fun _ hf => ?_)
        · refine j_sub [0, 1, 2, 3] rfl ?_
          exact t_X9_findsWards_64 hdp hfr hk17 k0 k1 hf
        · refine j_iconst (pc := 62) dX9_findsWards_62 (v := 1) (by decide) ?_
          exact j_zret (pc := 63) dX9_findsWards_63 rfl hf
def f_X9_findsWards_0 (fr : Nat → Nat → Int32 → Hp → Option (Int32 × Hp)) (a0 : Nat) (a1 : Nat) (x2 : Int32) (h : Hp) : Option (Int32 × Hp) := if x2 = (h.1 a0 35) then ((f_X9_findsParties 8 a0 a1 0 h).bind (fun q1 => if isB q1.1 = true then some (q1.1, q1.2) else none)) else (lp (F := Nat → Nat → Int32 → Int32 → Hp → Option (Int32 × Hp)) (fun _ _ _ _ _ => none) (f_X9_findsWards_17 fr) 1000 a0 a1 x2 0 h)
abbrev f_X9_findsWards (n : Nat) : Nat → Nat → Int32 → Hp → Option (Int32 × Hp) := lp (F := Nat → Nat → Int32 → Hp → Option (Int32 × Hp)) (fun _ _ _ _ => none) f_X9_findsWards_0 n
set_option maxHeartbeats 4000000 in
set_option maxRecDepth 100000 in
theorem t_X9_findsWards {l : Launch} {D : va_G} {ad : Nat → Nat} {cA : Nat → ClassId} : ∀ (n : Nat) {d : Nat} (hdp : 12 + n ≤ d) {a0 : Nat} {a1 : Nat} {x2 : Int32} (k0 : kd a0 = 9) (k1 : kd a1 = 10) {h : Hp} {o : Int32 × Hp}, f_X9_findsWards n a0 a1 x2 h = some o → Cr l D ad cA d yX9_findsWards cX9_findsWards 4 (some .boolean) [.ref (ad a0), .ref (ad a1), .int x2] h (some (.int o.1)) o.2 := by
  intro n
  induction n with
  | zero =>
    intro d hdp a0 a1 x2 k0 k1 h o hf
    have hf : (none : Option (Int32 × Hp)) = some o := hf
    cases hf
  | succ n hfr0 =>
    intro d hdp a0 a1 x2 k0 k1 h o hf
    have hf : f_X9_findsWards_0 (f_X9_findsWards n) a0 a1 x2 h = some o := hf
    obtain ⟨d, rfl⟩ : ∃ e, d = e + 1 := ⟨d - 1, by omega⟩
    have hfr : ∀ {a0 : Nat} {a1 : Nat} {x2 : Int32} (k0 : kd a0 = 9) (k1 : kd a1 = 10) {h : Hp} {o : Int32 × Hp}, f_X9_findsWards n a0 a1 x2 h = some o → Cr l D ad cA d yX9_findsWards cX9_findsWards 4 (some .boolean) [.ref (ad a0), .ref (ad a1), .int x2] h (some (.int o.1)) o.2 := hfr0 (by omega)
    have hdp : 11 ≤ d := by omega
    unfold f_X9_findsWards_0 at hf
    refine Cr_of (by decide +kernel) rfl (Nat.le_of_ble_eq_true rfl) (lv0 := [(0, .ref (ad a0)), (1, .ref (ad a1)), (2, .int x2)]) rfl ?_
    refine j_iload_n (pc := 0) 2 dX9_findsWards_0 rfl rfl ?_
    refine j_aload_n (pc := 1) 0 dX9_findsWards_1 rfl rfl ?_
    refine j_getI (pc := 2) dX9_findsWards_2 fl881 k0 (by decide) rfl ?_
    refine j_icmp_ne (pc := 5) (tgt := 15) dX9_findsWards_5 (by decide) hf (fun _ hf => ?_) (fun _ hf => ?_)
    · refine j_iconst (pc := 15) dX9_findsWards_15 (v := 0) (by decide) ?_
      refine j_istore_n (pc := 16) (lv' := [(3, .int 0), (0, .ref (ad a0)), (1, .ref (ad a1)), (2, .int x2)]) dX9_findsWards_16 rfl (by decide) rfl ?_
      refine j_sub [1, 2, 3, 0] rfl ?_
      exact t_X9_findsWards_17 hdp hfr  1000 k0 k1 hf
    · refine j_aload_n (pc := 8) 0 dX9_findsWards_8 rfl rfl ?_
      refine j_aload_n (pc := 9) 1 dX9_findsWards_9 rfl rfl ?_
      refine j_iconst (pc := 10) dX9_findsWards_10 (v := 0) (by decide) ?_
      refine j_callVi (pc := 11) (d := d) (As := [.ref (ad a1), .int 0]) (st := []) dX9_findsWards_11 s1292 k0 (by decide) rfl rfl (by decide) (Nat.le_of_ble_eq_true rfl) (fun q hq => t_X9_findsParties 8 (by omega) k0 k1 hq) hf (fun q1 hf => ?_)
      exact j_zret (pc := 14) dX9_findsWards_14 rfl hf
def f_X4_firstBetter_112 (k112 : Nat → Int32 → Int32 → Hp → Option (Int32 × Hp)) (a0 : Nat) (x3 : Int32) (x4 : Int32) (h : Hp) : Option (Int32 × Hp) := if 4 < x4 then (some (0, h)) else (if x3 < x4 then (some (0, h)) else (lt (sI h a0 2 x4) (fun m14 => (f_X4_pickWard 8 a0 0 (m14.1 a0 0) m14).bind (fun q15 => if q15.1 = 0 then (lt (x4 + 1) (fun v16 => k112 a0 x3 v16 q15.2)) else (some (q15.1, q15.2))))))
set_option maxHeartbeats 4000000 in
set_option maxRecDepth 100000 in
theorem t_X4_firstBetter_112 {l : Launch} {D : va_G} {ad : Nat → Nat} {cA : Nat → ClassId} {d : Nat} (hdp : 19 ≤ d) {o : Int32 × Hp}  : ∀ (n : Nat) {a0 : Nat} {x3 : Int32} {x4 : Int32} (k0 : kd a0 = 4) {h : Hp}, lp (F := Nat → Int32 → Int32 → Hp → Option (Int32 × Hp)) (fun _ _ _ _ => none) (f_X4_firstBetter_112) n a0 x3 x4 h = some o → J l D ad cA (fun _ => True) (rmd (d + 1)) (0, 0) (mQ D ad cA (some (.int o.1)) o.2) cX4_firstBetter RX4 6 (some .int) 112 [(0, .ref (ad a0)), (3, .int x3), (4, .int x4)] [] h := by
  intro n
  induction n with
  | zero =>
    intro a0 x3 x4 k0 h hf
    have hf : (none : Option (Int32 × Hp)) = some o := hf
    cases hf
  | succ n hk112 =>
    intro a0 x3 x4 k0 h hf
    have hf : f_X4_firstBetter_112  (lp (F := Nat → Int32 → Int32 → Hp → Option (Int32 × Hp)) (fun _ _ _ _ => none) (f_X4_firstBetter_112) n) a0 x3 x4 h = some o := hf
    unfold f_X4_firstBetter_112 at hf
    refine j_iload (pc := 112) 2 dX4_firstBetter_112 rfl ?_
    refine j_iconst (pc := 114) dX4_firstBetter_114 (v := 4) (by decide) ?_
    refine j_icmp_gt (pc := 115) (tgt := 155) dX4_firstBetter_115 (by decide) hf (fun _ hf => ?_) (fun _ hf => ?_)
    · refine j_iconst (pc := 155) dX4_firstBetter_155 (v := 0) (by decide) ?_
      exact j_iret (pc := 156) dX4_firstBetter_156 rfl hf
    · refine j_iload (pc := 118) 2 dX4_firstBetter_118 rfl ?_
      refine j_iload_n (pc := 120) 1 dX4_firstBetter_120 rfl rfl ?_
      refine j_icmp_gt (pc := 121) (tgt := 155) dX4_firstBetter_121 (by decide) hf (fun _ hf => ?_) (fun _ hf => ?_)
      · refine j_iconst (pc := 155) dX4_firstBetter_155 (v := 0) (by decide) ?_
        exact j_iret (pc := 156) dX4_firstBetter_156 rfl hf
      · refine j_aload_n (pc := 124) 0 dX4_firstBetter_124 rfl rfl ?_
        refine j_iload (pc := 125) 2 dX4_firstBetter_125 rfl ?_
        refine j_putI (pc := 127) dX4_firstBetter_127 fl224 fp4_2 k0 (by decide) rfl hf (fun m14 hf => ?_)
        refine j_aload_n (pc := 130) 0 dX4_firstBetter_130 rfl rfl ?_
        refine j_iconst (pc := 131) dX4_firstBetter_131 (v := 0) (by decide) ?_
        refine j_aload_n (pc := 132) 0 dX4_firstBetter_132 rfl rfl ?_
        refine j_getI (pc := 133) dX4_firstBetter_133 fl222 k0 (by decide) rfl ?_
        refine j_callVi (pc := 136) (d := d) (As := [.int 0, .int (m14.1 a0 0)]) (st := []) dX4_firstBetter_136 s707 k0 (by decide) rfl rfl (by decide) (Nat.le_of_ble_eq_true rfl) (fun q hq => t_X4_pickWard 8 (by omega) k0 hq) hf (fun q15 hf => ?_)
        refine j_istore (pc := 139) (lv' := [(5, .int q15.1), (0, .ref (ad a0)), (3, .int x3), (4, .int x4)]) dX4_firstBetter_139 (by decide) rfl ?_
        refine j_iload (pc := 141) 0 dX4_firstBetter_141 rfl ?_
        refine j_if_eq (pc := 143) (tgt := 149) dX4_firstBetter_143 (by decide) hf (fun _ hf => ?_) (fun _ hf => ?_)
        · refine j_iinc (pc := 149) 3 (c := 1) (lv' := fun v16 => [(4, .int v16), (5, .int q15.1), (0, .ref (ad a0)), (3, .int x3)]) dX4_firstBetter_149 rfl (by decide) (by decide) (fun _ => rfl) hf (fun v16 hf => ?_)
          refine j_goto (pc := 152) (tgt := 112) dX4_firstBetter_152 (by decide) ?_
          refine j_sub [2, 3, 0] rfl ?_
          exact hk112 k0 hf
        · refine j_iload (pc := 146) 0 dX4_firstBetter_146 rfl ?_
          exact j_iret (pc := 148) dX4_firstBetter_148 rfl hf
def f_X4_firstBetter_37 (k37 : Nat → Nat → Int32 → Hp → Option (Int32 × Hp)) (a0 : Nat) (a1 : Nat) (x3 : Int32) (h : Hp) : Option (Int32 × Hp) := if 24 ≤ x3 then ((f_J6_bitCount_0f7a4 (h.1 a0 0) h).bind (fun q6 => (f_J6_bitCount_0f7a4 (q6.2.1 a0 1) q6.2).bind (fun q7 => lt (if q7.1 < q6.1 then q7.1 else q6.1) (fun v8 => lp (F := Nat → Int32 → Int32 → Hp → Option (Int32 × Hp)) (fun _ _ _ _ => none) (f_X4_firstBetter_112) 1000 a0 v8 2 q7.2)))) else (if ix x3 24 = true then ((f_X3_markAbove a1 (h.1 a1 5) ((h.1 (a0 + 5) (Int32.toNatClampNeg x3)) + 1) h).bind (fun q9 => if ix x3 24 = true then (lt (sL q9.2 (a0 + 7) (Int32.toNatClampNeg x3) q9.1) (fun m10 => if ix x3 24 = true then ((f_X3_markAbove a1 (m10.1 a1 5) (m10.1 (a0 + 5) (Int32.toNatClampNeg x3)) m10).bind (fun q11 => if ix x3 24 = true then (lt (sL q11.2 (a0 + 8) (Int32.toNatClampNeg x3) q11.1) (fun m12 => lt (x3 + 1) (fun v13 => k37 a0 a1 v13 m12))) else none)) else none)) else none)) else none)
set_option maxHeartbeats 4000000 in
set_option maxRecDepth 100000 in
theorem t_X4_firstBetter_37 {l : Launch} {D : va_G} {ad : Nat → Nat} {cA : Nat → ClassId} {d : Nat} (hdp : 19 ≤ d) {o : Int32 × Hp}  : ∀ (n : Nat) {a0 : Nat} {a1 : Nat} {x3 : Int32} (k0 : kd a0 = 4) (k1 : kd a1 = 3) {h : Hp}, lp (F := Nat → Nat → Int32 → Hp → Option (Int32 × Hp)) (fun _ _ _ _ => none) (f_X4_firstBetter_37) n a0 a1 x3 h = some o → J l D ad cA (fun _ => True) (rmd (d + 1)) (0, 0) (mQ D ad cA (some (.int o.1)) o.2) cX4_firstBetter RX4 6 (some .int) 37 [(0, .ref (ad a0)), (1, .ref (ad a1)), (3, .int x3)] [] h := by
  intro n
  induction n with
  | zero =>
    intro a0 a1 x3 k0 k1 h hf
    have hf : (none : Option (Int32 × Hp)) = some o := hf
    cases hf
  | succ n hk37 =>
    intro a0 a1 x3 k0 k1 h hf
    have hf : f_X4_firstBetter_37  (lp (F := Nat → Nat → Int32 → Hp → Option (Int32 × Hp)) (fun _ _ _ _ => none) (f_X4_firstBetter_37) n) a0 a1 x3 h = some o := hf
    unfold f_X4_firstBetter_37 at hf
    refine j_iload_n (pc := 37) 2 dX4_firstBetter_37 rfl rfl ?_
    refine j_bipush (pc := 38) dX4_firstBetter_38 (v := 24) (by decide) ?_
    refine j_icmp_ge (pc := 40) (tgt := 91) dX4_firstBetter_40 (by decide) hf (fun _ hf => ?_) (fun _ hf => ?_)
    · refine j_aload_n (pc := 91) 0 dX4_firstBetter_91 rfl rfl ?_
      refine j_getI (pc := 92) dX4_firstBetter_92 fl222 k0 (by decide) rfl ?_
      refine j_callSi (pc := 95) (d := d) (As := [.int (h.1 a0 0)]) (st := []) dX4_firstBetter_95 s700 rfl rfl (by decide) (Nat.le_of_ble_eq_true rfl) (fun q hq => t_J6_bitCount_0f7a4  hq) hf (fun q6 hf => ?_)
      refine j_aload_n (pc := 98) 0 dX4_firstBetter_98 rfl rfl ?_
      refine j_getI (pc := 99) dX4_firstBetter_99 fl223 k0 (by decide) rfl ?_
      refine j_callSi (pc := 102) (d := d) (As := [.int (q6.2.1 a0 1)]) (st := [.int q6.1]) dX4_firstBetter_102 s700 rfl rfl (by decide) (Nat.le_of_ble_eq_true rfl) (fun q hq => t_J6_bitCount_0f7a4  hq) hf (fun q7 hf => ?_)
      refine j_mmin (pc := 105) dX4_firstBetter_105 w_706 w_mmin_s w_math w_mmin_c (Nat.le_of_ble_eq_true rfl) ?_
      refine j_istore_nN (pc := 108) (lv' := fun v8 => [(3, .int v8), (0, .ref (ad a0)), (1, .ref (ad a1))]) dX4_firstBetter_108 rfl (by decide) (fun _ => rfl) hf (fun v8 hf => ?_)
      refine j_iconst (pc := 109) dX4_firstBetter_109 (v := 2) (by decide) ?_
      refine j_istore (pc := 110) (lv' := [(4, .int 2), (3, .int v8), (0, .ref (ad a0)), (1, .ref (ad a1))]) dX4_firstBetter_110 (by decide) rfl ?_
      refine j_sub [2, 1, 0] rfl ?_
      exact t_X4_firstBetter_112 hdp  1000 k0 hf
    · refine j_aload_n (pc := 43) 0 dX4_firstBetter_43 rfl rfl ?_
      refine j_getR (pc := 44) (n := 7) dX4_firstBetter_44 fl231 k0 (by decide) rfl ?_
      refine j_iload_n (pc := 47) 2 dX4_firstBetter_47 rfl rfl ?_
      refine j_aload_n (pc := 48) 1 dX4_firstBetter_48 rfl rfl ?_
      refine j_aload_n (pc := 49) 1 dX4_firstBetter_49 rfl rfl ?_
      refine j_getI (pc := 50) dX4_firstBetter_50 fl116 k1 (by decide) rfl ?_
      refine j_aload_n (pc := 53) 0 dX4_firstBetter_53 rfl rfl ?_
      refine j_getR (pc := 54) (n := 5) dX4_firstBetter_54 fl229 k0 (by decide) rfl ?_
      refine j_iload_n (pc := 57) 2 dX4_firstBetter_57 rfl rfl ?_
      refine j_iaload (pc := 58) dX4_firstBetter_58 (lk_4_7 k0) (ll_4_7 k0) hf (fun _ hf => ?_)
      refine j_iconst (pc := 59) dX4_firstBetter_59 (v := 1) (by decide) ?_
      refine j_iadd (pc := 60) dX4_firstBetter_60  ?_
      refine j_callVl (pc := 61) (d := d) (As := [.int (h.1 a1 5), .int ((h.1 (a0 + 5) (Int32.toNatClampNeg x3)) + 1)]) (st := [.int x3, .ref (ad (a0 + 7))]) dX4_firstBetter_61 s699 k1 (by decide) rfl rfl (by decide) (Nat.le_of_ble_eq_true rfl) (fun q hq => t_X3_markAbove k1 hq) hf (fun q9 hf => ?_)
      refine j_lastore (pc := 64) dX4_firstBetter_64 (lk_4_9 k0) (ll_4_9 k0) hf (fun m10 hf => ?_)
      refine j_aload_n (pc := 65) 0 dX4_firstBetter_65 rfl rfl ?_
      refine j_getR (pc := 66) (n := 8) dX4_firstBetter_66 fl232 k0 (by decide) rfl ?_
      refine j_iload_n (pc := 69) 2 dX4_firstBetter_69 rfl rfl ?_
      refine j_aload_n (pc := 70) 1 dX4_firstBetter_70 rfl rfl ?_
      refine j_aload_n (pc := 71) 1 dX4_firstBetter_71 rfl rfl ?_
      refine j_getI (pc := 72) dX4_firstBetter_72 fl116 k1 (by decide) rfl ?_
      refine j_aload_n (pc := 75) 0 dX4_firstBetter_75 rfl rfl ?_
      refine j_getR (pc := 76) (n := 5) dX4_firstBetter_76 fl229 k0 (by decide) rfl ?_
      refine j_iload_n (pc := 79) 2 dX4_firstBetter_79 rfl rfl ?_
      refine j_iaload (pc := 80) dX4_firstBetter_80 (lk_4_7 k0) (ll_4_7 k0) hf (fun _ hf => ?_)
      refine j_callVl (pc := 81) (d := d) (As := [.int (m10.1 a1 5), .int (m10.1 (a0 + 5) (Int32.toNatClampNeg x3))]) (st := [.int x3, .ref (ad (a0 + 8))]) dX4_firstBetter_81 s699 k1 (by decide) rfl rfl (by decide) (Nat.le_of_ble_eq_true rfl) (fun q hq => t_X3_markAbove k1 hq) hf (fun q11 hf => ?_)
      refine j_lastore (pc := 84) dX4_firstBetter_84 (lk_4_10 k0) (ll_4_10 k0) hf (fun m12 hf => ?_)
      refine j_iinc (pc := 85) 2 (c := 1) (lv' := fun v13 => [(3, .int v13), (0, .ref (ad a0)), (1, .ref (ad a1))]) dX4_firstBetter_85 rfl (by decide) (by decide) (fun _ => rfl) hf (fun v13 hf => ?_)
      refine j_goto (pc := 88) (tgt := 37) dX4_firstBetter_88 (by decide) ?_
      refine j_sub [1, 2, 0] rfl ?_
      exact hk37 k0 k1 hf
def f_X4_firstBetter (a0 : Nat) (a1 : Nat) (a2 : Nat) (h : Hp) : Option (Int32 × Hp) := lt (rI h (a0 + 6) (va_cpy (h.1 (a1 + 1)) (h.1 (a0 + 6)) (Int32.toNatClampNeg 0) (Int32.toNatClampNeg 0) (Int32.toNatClampNeg 24))) (fun m1 => if (Int32.toNatClampNeg 0) + (Int32.toNatClampNeg 24) ≤ ln a2 then (lt (rI m1 (a0 + 5) (va_cpy (m1.1 a2) (m1.1 (a0 + 5)) (Int32.toNatClampNeg 0) (Int32.toNatClampNeg 0) (Int32.toNatClampNeg 24))) (fun m2 => (f_X3_planMarkBelow a1 m2).bind (fun q4 => lt (sL q4.2 a0 11 q4.1) (fun m5 => lp (F := Nat → Nat → Int32 → Hp → Option (Int32 × Hp)) (fun _ _ _ _ => none) (f_X4_firstBetter_37) 1000 a0 a1 0 m5)))) else none)
set_option maxHeartbeats 4000000 in
set_option maxRecDepth 100000 in
theorem t_X4_firstBetter {l : Launch} {D : va_G} {ad : Nat → Nat} {cA : Nat → ClassId} {d : Nat} (hdp : 20 ≤ d) {a0 : Nat} {a1 : Nat} {a2 : Nat} (k0 : kd a0 = 4) (k1 : kd a1 = 3) (k2 : kd a2 = 10) {h : Hp} {o : Int32 × Hp} (hf : f_X4_firstBetter a0 a1 a2 h = some o) : Cr l D ad cA d yX4_firstBetter cX4_firstBetter 6 (some .int) [.ref (ad a0), .ref (ad a1), .ref (ad a2)] h (some (.int o.1)) o.2 := by
  obtain ⟨d, rfl⟩ : ∃ e, d = e + 1 := ⟨d - 1, by omega⟩
  have hdp : 19 ≤ d := by omega
  unfold f_X4_firstBetter at hf
  refine Cr_of (by decide +kernel) rfl (Nat.le_of_ble_eq_true rfl) (lv0 := [(0, .ref (ad a0)), (1, .ref (ad a1)), (2, .ref (ad a2))]) rfl ?_
  refine j_aload_n (pc := 0) 1 dX4_firstBetter_0 rfl rfl ?_
  refine j_getR (pc := 1) (n := 1) dX4_firstBetter_1 fl100 k1 (by decide) rfl ?_
  refine j_iconst (pc := 4) dX4_firstBetter_4 (v := 0) (by decide) ?_
  refine j_aload_n (pc := 5) 0 dX4_firstBetter_5 rfl rfl ?_
  refine j_getR (pc := 6) (n := 6) dX4_firstBetter_6 fl230 k0 (by decide) rfl ?_
  refine j_iconst (pc := 9) dX4_firstBetter_9 (v := 0) (by decide) ?_
  refine j_bipush (pc := 10) dX4_firstBetter_10 (v := 24) (by decide) ?_
  refine j_copy (pc := 12) dX4_firstBetter_12 w_693 w_nat w_st w_in (lk_3_0 k1) (lk_4_8 k0) (ll_3_0 k1) (ll_4_8 k0) (by decide) (by decide) (by decide) (by decide) (by decide) (Nat.le_of_ble_eq_true rfl) hf (fun m1 hf => ?_)
  refine j_aload_n (pc := 15) 2 dX4_firstBetter_15 rfl rfl ?_
  refine j_iconst (pc := 16) dX4_firstBetter_16 (v := 0) (by decide) ?_
  refine j_aload_n (pc := 17) 0 dX4_firstBetter_17 rfl rfl ?_
  refine j_getR (pc := 18) (n := 5) dX4_firstBetter_18 fl229 k0 (by decide) rfl ?_
  refine j_iconst (pc := 21) dX4_firstBetter_21 (v := 0) (by decide) ?_
  refine j_bipush (pc := 22) dX4_firstBetter_22 (v := 24) (by decide) ?_
  obtain ⟨hg3, hf⟩ := ite_some hf
  refine j_copy (pc := 24) dX4_firstBetter_24 w_693 w_nat w_st w_in k2 (lk_4_7 k0) rfl (ll_4_7 k0) (by decide) (by decide) (by decide) hg3 (by decide) (Nat.le_of_ble_eq_true rfl) hf (fun m2 hf => ?_)
  refine j_aload_n (pc := 27) 0 dX4_firstBetter_27 rfl rfl ?_
  refine j_aload_n (pc := 28) 1 dX4_firstBetter_28 rfl rfl ?_
  refine j_callVl (pc := 29) (d := d) (As := []) (st := [.ref (ad a0)]) dX4_firstBetter_29 s694 k1 (by decide) rfl rfl (by decide) (Nat.le_of_ble_eq_true rfl) (fun q hq => t_X3_planMarkBelow (by omega) k1 hq) hf (fun q4 hf => ?_)
  refine j_putL (pc := 32) dX4_firstBetter_32 fl233 fp4_11 k0 (by decide) rfl hf (fun m5 hf => ?_)
  refine j_iconst (pc := 35) dX4_firstBetter_35 (v := 0) (by decide) ?_
  refine j_istore_n (pc := 36) (lv' := [(3, .int 0), (0, .ref (ad a0)), (1, .ref (ad a1)), (2, .ref (ad a2))]) dX4_firstBetter_36 rfl (by decide) rfl ?_
  refine j_sub [1, 2, 0] rfl ?_
  exact t_X4_firstBetter_37 hdp  1000 k0 k1 hf
def f_X2_solveFrom_25 (k25 : Nat → Nat → Int32 → Hp → Option (Int32 × Hp)) (a0 : Nat) (a1 : Nat) (x2 : Int32) (h : Hp) : Option (Int32 × Hp) := if 200 ≤ x2 then (some (200, h)) else ((f_X4_firstBetter (a0 + 2) a1 (a0 + 1) h).bind (fun q4 => if 0 ≤ q4.1 then (if q4.1 = 0 then (some (x2, q4.2)) else ((f_X4_turn (a0 + 2) (a0 + 1) q4.2).bind (fun q5 => lt (x2 + 1) (fun v6 => k25 a0 a1 v6 q5.2)))) else (some (q4.1, q4.2))))
set_option maxHeartbeats 4000000 in
set_option maxRecDepth 100000 in
theorem t_X2_solveFrom_25 {l : Launch} {D : va_G} {ad : Nat → Nat} {cA : Nat → ClassId} {d : Nat} (hdp : 20 ≤ d) {o : Int32 × Hp}  : ∀ (n : Nat) {a0 : Nat} {a1 : Nat} {x2 : Int32} (k0 : kd a0 = 2) (k1 : kd a1 = 3) {h : Hp}, lp (F := Nat → Nat → Int32 → Hp → Option (Int32 × Hp)) (fun _ _ _ _ => none) (f_X2_solveFrom_25) n a0 a1 x2 h = some o → J l D ad cA (fun _ => True) (rmd (d + 1)) (0, 0) (mQ D ad cA (some (.int o.1)) o.2) cX2_solveFrom RX2 4 (some .int) 25 [(0, .ref (ad a0)), (1, .ref (ad a1)), (2, .int x2)] [] h := by
  intro n
  induction n with
  | zero =>
    intro a0 a1 x2 k0 k1 h hf
    have hf : (none : Option (Int32 × Hp)) = some o := hf
    cases hf
  | succ n hk25 =>
    intro a0 a1 x2 k0 k1 h hf
    have hf : f_X2_solveFrom_25  (lp (F := Nat → Nat → Int32 → Hp → Option (Int32 × Hp)) (fun _ _ _ _ => none) (f_X2_solveFrom_25) n) a0 a1 x2 h = some o := hf
    unfold f_X2_solveFrom_25 at hf
    refine j_iload_n (pc := 25) 2 dX2_solveFrom_25 rfl rfl ?_
    refine j_sipush (pc := 26) dX2_solveFrom_26 (v := 200) (by decide) ?_
    refine j_icmp_ge (pc := 29) (tgt := 74) dX2_solveFrom_29 (by decide) hf (fun _ hf => ?_) (fun _ hf => ?_)
    · refine j_sipush (pc := 74) dX2_solveFrom_74 (v := 200) (by decide) ?_
      exact j_iret (pc := 77) dX2_solveFrom_77 rfl hf
    · refine j_aload_n (pc := 32) 0 dX2_solveFrom_32 rfl rfl ?_
      refine j_getR (pc := 33) (n := 2) dX2_solveFrom_33 fl265 k0 (by decide) rfl ?_
      refine j_aload_n (pc := 36) 1 dX2_solveFrom_36 rfl rfl ?_
      refine j_aload_n (pc := 37) 0 dX2_solveFrom_37 rfl rfl ?_
      refine j_getR (pc := 38) (n := 1) dX2_solveFrom_38 fl263 k0 (by decide) rfl ?_
      refine j_callVi (pc := 41) (d := d) (As := [.ref (ad a1), .ref (ad (a0 + 1))]) (st := []) dX2_solveFrom_41 s689 (lk_2_1 k0) (by decide) rfl rfl (by decide) (Nat.le_of_ble_eq_true rfl) (fun q hq => t_X4_firstBetter (by omega) (lk_2_1 k0) k1 (lk_2_0 k0) hq) hf (fun q4 hf => ?_)
      refine j_istore_n (pc := 44) (lv' := [(3, .int q4.1), (0, .ref (ad a0)), (1, .ref (ad a1)), (2, .int x2)]) dX2_solveFrom_44 rfl (by decide) rfl ?_
      refine j_iload_n (pc := 45) 0 dX2_solveFrom_45 rfl rfl ?_
      refine j_if_ge (pc := 46) (tgt := 51) dX2_solveFrom_46 (by decide) hf (fun _ hf => ?_) (fun _ hf => ?_)
      · refine j_iload_n (pc := 51) 0 dX2_solveFrom_51 rfl rfl ?_
        refine j_if_ne (pc := 52) (tgt := 57) dX2_solveFrom_52 (by decide) hf (fun _ hf => ?_) (fun _ hf => ?_)
        · refine j_aload_n (pc := 57) 1 dX2_solveFrom_57 rfl rfl ?_
          refine j_getR (pc := 58) (n := 2) dX2_solveFrom_58 fl265 k0 (by decide) rfl ?_
          refine j_aload_n (pc := 61) 1 dX2_solveFrom_61 rfl rfl ?_
          refine j_getR (pc := 62) (n := 1) dX2_solveFrom_62 fl263 k0 (by decide) rfl ?_
          refine j_callVv (pc := 65) (d := d) (As := [.ref (ad (a0 + 1))]) (st := []) dX2_solveFrom_65 s726 (lk_2_1 k0) (by decide) rfl rfl (by decide) (Nat.le_of_ble_eq_true rfl) (fun q hq => t_X4_turn (lk_2_1 k0) (lk_2_0 k0) hq) hf (fun q5 hf => ?_)
          refine j_iinc (pc := 68) 3 (c := 1) (lv' := fun v6 => [(2, .int v6), (3, .int q4.1), (0, .ref (ad a0)), (1, .ref (ad a1))]) dX2_solveFrom_68 rfl (by decide) (by decide) (fun _ => rfl) hf (fun v6 hf => ?_)
          refine j_goto (pc := 71) (tgt := 25) dX2_solveFrom_71 (by decide) ?_
          refine j_sub [2, 3, 0] rfl ?_
          exact hk25 k0 k1 hf
        · refine j_iload_n (pc := 55) 3 dX2_solveFrom_55 rfl rfl ?_
          exact j_iret (pc := 56) dX2_solveFrom_56 rfl hf
      · refine j_iload_n (pc := 49) 0 dX2_solveFrom_49 rfl rfl ?_
        exact j_iret (pc := 50) dX2_solveFrom_50 rfl hf
def f_X2_solveFrom (a0 : Nat) (a1 : Nat) (h : Hp) : Option (Int32 × Hp) := (f_X3_wardBits a1 h).bind (fun q1 => (f_X4_layOut (a0 + 2) q1.1 (q1.2.1 (a0 + 11) 2) q1.2).bind (fun q2 => (f_X2_begin a0 a1 q2.2).bind (fun q3 => lp (F := Nat → Nat → Int32 → Hp → Option (Int32 × Hp)) (fun _ _ _ _ => none) (f_X2_solveFrom_25) 1000 a0 a1 0 q3.2)))
set_option maxHeartbeats 4000000 in
set_option maxRecDepth 100000 in
theorem t_X2_solveFrom {l : Launch} {D : va_G} {ad : Nat → Nat} {cA : Nat → ClassId} {d : Nat} (hdp : 21 ≤ d) {a0 : Nat} {a1 : Nat} (k0 : kd a0 = 2) (k1 : kd a1 = 3) {h : Hp} {o : Int32 × Hp} (hf : f_X2_solveFrom a0 a1 h = some o) : Cr l D ad cA d yX2_solveFrom cX2_solveFrom 4 (some .int) [.ref (ad a0), .ref (ad a1)] h (some (.int o.1)) o.2 := by
  obtain ⟨d, rfl⟩ : ∃ e, d = e + 1 := ⟨d - 1, by omega⟩
  have hdp : 20 ≤ d := by omega
  unfold f_X2_solveFrom at hf
  refine Cr_of (by decide +kernel) rfl (Nat.le_of_ble_eq_true rfl) (lv0 := [(0, .ref (ad a0)), (1, .ref (ad a1))]) rfl ?_
  refine j_aload_n (pc := 0) 0 dX2_solveFrom_0 rfl rfl ?_
  refine j_getR (pc := 1) (n := 2) dX2_solveFrom_1 fl265 k0 (by decide) rfl ?_
  refine j_aload_n (pc := 4) 1 dX2_solveFrom_4 rfl rfl ?_
  refine j_callVi (pc := 5) (d := d) (As := []) (st := [.ref (ad (a0 + 2))]) dX2_solveFrom_5 s673 k1 (by decide) rfl rfl (by decide) (Nat.le_of_ble_eq_true rfl) (fun q hq => t_X3_wardBits k1 hq) hf (fun q1 hf => ?_)
  refine j_aload_n (pc := 8) 0 dX2_solveFrom_8 rfl rfl ?_
  refine j_getR (pc := 9) (n := 11) dX2_solveFrom_9 fl267 k0 (by decide) rfl ?_
  refine j_getI (pc := 12) dX2_solveFrom_12 fl199 (lk_2_2 k0) (by decide) rfl ?_
  refine j_callVv (pc := 15) (d := d) (As := [.int q1.1, .int (q1.2.1 (a0 + 11) 2)]) (st := []) dX2_solveFrom_15 s677 (lk_2_1 k0) (by decide) rfl rfl (by decide) (Nat.le_of_ble_eq_true rfl) (fun q hq => t_X4_layOut (lk_2_1 k0) hq) hf (fun q2 hf => ?_)
  refine j_aload_n (pc := 18) 0 dX2_solveFrom_18 rfl rfl ?_
  refine j_aload_n (pc := 19) 1 dX2_solveFrom_19 rfl rfl ?_
  refine j_callVv (pc := 20) (d := d) (As := [.ref (ad a1)]) (st := []) dX2_solveFrom_20 s681 k0 (by decide) rfl rfl (by decide) (Nat.le_of_ble_eq_true rfl) (fun q hq => t_X2_begin (by omega) k0 k1 hq) hf (fun q3 hf => ?_)
  refine j_iconst (pc := 23) dX2_solveFrom_23 (v := 0) (by decide) ?_
  refine j_istore_n (pc := 24) (lv' := [(2, .int 0), (0, .ref (ad a0)), (1, .ref (ad a1))]) dX2_solveFrom_24 rfl (by decide) rfl ?_
  refine j_sub [1, 2, 0] rfl ?_
  exact t_X2_solveFrom_25 hdp  1000 k0 k1 hf
def f_X9_finds_26 (k26 : Nat → Nat → Int32 → Hp → Option (Int32 × Hp)) (a0 : Nat) (a1 : Nat) (x2 : Int32) (h : Hp) : Option (Int32 × Hp) := if x2 < (h.1 a0 35) then (if isB 0 = true then some (0, h) else none) else ((f_X9_findsWards 8 a0 a1 0 h).bind (fun q4 => if q4.1 = 0 then (lt (sI q4.2 a0 35 ((q4.2.1 a0 35) + 1)) (fun m5 => k26 a0 a1 x2 m5)) else (if isB 1 = true then some (1, q4.2) else none)))
set_option maxHeartbeats 4000000 in
set_option maxRecDepth 100000 in
theorem t_X9_finds_26 {l : Launch} {D : va_G} {ad : Nat → Nat} {cA : Nat → ClassId} {d : Nat} (hdp : 20 ≤ d) {o : Int32 × Hp}  : ∀ (n : Nat) {a0 : Nat} {a1 : Nat} {x2 : Int32} (k0 : kd a0 = 9) (k1 : kd a1 = 10) {h : Hp}, lp (F := Nat → Nat → Int32 → Hp → Option (Int32 × Hp)) (fun _ _ _ _ => none) (f_X9_finds_26) n a0 a1 x2 h = some o → J l D ad cA (fun _ => True) (rmd (d + 1)) (0, 0) (mQ D ad cA (some (.int o.1)) o.2) cX9_finds RX9 3 (some .boolean) 26 [(0, .ref (ad a0)), (1, .ref (ad a1)), (2, .int x2)] [] h := by
  intro n
  induction n with
  | zero =>
    intro a0 a1 x2 k0 k1 h hf
    have hf : (none : Option (Int32 × Hp)) = some o := hf
    cases hf
  | succ n hk26 =>
    intro a0 a1 x2 k0 k1 h hf
    have hf : f_X9_finds_26  (lp (F := Nat → Nat → Int32 → Hp → Option (Int32 × Hp)) (fun _ _ _ _ => none) (f_X9_finds_26) n) a0 a1 x2 h = some o := hf
    unfold f_X9_finds_26 at hf
    refine j_aload_n (pc := 26) 0 dX9_finds_26 rfl rfl ?_
    refine j_getI (pc := 27) dX9_finds_27 fl881 k0 (by decide) rfl ?_
    refine j_iload_n (pc := 30) 2 dX9_finds_30 rfl rfl ?_
    refine j_icmp_gt (pc := 31) (tgt := 58) dX9_finds_31 (by decide) hf (fun _ hf => ?_) (fun _ hf => ?_)
    · refine j_iconst (pc := 58) dX9_finds_58 (v := 0) (by decide) ?_
      exact j_zret (pc := 59) dX9_finds_59 rfl hf
    · refine j_aload_n (pc := 34) 0 dX9_finds_34 rfl rfl ?_
      refine j_aload_n (pc := 35) 1 dX9_finds_35 rfl rfl ?_
      refine j_iconst (pc := 36) dX9_finds_36 (v := 0) (by decide) ?_
      refine j_callVi (pc := 37) (d := d) (As := [.ref (ad a1), .int 0]) (st := []) dX9_finds_37 s1288 k0 (by decide) rfl rfl (by decide) (Nat.le_of_ble_eq_true rfl) (fun q hq => t_X9_findsWards 8 (by omega) k0 k1 hq) hf (fun q4 hf => ?_)
      refine j_if_eq (pc := 40) (tgt := 45) dX9_finds_40 (by decide) hf (fun _ hf => ?_) (fun _ hf => ?_)
      · refine j_aload_n (pc := 45) 0 dX9_finds_45 rfl rfl ?_
        refine j_dup (pc := 46) dX9_finds_46 rfl ?_
        refine j_getI (pc := 47) dX9_finds_47 fl881 k0 (by decide) rfl ?_
        refine j_iconst (pc := 50) dX9_finds_50 (v := 1) (by decide) ?_
        refine j_iadd (pc := 51) dX9_finds_51  ?_
        refine j_putI (pc := 52) dX9_finds_52 fl881 fp9_35 k0 (by decide) rfl hf (fun m5 hf => ?_)
        refine j_goto (pc := 55) (tgt := 26) dX9_finds_55 (by decide) ?_
        refine j_sub [0, 1, 2] rfl ?_
        exact hk26 k0 k1 hf
      · refine j_iconst (pc := 43) dX9_finds_43 (v := 1) (by decide) ?_
        exact j_zret (pc := 44) dX9_finds_44 rfl hf
def f_X9_finds (a0 : Nat) (a1 : Nat) (h : Hp) : Option (Int32 × Hp) := lt (sI h a0 38 0) (fun m1 => lt (if (if (m1.1 a0 32) < (m1.1 a0 31) then (m1.1 a0 32) else (m1.1 a0 31)) < 4 then (if (m1.1 a0 32) < (m1.1 a0 31) then (m1.1 a0 32) else (m1.1 a0 31)) else 4) (fun v2 => lt (sI m1 a0 35 2) (fun m3 => lp (F := Nat → Nat → Int32 → Hp → Option (Int32 × Hp)) (fun _ _ _ _ => none) (f_X9_finds_26) 1000 a0 a1 v2 m3)))
set_option maxHeartbeats 4000000 in
set_option maxRecDepth 100000 in
theorem t_X9_finds {l : Launch} {D : va_G} {ad : Nat → Nat} {cA : Nat → ClassId} {d : Nat} (hdp : 21 ≤ d) {a0 : Nat} {a1 : Nat} (k0 : kd a0 = 9) (k1 : kd a1 = 10) {h : Hp} {o : Int32 × Hp} (hf : f_X9_finds a0 a1 h = some o) : Cr l D ad cA d yX9_finds cX9_finds 3 (some .boolean) [.ref (ad a0), .ref (ad a1)] h (some (.int o.1)) o.2 := by
  obtain ⟨d, rfl⟩ : ∃ e, d = e + 1 := ⟨d - 1, by omega⟩
  have hdp : 20 ≤ d := by omega
  unfold f_X9_finds at hf
  refine Cr_of (by decide +kernel) rfl (Nat.le_of_ble_eq_true rfl) (lv0 := [(0, .ref (ad a0)), (1, .ref (ad a1))]) rfl ?_
  refine j_aload_n (pc := 0) 0 dX9_finds_0 rfl rfl ?_
  refine j_iconst (pc := 1) dX9_finds_1 (v := 0) (by decide) ?_
  refine j_putZ (pc := 2) dX9_finds_2 fl884 fp9_38 k0 (by decide) rfl (by decide) hf (fun m1 hf => ?_)
  refine j_iconst (pc := 5) dX9_finds_5 (v := 4) (by decide) ?_
  refine j_aload_n (pc := 6) 0 dX9_finds_6 rfl rfl ?_
  refine j_getI (pc := 7) dX9_finds_7 fl877 k0 (by decide) rfl ?_
  refine j_aload_n (pc := 10) 0 dX9_finds_10 rfl rfl ?_
  refine j_getI (pc := 11) dX9_finds_11 fl878 k0 (by decide) rfl ?_
  refine j_mmin (pc := 14) dX9_finds_14 w_1283 w_mmin_s w_math w_mmin_c (Nat.le_of_ble_eq_true rfl) ?_
  refine j_mmin (pc := 17) dX9_finds_17 w_1283 w_mmin_s w_math w_mmin_c (Nat.le_of_ble_eq_true rfl) ?_
  refine j_istore_nN (pc := 20) (lv' := fun v2 => [(2, .int v2), (0, .ref (ad a0)), (1, .ref (ad a1))]) dX9_finds_20 rfl (by decide) (fun _ => rfl) hf (fun v2 hf => ?_)
  refine j_aload_n (pc := 21) 1 dX9_finds_21 rfl rfl ?_
  refine j_iconst (pc := 22) dX9_finds_22 (v := 2) (by decide) ?_
  refine j_putI (pc := 23) dX9_finds_23 fl881 fp9_35 k0 (by decide) rfl hf (fun m3 hf => ?_)
  refine j_sub [1, 2, 0] rfl ?_
  exact t_X9_finds_26 hdp  1000 k0 k1 hf
def f_X2_settle_78  (a0 : Nat) (h : Hp) : Option (Int32 × Hp) := some (h.1 a0 5, h)
set_option maxHeartbeats 4000000 in
set_option maxRecDepth 100000 in
theorem t_X2_settle_78 {l : Launch} {D : va_G} {ad : Nat → Nat} {cA : Nat → ClassId} {d : Nat} (hdp : 21 ≤ d) {o : Int32 × Hp}  {a0 : Nat} (k0 : kd a0 = 2) {h : Hp} (hf : f_X2_settle_78  a0 h = some o) : J l D ad cA (fun _ => True) (rmd (d + 1)) (0, 0) (mQ D ad cA (some (.int o.1)) o.2) cX2_settle RX2 4 (some .int) 78 [(0, .ref (ad a0))] [] h := by
  unfold f_X2_settle_78 at hf
  refine j_aload_n (pc := 78) 0 dX2_settle_78 rfl rfl ?_
  refine j_getI (pc := 79) dX2_settle_79 fl270 k0 (by decide) rfl ?_
  exact j_iret (pc := 82) dX2_settle_82 rfl hf
def f_X2_settle_70  (a0 : Nat) (y0 : Int32) (b1 : Nat) (h : Hp) : Option (Int32 × Hp) := lt (sI h b1 5 y0) (fun m5 => lt (sI m5 a0 4 0) (fun m6 => f_X2_settle_78  a0 m6))
set_option maxHeartbeats 4000000 in
set_option maxRecDepth 100000 in
theorem t_X2_settle_70 {l : Launch} {D : va_G} {ad : Nat → Nat} {cA : Nat → ClassId} {d : Nat} (hdp : 21 ≤ d) {o : Int32 × Hp}  {a0 : Nat} {y0 : Int32} {b1 : Nat} (k0 : kd a0 = 2) (kb1 : kd b1 = 2) {h : Hp} (hf : f_X2_settle_70  a0 y0 b1 h = some o) : J l D ad cA (fun _ => True) (rmd (d + 1)) (0, 0) (mQ D ad cA (some (.int o.1)) o.2) cX2_settle RX2 4 (some .int) 70 [(0, .ref (ad a0))] [.int y0, .ref (ad b1)] h := by
  unfold f_X2_settle_70 at hf
  refine j_putI (pc := 70) dX2_settle_70 fl270 fp2_5 kb1 (by decide) rfl hf (fun m5 hf => ?_)
  refine j_aload_n (pc := 73) 0 dX2_settle_73 rfl rfl ?_
  refine j_iconst (pc := 74) dX2_settle_74 (v := 0) (by decide) ?_
  refine j_putZ (pc := 75) dX2_settle_75 fl269 fp2_4 k0 (by decide) rfl (by decide) hf (fun m6 hf => ?_)
  refine j_sub [0] rfl ?_
  exact t_X2_settle_78 hdp  k0 hf
def f_X2_settle_54  (a0 : Nat) (a1 : Nat) (y0 : Int32) (h : Hp) : Option (Int32 × Hp) := if y0 = 0 then (f_X2_settle_70  a0 ((-3)) a0 h) else ((f_X2_solveFrom a0 a1 h).bind (fun q4 => f_X2_settle_70  a0 q4.1 a0 q4.2))
set_option maxHeartbeats 4000000 in
set_option maxRecDepth 100000 in
theorem t_X2_settle_54 {l : Launch} {D : va_G} {ad : Nat → Nat} {cA : Nat → ClassId} {d : Nat} (hdp : 21 ≤ d) {o : Int32 × Hp}  {a0 : Nat} {a1 : Nat} {y0 : Int32} (k0 : kd a0 = 2) (k1 : kd a1 = 3) {h : Hp} (hf : f_X2_settle_54  a0 a1 y0 h = some o) : J l D ad cA (fun _ => True) (rmd (d + 1)) (0, 0) (mQ D ad cA (some (.int o.1)) o.2) cX2_settle RX2 4 (some .int) 54 [(0, .ref (ad a0)), (1, .ref (ad a1))] [.int y0] h := by
  unfold f_X2_settle_54 at hf
  refine j_istore_n (pc := 54) (lv' := [(3, .int y0), (0, .ref (ad a0)), (1, .ref (ad a1))]) dX2_settle_54 rfl (by decide) rfl ?_
  refine j_aload_n (pc := 55) 1 dX2_settle_55 rfl rfl ?_
  refine j_iload_n (pc := 56) 0 dX2_settle_56 rfl rfl ?_
  refine j_if_eq (pc := 57) (tgt := 68) dX2_settle_57 (by decide) hf (fun _ hf => ?_) (fun _ hf => ?_)
  · refine j_bipush (pc := 68) dX2_settle_68 (v := -3) (by decide) ?_
    refine j_sub [1] rfl ?_
    exact t_X2_settle_70 hdp  k0 k0 hf
  · refine j_aload_n (pc := 60) 1 dX2_settle_60 rfl rfl ?_
    refine j_aload_n (pc := 61) 2 dX2_settle_61 rfl rfl ?_
    refine j_callVi (pc := 62) (d := d) (As := [.ref (ad a1)]) (st := [.ref (ad a0)]) dX2_settle_62 s669 k0 (by decide) rfl rfl (by decide) (Nat.le_of_ble_eq_true rfl) (fun q hq => t_X2_solveFrom (by omega) k0 k1 hq) hf (fun q4 hf => ?_)
    refine j_goto (pc := 65) (tgt := 70) dX2_settle_65 (by decide) ?_
    refine j_sub [1] rfl ?_
    exact t_X2_settle_70 hdp  k0 k0 hf
def f_X2_settle_53  (a0 : Nat) (a1 : Nat) (h : Hp) : Option (Int32 × Hp) := f_X2_settle_54  a0 a1 0 h
set_option maxHeartbeats 4000000 in
set_option maxRecDepth 100000 in
theorem t_X2_settle_53 {l : Launch} {D : va_G} {ad : Nat → Nat} {cA : Nat → ClassId} {d : Nat} (hdp : 21 ≤ d) {o : Int32 × Hp}  {a0 : Nat} {a1 : Nat} (k0 : kd a0 = 2) (k1 : kd a1 = 3) {h : Hp} (hf : f_X2_settle_53  a0 a1 h = some o) : J l D ad cA (fun _ => True) (rmd (d + 1)) (0, 0) (mQ D ad cA (some (.int o.1)) o.2) cX2_settle RX2 4 (some .int) 53 [(0, .ref (ad a0)), (1, .ref (ad a1))] [] h := by
  unfold f_X2_settle_53 at hf
  refine j_iconst (pc := 53) dX2_settle_53 (v := 0) (by decide) ?_
  refine j_sub [0, 1] rfl ?_
  exact t_X2_settle_54 hdp  k0 k1 hf
def f_X2_settle (a0 : Nat) (a1 : Nat) (h : Hp) : Option (Int32 × Hp) := if (h.1 a0 4) = 0 then (f_X2_settle_78  a0 h) else ((f_X3_sumOfSeats a1 h).bind (fun q1 => (f_X2_hasPlans (q1.2.1 a1 5) q1.2).bind (fun q2 => if q2.1 = 0 then (f_X2_settle_53  a0 a1 q2.2) else (if q1.1 < 1 then (f_X2_settle_53  a0 a1 q2.2) else (if 60 < q1.1 then (f_X2_settle_53  a0 a1 q2.2) else ((f_X1_fill (a0 + 11) a1 (q2.2.1 a1 5) q1.1 q2.2).bind (fun q3 => if q3.1 = 0 then (f_X2_settle_53  a0 a1 q3.2) else (f_X2_settle_54  a0 a1 1 q3.2))))))))
set_option maxHeartbeats 4000000 in
set_option maxRecDepth 100000 in
theorem t_X2_settle {l : Launch} {D : va_G} {ad : Nat → Nat} {cA : Nat → ClassId} {d : Nat} (hdp : 22 ≤ d) {a0 : Nat} {a1 : Nat} (k0 : kd a0 = 2) (k1 : kd a1 = 3) {h : Hp} {o : Int32 × Hp} (hf : f_X2_settle a0 a1 h = some o) : Cr l D ad cA d yX2_settle cX2_settle 4 (some .int) [.ref (ad a0), .ref (ad a1)] h (some (.int o.1)) o.2 := by
  obtain ⟨d, rfl⟩ : ∃ e, d = e + 1 := ⟨d - 1, by omega⟩
  have hdp : 21 ≤ d := by omega
  unfold f_X2_settle at hf
  refine Cr_of (by decide +kernel) rfl (Nat.le_of_ble_eq_true rfl) (lv0 := [(0, .ref (ad a0)), (1, .ref (ad a1))]) rfl ?_
  refine j_aload_n (pc := 0) 0 dX2_settle_0 rfl rfl ?_
  refine j_getI (pc := 1) dX2_settle_1 fl269 k0 (by decide) rfl ?_
  refine j_if_eq (pc := 4) (tgt := 78) dX2_settle_4 (by decide) hf (fun _ hf => ?_) (fun _ hf => ?_)
  · refine j_sub [0] rfl ?_
    exact t_X2_settle_78 hdp  k0 hf
  · refine j_aload_n (pc := 7) 1 dX2_settle_7 rfl rfl ?_
    refine j_callVi (pc := 8) (d := d) (As := []) (st := []) dX2_settle_8 s661 k1 (by decide) rfl rfl (by decide) (Nat.le_of_ble_eq_true rfl) (fun q hq => t_X3_sumOfSeats k1 hq) hf (fun q1 hf => ?_)
    refine j_istore_n (pc := 11) (lv' := [(2, .int q1.1), (0, .ref (ad a0)), (1, .ref (ad a1))]) dX2_settle_11 rfl (by decide) rfl ?_
    refine j_aload_n (pc := 12) 2 dX2_settle_12 rfl rfl ?_
    refine j_getI (pc := 13) dX2_settle_13 fl115 k1 (by decide) rfl ?_
    refine j_callSi (pc := 16) (d := d) (As := [.int (q1.2.1 a1 5)]) (st := []) dX2_settle_16 s665 rfl rfl (by decide) (Nat.le_of_ble_eq_true rfl) (fun q hq => t_X2_hasPlans  hq) hf (fun q2 hf => ?_)
    refine j_if_eq (pc := 19) (tgt := 53) dX2_settle_19 (by decide) hf (fun _ hf => ?_) (fun _ hf => ?_)
    · refine j_sub [1, 2] rfl ?_
      exact t_X2_settle_53 hdp  k0 k1 hf
    · refine j_iload_n (pc := 22) 0 dX2_settle_22 rfl rfl ?_
      refine j_iconst (pc := 23) dX2_settle_23 (v := 1) (by decide) ?_
      refine j_icmp_lt (pc := 24) (tgt := 53) dX2_settle_24 (by decide) hf (fun _ hf => ?_) (fun _ hf => ?_)
      · refine j_sub [1, 2] rfl ?_
        exact t_X2_settle_53 hdp  k0 k1 hf
      · refine j_iload_n (pc := 27) 0 dX2_settle_27 rfl rfl ?_
        refine j_bipush (pc := 28) dX2_settle_28 (v := 60) (by decide) ?_
        refine j_icmp_gt (pc := 30) (tgt := 53) dX2_settle_30 (by decide) hf (fun _ hf => ?_) (fun _ hf => ?_)
        · refine j_sub [1, 2] rfl ?_
          exact t_X2_settle_53 hdp  k0 k1 hf
        · refine j_aload_n (pc := 33) 1 dX2_settle_33 rfl rfl ?_
          refine j_getR (pc := 34) (n := 11) dX2_settle_34 fl267 k0 (by decide) rfl ?_
          refine j_aload_n (pc := 37) 2 dX2_settle_37 rfl rfl ?_
          refine j_aload_n (pc := 38) 2 dX2_settle_38 rfl rfl ?_
          refine j_getI (pc := 39) dX2_settle_39 fl115 k1 (by decide) rfl ?_
          refine j_iload_n (pc := 42) 0 dX2_settle_42 rfl rfl ?_
          refine j_callVi (pc := 43) (d := d) (As := [.ref (ad a1), .int (q2.2.1 a1 5), .int q1.1]) (st := []) dX2_settle_43 s668 (lk_2_2 k0) (by decide) rfl rfl (by decide) (Nat.le_of_ble_eq_true rfl) (fun q hq => t_X1_fill (by omega) (lk_2_2 k0) k1 hq) hf (fun q3 hf => ?_)
          refine j_if_eq (pc := 46) (tgt := 53) dX2_settle_46 (by decide) hf (fun _ hf => ?_) (fun _ hf => ?_)
          · refine j_sub [1, 2] rfl ?_
            exact t_X2_settle_53 hdp  k0 k1 hf
          · refine j_iconst (pc := 49) dX2_settle_49 (v := 1) (by decide) ?_
            refine j_goto (pc := 50) (tgt := 54) dX2_settle_50 (by decide) ?_
            refine j_sub [1, 2] rfl ?_
            exact t_X2_settle_54 hdp  k0 k1 hf
