def f_X9_seatsOf (a0 : Nat) (x1 : Int32) (h : Hp) : Option (Int32 × Hp) := if ix (24 + x1) 44 = true then (some (h.1 (a0 + 1) (Int32.toNatClampNeg (24 + x1)), h)) else none
set_option maxHeartbeats 4000000 in
set_option maxRecDepth 100000 in
theorem t_X9_seatsOf {l : Launch} {D : va_G} {ad : Nat → Nat} {cA : Nat → ClassId} {d : Nat} {a0 : Nat} {x1 : Int32} (k0 : kd a0 = 9) {h : Hp} {o : Int32 × Hp} (hf : f_X9_seatsOf a0 x1 h = some o) : Cr l D ad cA d yX9_seatsOf cX9_seatsOf 2 (some .int) [.ref (ad a0), .int x1] h (some (.int o.1)) o.2 := by
  unfold f_X9_seatsOf at hf
  refine Cr_of (by decide +kernel) rfl (Nat.le_of_ble_eq_true rfl) (lv0 := [(0, .ref (ad a0)), (1, .int x1)]) rfl ?_
  refine j_aload_n (pc := 0) 0 dX9_seatsOf_0 rfl rfl ?_
  refine j_getR (pc := 1) (n := 1) dX9_seatsOf_1 fl846 k0 (by decide) rfl ?_
  refine j_bipush (pc := 4) dX9_seatsOf_4 (v := 24) (by decide) ?_
  refine j_iload_n (pc := 6) 1 dX9_seatsOf_6 rfl rfl ?_
  refine j_iadd (pc := 7) dX9_seatsOf_7  ?_
  refine j_iaload (pc := 8) dX9_seatsOf_8 (lk_9_0 k0) (ll_9_0 k0) hf (fun _ hf => ?_)
  exact j_iret (pc := 9) dX9_seatsOf_9 rfl hf
def f_X9_tells (a0 : Nat) (x1 : Int32) (x2 : Int32) (h : Hp) : Option (Int32 × Hp) := if ix x1 44 = true then (lt (h.1 (a0 + 1) (Int32.toNatClampNeg x1)) (fun v1 => if ix x1 44 = true then (lt (sI h (a0 + 1) (Int32.toNatClampNeg x1) x2) (fun m2 => lt (sI m2 a0 3 0) (fun m3 => some (v1, m3)))) else none)) else none
set_option maxHeartbeats 4000000 in
set_option maxRecDepth 100000 in
theorem t_X9_tells {l : Launch} {D : va_G} {ad : Nat → Nat} {cA : Nat → ClassId} {d : Nat} {a0 : Nat} {x1 : Int32} {x2 : Int32} (k0 : kd a0 = 9) {h : Hp} {o : Int32 × Hp} (hf : f_X9_tells a0 x1 x2 h = some o) : Cr l D ad cA d yX9_tells cX9_tells 4 (some .int) [.ref (ad a0), .int x1, .int x2] h (some (.int o.1)) o.2 := by
  unfold f_X9_tells at hf
  refine Cr_of (by decide +kernel) rfl (Nat.le_of_ble_eq_true rfl) (lv0 := [(0, .ref (ad a0)), (1, .int x1), (2, .int x2)]) rfl ?_
  refine j_aload_n (pc := 0) 0 dX9_tells_0 rfl rfl ?_
  refine j_getR (pc := 1) (n := 1) dX9_tells_1 fl846 k0 (by decide) rfl ?_
  refine j_iload_n (pc := 4) 1 dX9_tells_4 rfl rfl ?_
  refine j_iaload (pc := 5) dX9_tells_5 (lk_9_0 k0) (ll_9_0 k0) hf (fun _ hf => ?_)
  refine j_istore_nN (pc := 6) (lv' := fun v1 => [(3, .int v1), (0, .ref (ad a0)), (1, .int x1), (2, .int x2)]) dX9_tells_6 rfl (by decide) (fun _ => rfl) hf (fun v1 hf => ?_)
  refine j_aload_n (pc := 7) 1 dX9_tells_7 rfl rfl ?_
  refine j_getR (pc := 8) (n := 1) dX9_tells_8 fl846 k0 (by decide) rfl ?_
  refine j_iload_n (pc := 11) 2 dX9_tells_11 rfl rfl ?_
  refine j_iload_n (pc := 12) 3 dX9_tells_12 rfl rfl ?_
  refine j_iastore (pc := 13) dX9_tells_13 (lk_9_0 k0) (ll_9_0 k0) hf (fun m2 hf => ?_)
  refine j_aload_n (pc := 14) 1 dX9_tells_14 rfl rfl ?_
  refine j_iconst (pc := 15) dX9_tells_15 (v := 0) (by decide) ?_
  refine j_putZ (pc := 16) dX9_tells_16 fl849 fp9_3 k0 (by decide) rfl (by decide) hf (fun m3 hf => ?_)
  refine j_iload_n (pc := 19) 0 dX9_tells_19 rfl rfl ?_
  exact j_iret (pc := 20) dX9_tells_20 rfl hf
def f_X9_times_23  (x1 : Int64) (x3 : Int64) (h : Hp) : Option (Int64 × Hp) := some (x1 * x3, h)
set_option maxHeartbeats 4000000 in
set_option maxRecDepth 100000 in
theorem t_X9_times_23 {l : Launch} {D : va_G} {ad : Nat → Nat} {cA : Nat → ClassId} {d : Nat} {o : Int64 × Hp}  {x1 : Int64} {x3 : Int64}  {h : Hp} (hf : f_X9_times_23  x1 x3 h = some o) : J l D ad cA (fun _ => True) (rmd d) (0, 0) (mQ D ad cA (some (.long o.1)) o.2) cX9_times RX9 5 (some .long) 23 [(1, .long x1), (3, .long x3)] [] h := by
  unfold f_X9_times_23 at hf
  refine j_lload_n (pc := 23) 0 dX9_times_23 rfl rfl ?_
  refine j_lload_n (pc := 24) 1 dX9_times_24 rfl rfl ?_
  refine j_lmul (pc := 25) dX9_times_25  ?_
  exact j_lret (pc := 26) dX9_times_26 rfl hf
def f_X9_times (a0 : Nat) (x1 : Int64) (x3 : Int64) (h : Hp) : Option (Int64 × Hp) := if (lg_cmp x1 0) ≤ 0 then (f_X9_times_23  x1 x3 h) else (if x1 = 0 then none else (if (lg_cmp x3 (9223372036854775807 / x1)) ≤ 0 then (f_X9_times_23  x1 x3 h) else (lt (sI h a0 38 1) (fun m1 => some (0, m1)))))
set_option maxHeartbeats 4000000 in
set_option maxRecDepth 100000 in
theorem t_X9_times {l : Launch} {D : va_G} {ad : Nat → Nat} {cA : Nat → ClassId} {d : Nat} {a0 : Nat} {x1 : Int64} {x3 : Int64} (k0 : kd a0 = 9) {h : Hp} {o : Int64 × Hp} (hf : f_X9_times a0 x1 x3 h = some o) : Cr l D ad cA d yX9_times cX9_times 5 (some .long) [.ref (ad a0), .long x1, .long x3] h (some (.long o.1)) o.2 := by
  unfold f_X9_times at hf
  refine Cr_of (by decide +kernel) rfl (Nat.le_of_ble_eq_true rfl) (lv0 := [(0, .ref (ad a0)), (1, .long x1), (3, .long x3)]) rfl ?_
  refine j_lload_n (pc := 0) 1 dX9_times_0 rfl rfl ?_
  refine j_lconst (pc := 1) dX9_times_1 (v := 0) rfl ?_
  refine j_lcmp (pc := 2) dX9_times_2  ?_
  refine j_if_le (pc := 3) (tgt := 23) dX9_times_3 (by decide) hf (fun _ hf => ?_) (fun _ hf => ?_)
  · refine j_sub [1, 2] rfl ?_
    exact t_X9_times_23   hf
  · refine j_lload_n (pc := 6) 2 dX9_times_6 rfl rfl ?_
    refine j_ldc2_w (pc := 7) dX9_times_7 (v := 9223372036854775807) w_c1316 ?_
    refine j_lload_n (pc := 10) 1 dX9_times_10 rfl rfl ?_
    refine j_ldiv (pc := 11) dX9_times_11 hf (fun hf => ?_)
    refine j_lcmp (pc := 12) dX9_times_12  ?_
    refine j_if_le (pc := 13) (tgt := 23) dX9_times_13 (by decide) hf (fun _ hf => ?_) (fun _ hf => ?_)
    · refine j_sub [1, 2] rfl ?_
      exact t_X9_times_23   hf
    · refine j_aload_n (pc := 16) 0 dX9_times_16 rfl rfl ?_
      refine j_iconst (pc := 17) dX9_times_17 (v := 1) (by decide) ?_
      refine j_putZ (pc := 18) dX9_times_18 fl884 fp9_38 k0 (by decide) rfl (by decide) hf (fun m1 hf => ?_)
      refine j_lconst (pc := 21) dX9_times_21 (v := 0) rfl ?_
      exact j_lret (pc := 22) dX9_times_22 rfl hf
def f_X9_votesOf (a0 : Nat) (x1 : Int32) (x2 : Int32) (h : Hp) : Option (Int32 × Hp) := if ix ((6 * x1) + x2) 44 = true then (some (h.1 (a0 + 1) (Int32.toNatClampNeg ((6 * x1) + x2)), h)) else none
set_option maxHeartbeats 4000000 in
set_option maxRecDepth 100000 in
theorem t_X9_votesOf {l : Launch} {D : va_G} {ad : Nat → Nat} {cA : Nat → ClassId} {d : Nat} {a0 : Nat} {x1 : Int32} {x2 : Int32} (k0 : kd a0 = 9) {h : Hp} {o : Int32 × Hp} (hf : f_X9_votesOf a0 x1 x2 h = some o) : Cr l D ad cA d yX9_votesOf cX9_votesOf 3 (some .int) [.ref (ad a0), .int x1, .int x2] h (some (.int o.1)) o.2 := by
  unfold f_X9_votesOf at hf
  refine Cr_of (by decide +kernel) rfl (Nat.le_of_ble_eq_true rfl) (lv0 := [(0, .ref (ad a0)), (1, .int x1), (2, .int x2)]) rfl ?_
  refine j_aload_n (pc := 0) 0 dX9_votesOf_0 rfl rfl ?_
  refine j_getR (pc := 1) (n := 1) dX9_votesOf_1 fl846 k0 (by decide) rfl ?_
  refine j_bipush (pc := 4) dX9_votesOf_4 (v := 6) (by decide) ?_
  refine j_iload_n (pc := 6) 1 dX9_votesOf_6 rfl rfl ?_
  refine j_imul (pc := 7) dX9_votesOf_7  ?_
  refine j_iload_n (pc := 8) 2 dX9_votesOf_8 rfl rfl ?_
  refine j_iadd (pc := 9) dX9_votesOf_9  ?_
  refine j_iaload (pc := 10) dX9_votesOf_10 (lk_9_0 k0) (ll_9_0 k0) hf (fun _ hf => ?_)
  exact j_iret (pc := 11) dX9_votesOf_11 rfl hf
def f_X9_wayNow (a0 : Nat) (h : Hp) : Option (Int32 × Hp) := if ix 41 44 = true then (some (h.1 (a0 + 1) (Int32.toNatClampNeg 41), h)) else none
set_option maxHeartbeats 4000000 in
set_option maxRecDepth 100000 in
theorem t_X9_wayNow {l : Launch} {D : va_G} {ad : Nat → Nat} {cA : Nat → ClassId} {d : Nat} {a0 : Nat} (k0 : kd a0 = 9) {h : Hp} {o : Int32 × Hp} (hf : f_X9_wayNow a0 h = some o) : Cr l D ad cA d yX9_wayNow cX9_wayNow 1 (some .int) [.ref (ad a0)] h (some (.int o.1)) o.2 := by
  unfold f_X9_wayNow at hf
  refine Cr_of (by decide +kernel) rfl (Nat.le_of_ble_eq_true rfl) (lv0 := [(0, .ref (ad a0))]) rfl ?_
  refine j_aload_n (pc := 0) 0 dX9_wayNow_0 rfl rfl ?_
  refine j_getR (pc := 1) (n := 1) dX9_wayNow_1 fl846 k0 (by decide) rfl ?_
  refine j_bipush (pc := 4) dX9_wayNow_4 (v := 41) (by decide) ?_
  refine j_iaload (pc := 6) dX9_wayNow_6 (lk_9_0 k0) (ll_9_0 k0) hf (fun _ hf => ?_)
  exact j_iret (pc := 7) dX9_wayNow_7 rfl hf
def f_X9_within (x0 : Int64) (x2 : Int64) (x4 : Int64) (h : Hp) : Option (Int32 × Hp) := if (lg_cmp x0 x2) < 0 then (if isB 0 = true then some (0, h) else none) else (if 0 < (lg_cmp x0 x4) then (if isB 0 = true then some (0, h) else none) else (if isB 1 = true then some (1, h) else none))
set_option maxHeartbeats 4000000 in
set_option maxRecDepth 100000 in
theorem t_X9_within {l : Launch} {D : va_G} {ad : Nat → Nat} {cA : Nat → ClassId} {d : Nat} {x0 : Int64} {x2 : Int64} {x4 : Int64}  {h : Hp} {o : Int32 × Hp} (hf : f_X9_within x0 x2 x4 h = some o) : Cr l D ad cA d yX9_within cX9_within 6 (some .boolean) [.long x0, .long x2, .long x4] h (some (.int o.1)) o.2 := by
  unfold f_X9_within at hf
  refine Cr_of (by decide +kernel) rfl (Nat.le_of_ble_eq_true rfl) (lv0 := [(0, .long x0), (2, .long x2), (4, .long x4)]) rfl ?_
  refine j_lload_n (pc := 0) 0 dX9_within_0 rfl rfl ?_
  refine j_lload_n (pc := 1) 1 dX9_within_1 rfl rfl ?_
  refine j_lcmp (pc := 2) dX9_within_2  ?_
  refine j_if_lt (pc := 3) (tgt := 17) dX9_within_3 (by decide) hf (fun _ hf => ?_) (fun _ hf => ?_)
  · refine j_iconst (pc := 17) dX9_within_17 (v := 0) (by decide) ?_
    exact j_zret (pc := 18) dX9_within_18 rfl hf
  · refine j_lload_n (pc := 6) 0 dX9_within_6 rfl rfl ?_
    refine j_lload (pc := 7) 2 dX9_within_7 rfl ?_
    refine j_lcmp (pc := 9) dX9_within_9  ?_
    refine j_if_gt (pc := 10) (tgt := 17) dX9_within_10 (by decide) hf (fun _ hf => ?_) (fun _ hf => ?_)
    · refine j_iconst (pc := 17) dX9_within_17 (v := 0) (by decide) ?_
      exact j_zret (pc := 18) dX9_within_18 rfl hf
    · refine j_iconst (pc := 13) dX9_within_13 (v := 1) (by decide) ?_
      refine j_goto (pc := 14) (tgt := 18) dX9_within_14 (by decide) ?_
      exact j_zret (pc := 18) dX9_within_18 rfl hf
def f_X9_writes (a0 : Nat) (x1 : Int32) (h : Hp) : Option (Unit × Hp) := if ix (h.1 a0 28) 96 = true then (lt (sI h (a0 + 19) (Int32.toNatClampNeg (h.1 a0 28)) x1) (fun m1 => lt (sI m1 a0 28 ((m1.1 a0 28) + 1)) (fun m2 => some ((), m2)))) else none
set_option maxHeartbeats 4000000 in
set_option maxRecDepth 100000 in
theorem t_X9_writes {l : Launch} {D : va_G} {ad : Nat → Nat} {cA : Nat → ClassId} {d : Nat} {a0 : Nat} {x1 : Int32} (k0 : kd a0 = 9) {h : Hp} {o : Unit × Hp} (hf : f_X9_writes a0 x1 h = some o) : Cr l D ad cA d yX9_writes cX9_writes 2 (none) [.ref (ad a0), .int x1] h (none) o.2 := by
  unfold f_X9_writes at hf
  refine Cr_of (by decide +kernel) rfl (Nat.le_of_ble_eq_true rfl) (lv0 := [(0, .ref (ad a0)), (1, .int x1)]) rfl ?_
  refine j_aload_n (pc := 0) 0 dX9_writes_0 rfl rfl ?_
  refine j_getR (pc := 1) (n := 19) dX9_writes_1 fl873 k0 (by decide) rfl ?_
  refine j_aload_n (pc := 4) 0 dX9_writes_4 rfl rfl ?_
  refine j_getI (pc := 5) dX9_writes_5 fl874 k0 (by decide) rfl ?_
  refine j_iload_n (pc := 8) 1 dX9_writes_8 rfl rfl ?_
  refine j_iastore (pc := 9) dX9_writes_9 (lk_9_27 k0) (ll_9_27 k0) hf (fun m1 hf => ?_)
  refine j_aload_n (pc := 10) 0 dX9_writes_10 rfl rfl ?_
  refine j_dup (pc := 11) dX9_writes_11 rfl ?_
  refine j_getI (pc := 12) dX9_writes_12 fl874 k0 (by decide) rfl ?_
  refine j_iconst (pc := 15) dX9_writes_15 (v := 1) (by decide) ?_
  refine j_iadd (pc := 16) dX9_writes_16  ?_
  refine j_putI (pc := 17) dX9_writes_17 fl874 fp9_28 k0 (by decide) rfl hf (fun m2 hf => ?_)
  exact j_vret (pc := 20) dX9_writes_20 rfl hf
def f_X0_empty (a0 : Nat) (h : Hp) : Option (Unit × Hp) := (f_J7_fill_53178 (a0 + 1) 0 h).bind (fun q1 => (f_J7_fill_d0a16 (a0 + 3) 0 q1.2).bind (fun q2 => (f_J7_fill_53178 (a0 + 4) 0 q2.2).bind (fun q3 => lt (sI q3.2 a0 2 0) (fun m4 => lt (sI m4 a0 3 0) (fun m5 => lt (sI m5 a0 4 0) (fun m6 => some ((), m6)))))))
set_option maxHeartbeats 4000000 in
set_option maxRecDepth 100000 in
theorem t_X0_empty {l : Launch} {D : va_G} {ad : Nat → Nat} {cA : Nat → ClassId} {d : Nat} (hdp : 1 ≤ d) {a0 : Nat} (k0 : kd a0 = 0) {h : Hp} {o : Unit × Hp} (hf : f_X0_empty a0 h = some o) : Cr l D ad cA d yX0_empty cX0_empty 1 (none) [.ref (ad a0)] h (none) o.2 := by
  obtain ⟨d, rfl⟩ : ∃ e, d = e + 1 := ⟨d - 1, by omega⟩
  have hdp : 0 ≤ d := by omega
  unfold f_X0_empty at hf
  refine Cr_of (by decide +kernel) rfl (Nat.le_of_ble_eq_true rfl) (lv0 := [(0, .ref (ad a0))]) rfl ?_
  refine j_aload_n (pc := 0) 0 dX0_empty_0 rfl rfl ?_
  refine j_getR (pc := 1) (n := 1) dX0_empty_1 fl152 k0 (by decide) rfl ?_
  refine j_iconst (pc := 4) dX0_empty_4 (v := 0) (by decide) ?_
  refine j_callSv (pc := 5) (d := d) (As := [.ref (ad (a0 + 1)), .int 0]) (st := []) dX0_empty_5 s496 rfl rfl (by decide) (Nat.le_of_ble_eq_true rfl) (fun q hq => t_J7_fill_53178 (lk_0_0 k0) hq) hf (fun q1 hf => ?_)
  refine j_aload_n (pc := 8) 0 dX0_empty_8 rfl rfl ?_
  refine j_getR (pc := 9) (n := 3) dX0_empty_9 fl163 k0 (by decide) rfl ?_
  refine j_lconst (pc := 12) dX0_empty_12 (v := 0) rfl ?_
  refine j_callSv (pc := 13) (d := d) (As := [.ref (ad (a0 + 3)), .long 0]) (st := []) dX0_empty_13 s497 rfl rfl (by decide) (Nat.le_of_ble_eq_true rfl) (fun q hq => t_J7_fill_d0a16 (lk_0_5 k0) hq) hf (fun q2 hf => ?_)
  refine j_aload_n (pc := 16) 0 dX0_empty_16 rfl rfl ?_
  refine j_getR (pc := 17) (n := 4) dX0_empty_17 fl164 k0 (by decide) rfl ?_
  refine j_iconst (pc := 20) dX0_empty_20 (v := 0) (by decide) ?_
  refine j_callSv (pc := 21) (d := d) (As := [.ref (ad (a0 + 4)), .int 0]) (st := []) dX0_empty_21 s496 rfl rfl (by decide) (Nat.le_of_ble_eq_true rfl) (fun q hq => t_J7_fill_53178 (lk_0_6 k0) hq) hf (fun q3 hf => ?_)
  refine j_aload_n (pc := 24) 0 dX0_empty_24 rfl rfl ?_
  refine j_iconst (pc := 25) dX0_empty_25 (v := 0) (by decide) ?_
  refine j_putI (pc := 26) dX0_empty_26 fl158 fp0_2 k0 (by decide) rfl hf (fun m4 hf => ?_)
  refine j_aload_n (pc := 29) 0 dX0_empty_29 rfl rfl ?_
  refine j_iconst (pc := 30) dX0_empty_30 (v := 0) (by decide) ?_
  refine j_putI (pc := 31) dX0_empty_31 fl160 fp0_3 k0 (by decide) rfl hf (fun m5 hf => ?_)
  refine j_aload_n (pc := 34) 0 dX0_empty_34 rfl rfl ?_
  refine j_iconst (pc := 35) dX0_empty_35 (v := 0) (by decide) ?_
  refine j_putI (pc := 36) dX0_empty_36 fl162 fp0_4 k0 (by decide) rfl hf (fun m6 hf => ?_)
  exact j_vret (pc := 39) dX0_empty_39 rfl hf
def f_X0_giveByRests_177 (k177 : Nat → Int32 → Int32 → Int32 → Hp → Option (Int32 × Hp)) (a0 : Nat) (x4 : Int32) (x5 : Int32) (x6 : Int32) (h : Hp) : Option (Int32 × Hp) := if x4 ≤ x6 then (if isB 1 = true then some (1, h) else none) else (if x5 = 0 then none else (if ix (x6 - x6 / x5 * x5) 6 = true then (if ix (h.1 (a0 + 8) (Int32.toNatClampNeg (x6 - x6 / x5 * x5))) 6 = true then (if ix (h.1 (a0 + 8) (Int32.toNatClampNeg (x6 - x6 / x5 * x5))) 6 = true then (lt (sI h (a0 + 1) (Int32.toNatClampNeg (h.1 (a0 + 8) (Int32.toNatClampNeg (x6 - x6 / x5 * x5)))) ((h.1 (a0 + 1) (Int32.toNatClampNeg (h.1 (a0 + 8) (Int32.toNatClampNeg (x6 - x6 / x5 * x5))))) + 1)) (fun m9 => lt (x6 + 1) (fun v10 => k177 a0 x4 x5 v10 m9))) else none) else none) else none))
set_option maxHeartbeats 4000000 in
set_option maxRecDepth 100000 in
theorem t_X0_giveByRests_177 {l : Launch} {D : va_G} {ad : Nat → Nat} {cA : Nat → ClassId} {d : Nat} (hdp : 0 ≤ d) {o : Int32 × Hp}  : ∀ (n : Nat) {a0 : Nat} {x4 : Int32} {x5 : Int32} {x6 : Int32} (k0 : kd a0 = 0) {h : Hp}, lp (F := Nat → Int32 → Int32 → Int32 → Hp → Option (Int32 × Hp)) (fun _ _ _ _ _ => none) (f_X0_giveByRests_177) n a0 x4 x5 x6 h = some o → J l D ad cA (fun _ => True) (rmd (d + 1)) (0, 0) (mQ D ad cA (some (.int o.1)) o.2) cX0_giveByRests RX0 8 (some .boolean) 177 [(0, .ref (ad a0)), (4, .int x4), (5, .int x5), (6, .int x6)] [] h := by
  intro n
  induction n with
  | zero =>
    intro a0 x4 x5 x6 k0 h hf
    have hf : (none : Option (Int32 × Hp)) = some o := hf
    cases hf
  | succ n hk177 =>
    intro a0 x4 x5 x6 k0 h hf
    have hf : f_X0_giveByRests_177  (lp (F := Nat → Int32 → Int32 → Int32 → Hp → Option (Int32 × Hp)) (fun _ _ _ _ _ => none) (f_X0_giveByRests_177) n) a0 x4 x5 x6 h = some o := hf
    unfold f_X0_giveByRests_177 at hf
    refine j_iload (pc := 177) 3 dX0_giveByRests_177 rfl ?_
    refine j_iload (pc := 179) 1 dX0_giveByRests_179 rfl ?_
    refine j_icmp_ge (pc := 181) (tgt := 209) dX0_giveByRests_181 (by decide) hf (fun _ hf => ?_) (fun _ hf => ?_)
    · refine j_iconst (pc := 209) dX0_giveByRests_209 (v := 1) (by decide) ?_
      exact j_zret (pc := 210) dX0_giveByRests_210 rfl hf
    · refine j_aload_n (pc := 184) 0 dX0_giveByRests_184 rfl rfl ?_
      refine j_getR (pc := 185) (n := 1) dX0_giveByRests_185 fl152 k0 (by decide) rfl ?_
      refine j_aload_n (pc := 188) 0 dX0_giveByRests_188 rfl rfl ?_
      refine j_getR (pc := 189) (n := 8) dX0_giveByRests_189 fl168 k0 (by decide) rfl ?_
      refine j_iload (pc := 192) 3 dX0_giveByRests_192 rfl ?_
      refine j_iload (pc := 194) 2 dX0_giveByRests_194 rfl ?_
      refine j_irem (pc := 196) dX0_giveByRests_196 hf (fun hf => ?_)
      refine j_iaload (pc := 197) dX0_giveByRests_197 (lk_0_10 k0) (ll_0_10 k0) hf (fun _ hf => ?_)
      refine j_dup2 (pc := 198) dX0_giveByRests_198 rfl rfl ?_
      refine j_iaload (pc := 199) dX0_giveByRests_199 (lk_0_0 k0) (ll_0_0 k0) hf (fun _ hf => ?_)
      refine j_iconst (pc := 200) dX0_giveByRests_200 (v := 1) (by decide) ?_
      refine j_iadd (pc := 201) dX0_giveByRests_201  ?_
      refine j_iastore (pc := 202) dX0_giveByRests_202 (lk_0_0 k0) (ll_0_0 k0) hf (fun m9 hf => ?_)
      refine j_iinc (pc := 203) 3 (c := 1) (lv' := fun v10 => [(6, .int v10), (0, .ref (ad a0)), (4, .int x4), (5, .int x5)]) dX0_giveByRests_203 rfl (by decide) (by decide) (fun _ => rfl) hf (fun v10 hf => ?_)
      refine j_goto (pc := 206) (tgt := 177) dX0_giveByRests_206 (by decide) ?_
      refine j_sub [1, 2, 3, 0] rfl ?_
      exact hk177 k0 hf
def f_X0_giveByRests_174  (a0 : Nat) (x4 : Int32) (x5 : Int32) (h : Hp) : Option (Int32 × Hp) := lp (F := Nat → Int32 → Int32 → Int32 → Hp → Option (Int32 × Hp)) (fun _ _ _ _ _ => none) (f_X0_giveByRests_177) 1000 a0 x4 x5 0 h
set_option maxHeartbeats 4000000 in
set_option maxRecDepth 100000 in
theorem t_X0_giveByRests_174 {l : Launch} {D : va_G} {ad : Nat → Nat} {cA : Nat → ClassId} {d : Nat} (hdp : 0 ≤ d) {o : Int32 × Hp}  {a0 : Nat} {x4 : Int32} {x5 : Int32} (k0 : kd a0 = 0) {h : Hp} (hf : f_X0_giveByRests_174  a0 x4 x5 h = some o) : J l D ad cA (fun _ => True) (rmd (d + 1)) (0, 0) (mQ D ad cA (some (.int o.1)) o.2) cX0_giveByRests RX0 8 (some .boolean) 174 [(0, .ref (ad a0)), (4, .int x4), (5, .int x5)] [] h := by
  unfold f_X0_giveByRests_174 at hf
  refine j_iconst (pc := 174) dX0_giveByRests_174 (v := 0) (by decide) ?_
  refine j_istore (pc := 175) (lv' := [(6, .int 0), (0, .ref (ad a0)), (4, .int x4), (5, .int x5)]) dX0_giveByRests_175 (by decide) rfl ?_
  refine j_sub [1, 2, 3, 0] rfl ?_
  exact t_X0_giveByRests_177 hdp  1000 k0 hf
def f_X0_giveByRests_151 (k45 : Nat → Int32 → Int64 → Int32 → Int32 → Int32 → Hp → Option (Int32 × Hp)) (a0 : Nat) (x1 : Int32) (x2 : Int64) (x4 : Int32) (x5 : Int32) (x6 : Int32) (h : Hp) : Option (Int32 × Hp) := lt (x6 + 1) (fun v11 => k45 a0 x1 x2 x4 x5 v11 h)
set_option maxHeartbeats 4000000 in
set_option maxRecDepth 100000 in
theorem t_X0_giveByRests_151 {l : Launch} {D : va_G} {ad : Nat → Nat} {cA : Nat → ClassId} {d : Nat} (hdp : 0 ≤ d) {o : Int32 × Hp} {k45 : Nat → Int32 → Int64 → Int32 → Int32 → Int32 → Hp → Option (Int32 × Hp)} (hk45 : ∀ {a0 : Nat} {x1 : Int32} {x2 : Int64} {x4 : Int32} {x5 : Int32} {x6 : Int32} (k0 : kd a0 = 0) {h : Hp}, k45 a0 x1 x2 x4 x5 x6 h = some o → J l D ad cA (fun _ => True) (rmd (d + 1)) (0, 0) (mQ D ad cA (some (.int o.1)) o.2) cX0_giveByRests RX0 8 (some .boolean) 45 [(0, .ref (ad a0)), (1, .int x1), (2, .long x2), (4, .int x4), (5, .int x5), (6, .int x6)] [] h) {a0 : Nat} {x1 : Int32} {x2 : Int64} {x4 : Int32} {x5 : Int32} {x6 : Int32} (k0 : kd a0 = 0) {h : Hp} (hf : f_X0_giveByRests_151 k45 a0 x1 x2 x4 x5 x6 h = some o) : J l D ad cA (fun _ => True) (rmd (d + 1)) (0, 0) (mQ D ad cA (some (.int o.1)) o.2) cX0_giveByRests RX0 8 (some .boolean) 151 [(0, .ref (ad a0)), (1, .int x1), (2, .long x2), (4, .int x4), (5, .int x5), (6, .int x6)] [] h := by
  unfold f_X0_giveByRests_151 at hf
  refine j_iinc (pc := 151) 5 (c := 1) (lv' := fun v11 => [(6, .int v11), (0, .ref (ad a0)), (1, .int x1), (2, .long x2), (4, .int x4), (5, .int x5)]) dX0_giveByRests_151 rfl (by decide) (by decide) (fun _ => rfl) hf (fun v11 hf => ?_)
  refine j_goto (pc := 154) (tgt := 45) dX0_giveByRests_154 (by decide) ?_
  refine j_sub [1, 2, 3, 4, 5, 0] rfl ?_
  exact hk45 k0 hf
def f_X0_giveByRests_45 (k45 : Nat → Int32 → Int64 → Int32 → Int32 → Int32 → Hp → Option (Int32 × Hp)) (a0 : Nat) (x1 : Int32) (x2 : Int64) (x4 : Int32) (x5 : Int32) (x6 : Int32) (h : Hp) : Option (Int32 × Hp) := if 6 ≤ x6 then (if x4 < 0 then (if isB 0 = true then some (0, h) else none) else (if x4 ≤ 0 then (f_X0_giveByRests_174  a0 x4 x5 h) else (if x5 = 0 then (if isB 0 = true then some (0, h) else none) else (f_X0_giveByRests_174  a0 x4 x5 h)))) else (if ix x6 6 = true then (if x2 = 0 then none else (lt (Int64.toInt32 (((h.2 (a0 + 3) (Int32.toNatClampNeg x6)) * (Int32.toInt64 x1)) / x2)) (fun v3 => if ix x6 6 = true then (if x2 = 0 then none else (if ix x6 6 = true then (lt (sL h (a0 + 7) (Int32.toNatClampNeg x6) (((h.2 (a0 + 3) (Int32.toNatClampNeg x6)) * (Int32.toInt64 x1)) - ((h.2 (a0 + 3) (Int32.toNatClampNeg x6)) * (Int32.toInt64 x1)) / x2 * x2)) (fun m4 => if ix x6 6 = true then (if ix x6 6 = true then (lt (sI m4 (a0 + 1) (Int32.toNatClampNeg x6) (if (m4.1 (a0 + 4) (Int32.toNatClampNeg x6)) < v3 then v3 else (m4.1 (a0 + 4) (Int32.toNatClampNeg x6)))) (fun m5 => if ix x6 6 = true then (lt (x4 - (m5.1 (a0 + 1) (Int32.toNatClampNeg x6))) (fun v6 => (f_X8_holds (m5.1 a0 4) x6 m5).bind (fun q7 => if q7.1 = 0 then (f_X0_giveByRests_151 k45 a0 x1 x2 v6 x5 x6 q7.2) else (if ix x6 6 = true then (if v3 < (q7.2.1 (a0 + 4) (Int32.toNatClampNeg x6)) then (f_X0_giveByRests_151 k45 a0 x1 x2 v6 x5 x6 q7.2) else ((f_X0_rank a0 x6 x5 q7.2).bind (fun q8 => f_X0_giveByRests_151 k45 a0 x1 x2 v6 q8.1 x6 q8.2))) else none)))) else none)) else none) else none)) else none)) else none))) else none)
set_option maxHeartbeats 4000000 in
set_option maxRecDepth 100000 in
theorem t_X0_giveByRests_45 {l : Launch} {D : va_G} {ad : Nat → Nat} {cA : Nat → ClassId} {d : Nat} (hdp : 0 ≤ d) {o : Int32 × Hp}  : ∀ (n : Nat) {a0 : Nat} {x1 : Int32} {x2 : Int64} {x4 : Int32} {x5 : Int32} {x6 : Int32} (k0 : kd a0 = 0) {h : Hp}, lp (F := Nat → Int32 → Int64 → Int32 → Int32 → Int32 → Hp → Option (Int32 × Hp)) (fun _ _ _ _ _ _ _ => none) (f_X0_giveByRests_45) n a0 x1 x2 x4 x5 x6 h = some o → J l D ad cA (fun _ => True) (rmd (d + 1)) (0, 0) (mQ D ad cA (some (.int o.1)) o.2) cX0_giveByRests RX0 8 (some .boolean) 45 [(0, .ref (ad a0)), (1, .int x1), (2, .long x2), (4, .int x4), (5, .int x5), (6, .int x6)] [] h := by
  intro n
  induction n with
  | zero =>
    intro a0 x1 x2 x4 x5 x6 k0 h hf
    have hf : (none : Option (Int32 × Hp)) = some o := hf
    cases hf
  | succ n hk45 =>
    intro a0 x1 x2 x4 x5 x6 k0 h hf
    have hf : f_X0_giveByRests_45  (lp (F := Nat → Int32 → Int64 → Int32 → Int32 → Int32 → Hp → Option (Int32 × Hp)) (fun _ _ _ _ _ _ _ => none) (f_X0_giveByRests_45) n) a0 x1 x2 x4 x5 x6 h = some o := hf
    unfold f_X0_giveByRests_45 at hf
    refine j_iload (pc := 45) 5 dX0_giveByRests_45 rfl ?_
    refine j_bipush (pc := 47) dX0_giveByRests_47 (v := 6) (by decide) ?_
    refine j_icmp_ge (pc := 49) (tgt := 157) dX0_giveByRests_49 (by decide) hf (fun _ hf => ?_) (fun _ hf => ?_)
    · refine j_iload (pc := 157) 3 dX0_giveByRests_157 rfl ?_
      refine j_if_lt (pc := 159) (tgt := 172) dX0_giveByRests_159 (by decide) hf (fun _ hf => ?_) (fun _ hf => ?_)
      · refine j_iconst (pc := 172) dX0_giveByRests_172 (v := 0) (by decide) ?_
        exact j_zret (pc := 173) dX0_giveByRests_173 rfl hf
      · refine j_iload (pc := 162) 3 dX0_giveByRests_162 rfl ?_
        refine j_if_le (pc := 164) (tgt := 174) dX0_giveByRests_164 (by decide) hf (fun _ hf => ?_) (fun _ hf => ?_)
        · refine j_sub [0, 3, 4] rfl ?_
          exact t_X0_giveByRests_174 hdp  k0 hf
        · refine j_iload (pc := 167) 4 dX0_giveByRests_167 rfl ?_
          refine j_if_ne (pc := 169) (tgt := 174) dX0_giveByRests_169 (by decide) hf (fun _ hf => ?_) (fun _ hf => ?_)
          · refine j_sub [0, 3, 4] rfl ?_
            exact t_X0_giveByRests_174 hdp  k0 hf
          · refine j_iconst (pc := 172) dX0_giveByRests_172 (v := 0) (by decide) ?_
            exact j_zret (pc := 173) dX0_giveByRests_173 rfl hf
    · refine j_aload_n (pc := 52) 0 dX0_giveByRests_52 rfl rfl ?_
      refine j_getR (pc := 53) (n := 3) dX0_giveByRests_53 fl163 k0 (by decide) rfl ?_
      refine j_iload (pc := 56) 5 dX0_giveByRests_56 rfl ?_
      refine j_laload (pc := 58) dX0_giveByRests_58 (lk_0_5 k0) (ll_0_5 k0) hf (fun _ hf => ?_)
      refine j_iload_n (pc := 59) 1 dX0_giveByRests_59 rfl rfl ?_
      refine j_i2l (pc := 60) dX0_giveByRests_60  ?_
      refine j_lmul (pc := 61) dX0_giveByRests_61  ?_
      refine j_lload_n (pc := 62) 2 dX0_giveByRests_62 rfl rfl ?_
      refine j_ldiv (pc := 63) dX0_giveByRests_63 hf (fun hf => ?_)
      refine j_l2i (pc := 64) dX0_giveByRests_64  ?_
      refine j_istoreN (pc := 65) (lv' := fun v3 => [(7, .int v3), (0, .ref (ad a0)), (1, .int x1), (2, .long x2), (4, .int x4), (5, .int x5), (6, .int x6)]) dX0_giveByRests_65 (by decide) (fun _ => rfl) hf (fun v3 hf => ?_)
      refine j_aload_n (pc := 67) 1 dX0_giveByRests_67 rfl rfl ?_
      refine j_getR (pc := 68) (n := 7) dX0_giveByRests_68 fl167 k0 (by decide) rfl ?_
      refine j_iload (pc := 71) 6 dX0_giveByRests_71 rfl ?_
      refine j_aload_n (pc := 73) 1 dX0_giveByRests_73 rfl rfl ?_
      refine j_getR (pc := 74) (n := 3) dX0_giveByRests_74 fl163 k0 (by decide) rfl ?_
      refine j_iload (pc := 77) 6 dX0_giveByRests_77 rfl ?_
      refine j_laload (pc := 79) dX0_giveByRests_79 (lk_0_5 k0) (ll_0_5 k0) hf (fun _ hf => ?_)
      refine j_iload_n (pc := 80) 2 dX0_giveByRests_80 rfl rfl ?_
      refine j_i2l (pc := 81) dX0_giveByRests_81  ?_
      refine j_lmul (pc := 82) dX0_giveByRests_82  ?_
      refine j_lload_n (pc := 83) 3 dX0_giveByRests_83 rfl rfl ?_
      refine j_lrem (pc := 84) dX0_giveByRests_84 hf (fun hf => ?_)
      refine j_lastore (pc := 85) dX0_giveByRests_85 (lk_0_9 k0) (ll_0_9 k0) hf (fun m4 hf => ?_)
      refine j_aload_n (pc := 86) 1 dX0_giveByRests_86 rfl rfl ?_
      refine j_getR (pc := 87) (n := 1) dX0_giveByRests_87 fl152 k0 (by decide) rfl ?_
      refine j_iload (pc := 90) 6 dX0_giveByRests_90 rfl ?_
      refine j_aload_n (pc := 92) 1 dX0_giveByRests_92 rfl rfl ?_
      refine j_getR (pc := 93) (n := 4) dX0_giveByRests_93 fl164 k0 (by decide) rfl ?_
      refine j_iload (pc := 96) 6 dX0_giveByRests_96 rfl ?_
      refine j_iaload (pc := 98) dX0_giveByRests_98 (lk_0_6 k0) (ll_0_6 k0) hf (fun _ hf => ?_)
      refine j_iload (pc := 99) 0 dX0_giveByRests_99 rfl ?_
      refine j_mmax (pc := 101) dX0_giveByRests_101 w_516 w_mmax_s w_math w_mmax_c (Nat.le_of_ble_eq_true rfl) ?_
      refine j_iastore (pc := 104) dX0_giveByRests_104 (lk_0_0 k0) (ll_0_0 k0) hf (fun m5 hf => ?_)
      refine j_iload (pc := 105) 4 dX0_giveByRests_105 rfl ?_
      refine j_aload_n (pc := 107) 1 dX0_giveByRests_107 rfl rfl ?_
      refine j_getR (pc := 108) (n := 1) dX0_giveByRests_108 fl152 k0 (by decide) rfl ?_
      refine j_iload (pc := 111) 6 dX0_giveByRests_111 rfl ?_
      refine j_iaload (pc := 113) dX0_giveByRests_113 (lk_0_0 k0) (ll_0_0 k0) hf (fun _ hf => ?_)
      refine j_isub (pc := 114) dX0_giveByRests_114  ?_
      refine j_istoreN (pc := 115) (lv' := fun v6 => [(4, .int v6), (7, .int v3), (0, .ref (ad a0)), (1, .int x1), (2, .long x2), (5, .int x5), (6, .int x6)]) dX0_giveByRests_115 (by decide) (fun _ => rfl) hf (fun v6 hf => ?_)
      refine j_aload_n (pc := 117) 2 dX0_giveByRests_117 rfl rfl ?_
      refine j_getI (pc := 118) dX0_giveByRests_118 fl162 k0 (by decide) rfl ?_
      refine j_iload (pc := 121) 6 dX0_giveByRests_121 rfl ?_
      refine j_callNi (pc := 123) (d := d) (As := [.int (m5.1 a0 4), .int x6]) (st := []) dX0_giveByRests_123 s519 rfl rfl (by decide) (Nat.le_of_ble_eq_true rfl) (fun q hq => t_X8_holds  hq) hf (fun q7 hf => ?_)
      refine j_if_eq (pc := 126) (tgt := 151) dX0_giveByRests_126 (by decide) hf (fun _ hf => ?_) (fun _ hf => ?_)
      · refine j_sub [2, 3, 4, 0, 5, 6] rfl ?_
        exact t_X0_giveByRests_151 hdp hk45 k0 hf
      · refine j_aload_n (pc := 129) 2 dX0_giveByRests_129 rfl rfl ?_
        refine j_getR (pc := 130) (n := 4) dX0_giveByRests_130 fl164 k0 (by decide) rfl ?_
        refine j_iload (pc := 133) 6 dX0_giveByRests_133 rfl ?_
        refine j_iaload (pc := 135) dX0_giveByRests_135 (lk_0_6 k0) (ll_0_6 k0) hf (fun _ hf => ?_)
        refine j_iload (pc := 136) 1 dX0_giveByRests_136 rfl ?_
        refine j_icmp_gt (pc := 138) (tgt := 151) dX0_giveByRests_138 (by decide) hf (fun _ hf => ?_) (fun _ hf => ?_)
        · refine j_sub [2, 3, 4, 0, 5, 6] rfl ?_
          exact t_X0_giveByRests_151 hdp hk45 k0 hf
        · refine j_aload_n (pc := 141) 2 dX0_giveByRests_141 rfl rfl ?_
          refine j_iload (pc := 142) 6 dX0_giveByRests_142 rfl ?_
          refine j_iload (pc := 144) 5 dX0_giveByRests_144 rfl ?_
          refine j_callVi (pc := 146) (d := d) (As := [.int x6, .int x5]) (st := []) dX0_giveByRests_146 s520 k0 (by decide) rfl rfl (by decide) (Nat.le_of_ble_eq_true rfl) (fun q hq => t_X0_rank k0 hq) hf (fun q8 hf => ?_)
          refine j_istore (pc := 149) (lv' := [(5, .int q8.1), (4, .int v6), (7, .int v3), (0, .ref (ad a0)), (1, .int x1), (2, .long x2), (6, .int x6)]) dX0_giveByRests_149 (by decide) rfl ?_
          refine j_sub [3, 4, 5, 1, 0, 6] rfl ?_
          exact t_X0_giveByRests_151 hdp hk45 k0 hf
def f_X0_giveByRests_5 (k5 : Nat → Int32 → Int64 → Int32 → Hp → Option (Int32 × Hp)) (a0 : Nat) (x1 : Int32) (x2 : Int64) (x4 : Int32) (h : Hp) : Option (Int32 × Hp) := if 6 ≤ x4 then (if 0 < (lg_cmp x2 0) then (lp (F := Nat → Int32 → Int64 → Int32 → Int32 → Int32 → Hp → Option (Int32 × Hp)) (fun _ _ _ _ _ _ _ => none) (f_X0_giveByRests_45) 1000 a0 x1 x2 x1 0 0 h) else (if isB 0 = true then some (0, h) else none)) else (if ix x4 6 = true then (lt (x2 + (h.2 (a0 + 3) (Int32.toNatClampNeg x4))) (fun v1 => lt (x4 + 1) (fun v2 => k5 a0 x1 v1 v2 h))) else none)
set_option maxHeartbeats 4000000 in
set_option maxRecDepth 100000 in
theorem t_X0_giveByRests_5 {l : Launch} {D : va_G} {ad : Nat → Nat} {cA : Nat → ClassId} {d : Nat} (hdp : 0 ≤ d) {o : Int32 × Hp}  : ∀ (n : Nat) {a0 : Nat} {x1 : Int32} {x2 : Int64} {x4 : Int32} (k0 : kd a0 = 0) {h : Hp}, lp (F := Nat → Int32 → Int64 → Int32 → Hp → Option (Int32 × Hp)) (fun _ _ _ _ _ => none) (f_X0_giveByRests_5) n a0 x1 x2 x4 h = some o → J l D ad cA (fun _ => True) (rmd (d + 1)) (0, 0) (mQ D ad cA (some (.int o.1)) o.2) cX0_giveByRests RX0 8 (some .boolean) 5 [(0, .ref (ad a0)), (1, .int x1), (2, .long x2), (4, .int x4)] [] h := by
  intro n
  induction n with
  | zero =>
    intro a0 x1 x2 x4 k0 h hf
    have hf : (none : Option (Int32 × Hp)) = some o := hf
    cases hf
  | succ n hk5 =>
    intro a0 x1 x2 x4 k0 h hf
    have hf : f_X0_giveByRests_5  (lp (F := Nat → Int32 → Int64 → Int32 → Hp → Option (Int32 × Hp)) (fun _ _ _ _ _ => none) (f_X0_giveByRests_5) n) a0 x1 x2 x4 h = some o := hf
    unfold f_X0_giveByRests_5 at hf
    refine j_iload (pc := 5) 3 dX0_giveByRests_5 rfl ?_
    refine j_bipush (pc := 7) dX0_giveByRests_7 (v := 6) (by decide) ?_
    refine j_icmp_ge (pc := 9) (tgt := 28) dX0_giveByRests_9 (by decide) hf (fun _ hf => ?_) (fun _ hf => ?_)
    · refine j_lload_n (pc := 28) 2 dX0_giveByRests_28 rfl rfl ?_
      refine j_lconst (pc := 29) dX0_giveByRests_29 (v := 0) rfl ?_
      refine j_lcmp (pc := 30) dX0_giveByRests_30  ?_
      refine j_if_gt (pc := 31) (tgt := 36) dX0_giveByRests_31 (by decide) hf (fun _ hf => ?_) (fun _ hf => ?_)
      · refine j_iload_n (pc := 36) 1 dX0_giveByRests_36 rfl rfl ?_
        refine j_istore (pc := 37) (lv' := [(4, .int x1), (0, .ref (ad a0)), (1, .int x1), (2, .long x2)]) dX0_giveByRests_37 (by decide) rfl ?_
        refine j_iconst (pc := 39) dX0_giveByRests_39 (v := 0) (by decide) ?_
        refine j_istore (pc := 40) (lv' := [(5, .int 0), (4, .int x1), (0, .ref (ad a0)), (1, .int x1), (2, .long x2)]) dX0_giveByRests_40 (by decide) rfl ?_
        refine j_iconst (pc := 42) dX0_giveByRests_42 (v := 0) (by decide) ?_
        refine j_istore (pc := 43) (lv' := [(6, .int 0), (5, .int 0), (4, .int x1), (0, .ref (ad a0)), (1, .int x1), (2, .long x2)]) dX0_giveByRests_43 (by decide) rfl ?_
        refine j_sub [3, 4, 5, 2, 1, 0] rfl ?_
        exact t_X0_giveByRests_45 hdp  1000 k0 hf
      · refine j_iconst (pc := 34) dX0_giveByRests_34 (v := 0) (by decide) ?_
        exact j_zret (pc := 35) dX0_giveByRests_35 rfl hf
    · refine j_lload_n (pc := 12) 2 dX0_giveByRests_12 rfl rfl ?_
      refine j_aload_n (pc := 13) 0 dX0_giveByRests_13 rfl rfl ?_
      refine j_getR (pc := 14) (n := 3) dX0_giveByRests_14 fl163 k0 (by decide) rfl ?_
      refine j_iload (pc := 17) 3 dX0_giveByRests_17 rfl ?_
      refine j_laload (pc := 19) dX0_giveByRests_19 (lk_0_5 k0) (ll_0_5 k0) hf (fun _ hf => ?_)
      refine j_ladd (pc := 20) dX0_giveByRests_20  ?_
      refine j_lstore_nN (pc := 21) (lv' := fun v1 => [(2, .long v1), (0, .ref (ad a0)), (1, .int x1), (4, .int x4)]) dX0_giveByRests_21 rfl (by decide) (fun _ => rfl) hf (fun v1 hf => ?_)
      refine j_iinc (pc := 22) 3 (c := 1) (lv' := fun v2 => [(4, .int v2), (2, .long v1), (0, .ref (ad a0)), (1, .int x1)]) dX0_giveByRests_22 rfl (by decide) (by decide) (fun _ => rfl) hf (fun v2 hf => ?_)
      refine j_goto (pc := 25) (tgt := 5) dX0_giveByRests_25 (by decide) ?_
      refine j_sub [2, 3, 1, 0] rfl ?_
      exact hk5 k0 hf
def f_X0_giveByRests (a0 : Nat) (x1 : Int32) (h : Hp) : Option (Int32 × Hp) := lp (F := Nat → Int32 → Int64 → Int32 → Hp → Option (Int32 × Hp)) (fun _ _ _ _ _ => none) (f_X0_giveByRests_5) 1000 a0 x1 0 0 h
set_option maxHeartbeats 4000000 in
set_option maxRecDepth 100000 in
theorem t_X0_giveByRests {l : Launch} {D : va_G} {ad : Nat → Nat} {cA : Nat → ClassId} {d : Nat} (hdp : 1 ≤ d) {a0 : Nat} {x1 : Int32} (k0 : kd a0 = 0) {h : Hp} {o : Int32 × Hp} (hf : f_X0_giveByRests a0 x1 h = some o) : Cr l D ad cA d yX0_giveByRests cX0_giveByRests 8 (some .boolean) [.ref (ad a0), .int x1] h (some (.int o.1)) o.2 := by
  obtain ⟨d, rfl⟩ : ∃ e, d = e + 1 := ⟨d - 1, by omega⟩
  have hdp : 0 ≤ d := by omega
  unfold f_X0_giveByRests at hf
  refine Cr_of (by decide +kernel) rfl (Nat.le_of_ble_eq_true rfl) (lv0 := [(0, .ref (ad a0)), (1, .int x1)]) rfl ?_
  refine j_lconst (pc := 0) dX0_giveByRests_0 (v := 0) rfl ?_
  refine j_lstore_n (pc := 1) (lv' := [(2, .long 0), (0, .ref (ad a0)), (1, .int x1)]) dX0_giveByRests_1 rfl (by decide) rfl ?_
  refine j_iconst (pc := 2) dX0_giveByRests_2 (v := 0) (by decide) ?_
  refine j_istore (pc := 3) (lv' := [(4, .int 0), (2, .long 0), (0, .ref (ad a0)), (1, .int x1)]) dX0_giveByRests_3 (by decide) rfl ?_
  refine j_sub [2, 3, 1, 0] rfl ?_
  exact t_X0_giveByRests_5 hdp  1000 k0 hf
def f_X0_priceNext (a0 : Nat) (a1 : Nat) (x2 : Int32) (x3 : Int32) (h : Hp) : Option (Unit × Hp) := if ix x3 6 = true then (lt ((h.1 (a0 + 1) (Int32.toNatClampNeg x3)) + 1) (fun v1 => if ix x3 6 = true then ((f_X3_priceAbove a1 x2 (h.2 (a0 + 3) (Int32.toNatClampNeg x3)) v1 h).bind (fun q2 => if ix x3 6 = true then (lt (sL q2.2 (a0 + 5) (Int32.toNatClampNeg x3) q2.1) (fun m3 => (f_X3_markAbove a1 x2 v1 m3).bind (fun q4 => if ix x3 6 = true then (lt (sL q4.2 (a0 + 6) (Int32.toNatClampNeg x3) q4.1) (fun m5 => some ((), m5))) else none))) else none)) else none)) else none
set_option maxHeartbeats 4000000 in
set_option maxRecDepth 100000 in
theorem t_X0_priceNext {l : Launch} {D : va_G} {ad : Nat → Nat} {cA : Nat → ClassId} {d : Nat} (hdp : 1 ≤ d) {a0 : Nat} {a1 : Nat} {x2 : Int32} {x3 : Int32} (k0 : kd a0 = 0) (k1 : kd a1 = 3) {h : Hp} {o : Unit × Hp} (hf : f_X0_priceNext a0 a1 x2 x3 h = some o) : Cr l D ad cA d yX0_priceNext cX0_priceNext 5 (none) [.ref (ad a0), .ref (ad a1), .int x2, .int x3] h (none) o.2 := by
  obtain ⟨d, rfl⟩ : ∃ e, d = e + 1 := ⟨d - 1, by omega⟩
  have hdp : 0 ≤ d := by omega
  unfold f_X0_priceNext at hf
  refine Cr_of (by decide +kernel) rfl (Nat.le_of_ble_eq_true rfl) (lv0 := [(0, .ref (ad a0)), (1, .ref (ad a1)), (2, .int x2), (3, .int x3)]) rfl ?_
  refine j_aload_n (pc := 0) 0 dX0_priceNext_0 rfl rfl ?_
  refine j_getR (pc := 1) (n := 1) dX0_priceNext_1 fl152 k0 (by decide) rfl ?_
  refine j_iload_n (pc := 4) 3 dX0_priceNext_4 rfl rfl ?_
  refine j_iaload (pc := 5) dX0_priceNext_5 (lk_0_0 k0) (ll_0_0 k0) hf (fun _ hf => ?_)
  refine j_iconst (pc := 6) dX0_priceNext_6 (v := 1) (by decide) ?_
  refine j_iadd (pc := 7) dX0_priceNext_7  ?_
  refine j_istoreN (pc := 8) (lv' := fun v1 => [(4, .int v1), (0, .ref (ad a0)), (1, .ref (ad a1)), (2, .int x2), (3, .int x3)]) dX0_priceNext_8 (by decide) (fun _ => rfl) hf (fun v1 hf => ?_)
  refine j_aload_n (pc := 10) 1 dX0_priceNext_10 rfl rfl ?_
  refine j_getR (pc := 11) (n := 5) dX0_priceNext_11 fl165 k0 (by decide) rfl ?_
  refine j_iload_n (pc := 14) 4 dX0_priceNext_14 rfl rfl ?_
  refine j_aload_n (pc := 15) 2 dX0_priceNext_15 rfl rfl ?_
  refine j_iload_n (pc := 16) 3 dX0_priceNext_16 rfl rfl ?_
  refine j_aload_n (pc := 17) 1 dX0_priceNext_17 rfl rfl ?_
  refine j_getR (pc := 18) (n := 3) dX0_priceNext_18 fl163 k0 (by decide) rfl ?_
  refine j_iload_n (pc := 21) 4 dX0_priceNext_21 rfl rfl ?_
  refine j_laload (pc := 22) dX0_priceNext_22 (lk_0_5 k0) (ll_0_5 k0) hf (fun _ hf => ?_)
  refine j_iload (pc := 23) 0 dX0_priceNext_23 rfl ?_
  refine j_callVl (pc := 25) (d := d) (As := [.int x2, .long (h.2 (a0 + 3) (Int32.toNatClampNeg x3)), .int v1]) (st := [.int x3, .ref (ad (a0 + 5))]) dX0_priceNext_25 s532 k1 (by decide) rfl rfl (by decide) (Nat.le_of_ble_eq_true rfl) (fun q hq => t_X3_priceAbove k1 hq) hf (fun q2 hf => ?_)
  refine j_lastore (pc := 28) dX0_priceNext_28 (lk_0_7 k0) (ll_0_7 k0) hf (fun m3 hf => ?_)
  refine j_aload_n (pc := 29) 1 dX0_priceNext_29 rfl rfl ?_
  refine j_getR (pc := 30) (n := 6) dX0_priceNext_30 fl166 k0 (by decide) rfl ?_
  refine j_iload_n (pc := 33) 4 dX0_priceNext_33 rfl rfl ?_
  refine j_aload_n (pc := 34) 2 dX0_priceNext_34 rfl rfl ?_
  refine j_iload_n (pc := 35) 3 dX0_priceNext_35 rfl rfl ?_
  refine j_iload (pc := 36) 0 dX0_priceNext_36 rfl ?_
  refine j_callVl (pc := 38) (d := d) (As := [.int x2, .int v1]) (st := [.int x3, .ref (ad (a0 + 6))]) dX0_priceNext_38 s537 k1 (by decide) rfl rfl (by decide) (Nat.le_of_ble_eq_true rfl) (fun q hq => t_X3_markAbove k1 hq) hf (fun q4 hf => ?_)
  refine j_lastore (pc := 41) dX0_priceNext_41 (lk_0_8 k0) (ll_0_8 k0) hf (fun m5 hf => ?_)
  exact j_vret (pc := 42) dX0_priceNext_42 rfl hf
def f_X1_awayFrom_4 (k4 : Nat → Nat → Int32 → Int32 → Hp → Option (Int32 × Hp)) (a0 : Nat) (a1 : Nat) (x2 : Int32) (x3 : Int32) (h : Hp) : Option (Int32 × Hp) := if 6 ≤ x3 then (some (x2, h)) else (if ix x3 6 = true then (if ix x3 6 = true then (lt (x2 + (if 0 ≤ ((h.1 (a0 + 10) (Int32.toNatClampNeg x3)) - (h.1 (a1 + 10) (Int32.toNatClampNeg x3))) then ((h.1 (a0 + 10) (Int32.toNatClampNeg x3)) - (h.1 (a1 + 10) (Int32.toNatClampNeg x3))) else 0 - ((h.1 (a0 + 10) (Int32.toNatClampNeg x3)) - (h.1 (a1 + 10) (Int32.toNatClampNeg x3))))) (fun v1 => lt (x3 + 1) (fun v2 => k4 a0 a1 v1 v2 h))) else none) else none)
set_option maxHeartbeats 4000000 in
set_option maxRecDepth 100000 in
theorem t_X1_awayFrom_4 {l : Launch} {D : va_G} {ad : Nat → Nat} {cA : Nat → ClassId} {d : Nat} (hdp : 0 ≤ d) {o : Int32 × Hp}  : ∀ (n : Nat) {a0 : Nat} {a1 : Nat} {x2 : Int32} {x3 : Int32} (k0 : kd a0 = 1) (k1 : kd a1 = 1) {h : Hp}, lp (F := Nat → Nat → Int32 → Int32 → Hp → Option (Int32 × Hp)) (fun _ _ _ _ _ => none) (f_X1_awayFrom_4) n a0 a1 x2 x3 h = some o → J l D ad cA (fun _ => True) (rmd (d + 1)) (0, 0) (mQ D ad cA (some (.int o.1)) o.2) cX1_awayFrom RX1 4 (some .int) 4 [(0, .ref (ad a0)), (1, .ref (ad a1)), (2, .int x2), (3, .int x3)] [] h := by
  intro n
  induction n with
  | zero =>
    intro a0 a1 x2 x3 k0 k1 h hf
    have hf : (none : Option (Int32 × Hp)) = some o := hf
    cases hf
  | succ n hk4 =>
    intro a0 a1 x2 x3 k0 k1 h hf
    have hf : f_X1_awayFrom_4  (lp (F := Nat → Nat → Int32 → Int32 → Hp → Option (Int32 × Hp)) (fun _ _ _ _ _ => none) (f_X1_awayFrom_4) n) a0 a1 x2 x3 h = some o := hf
    unfold f_X1_awayFrom_4 at hf
    refine j_iload_n (pc := 4) 3 dX1_awayFrom_4 rfl rfl ?_
    refine j_bipush (pc := 5) dX1_awayFrom_5 (v := 6) (by decide) ?_
    refine j_icmp_ge (pc := 7) (tgt := 35) dX1_awayFrom_7 (by decide) hf (fun _ hf => ?_) (fun _ hf => ?_)
    · refine j_iload_n (pc := 35) 2 dX1_awayFrom_35 rfl rfl ?_
      exact j_iret (pc := 36) dX1_awayFrom_36 rfl hf
    · refine j_iload_n (pc := 10) 2 dX1_awayFrom_10 rfl rfl ?_
      refine j_aload_n (pc := 11) 0 dX1_awayFrom_11 rfl rfl ?_
      refine j_getR (pc := 12) (n := 10) dX1_awayFrom_12 fl195 k0 (by decide) rfl ?_
      refine j_iload_n (pc := 15) 3 dX1_awayFrom_15 rfl rfl ?_
      refine j_iaload (pc := 16) dX1_awayFrom_16 (lk_1_1 k0) (ll_1_1 k0) hf (fun _ hf => ?_)
      refine j_aload_n (pc := 17) 1 dX1_awayFrom_17 rfl rfl ?_
      refine j_getR (pc := 18) (n := 10) dX1_awayFrom_18 fl195 k1 (by decide) rfl ?_
      refine j_iload_n (pc := 21) 3 dX1_awayFrom_21 rfl rfl ?_
      refine j_iaload (pc := 22) dX1_awayFrom_22 (lk_1_1 k1) (ll_1_1 k1) hf (fun _ hf => ?_)
      refine j_isub (pc := 23) dX1_awayFrom_23  ?_
      refine j_mabs (pc := 24) dX1_awayFrom_24 w_579 w_mabs_s w_math w_mabs_c (Nat.le_of_ble_eq_true rfl) ?_
      refine j_iadd (pc := 27) dX1_awayFrom_27  ?_
      refine j_istore_nN (pc := 28) (lv' := fun v1 => [(2, .int v1), (0, .ref (ad a0)), (1, .ref (ad a1)), (3, .int x3)]) dX1_awayFrom_28 rfl (by decide) (fun _ => rfl) hf (fun v1 hf => ?_)
      refine j_iinc (pc := 29) 3 (c := 1) (lv' := fun v2 => [(3, .int v2), (2, .int v1), (0, .ref (ad a0)), (1, .ref (ad a1))]) dX1_awayFrom_29 rfl (by decide) (by decide) (fun _ => rfl) hf (fun v2 hf => ?_)
      refine j_goto (pc := 32) (tgt := 4) dX1_awayFrom_32 (by decide) ?_
      refine j_sub [2, 3, 1, 0] rfl ?_
      exact hk4 k0 k1 hf
def f_X1_awayFrom (a0 : Nat) (a1 : Nat) (h : Hp) : Option (Int32 × Hp) := lp (F := Nat → Nat → Int32 → Int32 → Hp → Option (Int32 × Hp)) (fun _ _ _ _ _ => none) (f_X1_awayFrom_4) 1000 a0 a1 0 0 h
set_option maxHeartbeats 4000000 in
set_option maxRecDepth 100000 in
theorem t_X1_awayFrom {l : Launch} {D : va_G} {ad : Nat → Nat} {cA : Nat → ClassId} {d : Nat} (hdp : 1 ≤ d) {a0 : Nat} {a1 : Nat} (k0 : kd a0 = 1) (k1 : kd a1 = 1) {h : Hp} {o : Int32 × Hp} (hf : f_X1_awayFrom a0 a1 h = some o) : Cr l D ad cA d yX1_awayFrom cX1_awayFrom 4 (some .int) [.ref (ad a0), .ref (ad a1)] h (some (.int o.1)) o.2 := by
  obtain ⟨d, rfl⟩ : ∃ e, d = e + 1 := ⟨d - 1, by omega⟩
  have hdp : 0 ≤ d := by omega
  unfold f_X1_awayFrom at hf
  refine Cr_of (by decide +kernel) rfl (Nat.le_of_ble_eq_true rfl) (lv0 := [(0, .ref (ad a0)), (1, .ref (ad a1))]) rfl ?_
  refine j_iconst (pc := 0) dX1_awayFrom_0 (v := 0) (by decide) ?_
  refine j_istore_n (pc := 1) (lv' := [(2, .int 0), (0, .ref (ad a0)), (1, .ref (ad a1))]) dX1_awayFrom_1 rfl (by decide) rfl ?_
  refine j_iconst (pc := 2) dX1_awayFrom_2 (v := 0) (by decide) ?_
  refine j_istore_n (pc := 3) (lv' := [(3, .int 0), (2, .int 0), (0, .ref (ad a0)), (1, .ref (ad a1))]) dX1_awayFrom_3 rfl (by decide) rfl ?_
  refine j_sub [2, 3, 1, 0] rfl ?_
  exact t_X1_awayFrom_4 hdp  1000 k0 k1 hf
def f_X2_begin_39 (k2 : Nat → Nat → Int32 → Hp → Option (Unit × Hp)) (k17 : Nat → Nat → Int32 → Int32 → Int32 → Hp → Option (Unit × Hp)) (k39 : Nat → Nat → Int32 → Int32 → Int32 → Int32 → Int32 → Hp → Option (Unit × Hp)) (a0 : Nat) (a1 : Nat) (x2 : Int32) (x3 : Int32) (x4 : Int32) (x5 : Int32) (x6 : Int32) (h : Hp) : Option (Unit × Hp) := if x2 ≤ x6 then ((f_X8_cellOf x2 x4 h).bind (fun q4 => if ix q4.1 24 = true then (lt (sI q4.2 (a0 + 1) (Int32.toNatClampNeg q4.1) (if x5 < x3 then x5 else x3)) (fun m5 => (f_X8_cellOf x2 x4 m5).bind (fun q6 => if ix q6.1 24 = true then (lt (x3 - (q6.2.1 (a0 + 1) (Int32.toNatClampNeg q6.1))) (fun v7 => lt (x4 + 1) (fun v8 => k17 a0 a1 x2 v7 v8 q6.2))) else none))) else none)) else ((f_X8_cellOf x6 x4 h).bind (fun q9 => if ix q9.1 24 = true then (lt (x5 - (q9.2.1 (a0 + 1) (Int32.toNatClampNeg q9.1))) (fun v10 => lt (x6 + 1) (fun v11 => k39 a0 a1 x2 x3 x4 v10 v11 q9.2))) else none))
set_option maxHeartbeats 4000000 in
set_option maxRecDepth 100000 in
theorem t_X2_begin_39 {l : Launch} {D : va_G} {ad : Nat → Nat} {cA : Nat → ClassId} {d : Nat} (hdp : 0 ≤ d) {o : Unit × Hp} {k2 : Nat → Nat → Int32 → Hp → Option (Unit × Hp)} (hk2 : ∀ {a0 : Nat} {a1 : Nat} {x2 : Int32} (k0 : kd a0 = 2) (k1 : kd a1 = 3) {h : Hp}, k2 a0 a1 x2 h = some o → J l D ad cA (fun _ => True) (rmd (d + 1)) (0, 0) (mQ D ad cA (none) o.2) cX2_begin RX2 7 (none) 2 [(0, .ref (ad a0)), (1, .ref (ad a1)), (2, .int x2)] [] h) {k17 : Nat → Nat → Int32 → Int32 → Int32 → Hp → Option (Unit × Hp)} (hk17 : ∀ {a0 : Nat} {a1 : Nat} {x2 : Int32} {x3 : Int32} {x4 : Int32} (k0 : kd a0 = 2) (k1 : kd a1 = 3) {h : Hp}, k17 a0 a1 x2 x3 x4 h = some o → J l D ad cA (fun _ => True) (rmd (d + 1)) (0, 0) (mQ D ad cA (none) o.2) cX2_begin RX2 7 (none) 17 [(0, .ref (ad a0)), (1, .ref (ad a1)), (2, .int x2), (3, .int x3), (4, .int x4)] [] h) : ∀ (n : Nat) {a0 : Nat} {a1 : Nat} {x2 : Int32} {x3 : Int32} {x4 : Int32} {x5 : Int32} {x6 : Int32} (k0 : kd a0 = 2) (k1 : kd a1 = 3) {h : Hp}, lp (F := Nat → Nat → Int32 → Int32 → Int32 → Int32 → Int32 → Hp → Option (Unit × Hp)) (fun _ _ _ _ _ _ _ _ => none) (f_X2_begin_39 k2 k17) n a0 a1 x2 x3 x4 x5 x6 h = some o → J l D ad cA (fun _ => True) (rmd (d + 1)) (0, 0) (mQ D ad cA (none) o.2) cX2_begin RX2 7 (none) 39 [(0, .ref (ad a0)), (1, .ref (ad a1)), (2, .int x2), (3, .int x3), (4, .int x4), (5, .int x5), (6, .int x6)] [] h := by
  intro n
  induction n with
  | zero =>
    intro a0 a1 x2 x3 x4 x5 x6 k0 k1 h hf
    have hf : (none : Option (Unit × Hp)) = some o := hf
    cases hf
  | succ n hk39 =>
    intro a0 a1 x2 x3 x4 x5 x6 k0 k1 h hf
    have hf : f_X2_begin_39 k2 k17 (lp (F := Nat → Nat → Int32 → Int32 → Int32 → Int32 → Int32 → Hp → Option (Unit × Hp)) (fun _ _ _ _ _ _ _ _ => none) (f_X2_begin_39 k2 k17) n) a0 a1 x2 x3 x4 x5 x6 h = some o := hf
    unfold f_X2_begin_39 at hf
    refine j_iload (pc := 39) 6 dX2_begin_39 rfl ?_
    refine j_iload_n (pc := 41) 2 dX2_begin_41 rfl rfl ?_
    refine j_icmp_ge (pc := 42) (tgt := 68) dX2_begin_42 (by decide) hf (fun _ hf => ?_) (fun _ hf => ?_)
    · refine j_aload_n (pc := 68) 0 dX2_begin_68 rfl rfl ?_
      refine j_getR (pc := 69) (n := 1) dX2_begin_69 fl263 k0 (by decide) rfl ?_
      refine j_iload_n (pc := 72) 2 dX2_begin_72 rfl rfl ?_
      refine j_iload (pc := 73) 4 dX2_begin_73 rfl ?_
      refine j_callNi (pc := 75) (d := d) (As := [.int x2, .int x4]) (st := [.ref (ad (a0 + 1))]) dX2_begin_75 s685 rfl rfl (by decide) (Nat.le_of_ble_eq_true rfl) (fun q hq => t_X8_cellOf  hq) hf (fun q4 hf => ?_)
      refine j_iload_n (pc := 78) 3 dX2_begin_78 rfl rfl ?_
      refine j_iload (pc := 79) 5 dX2_begin_79 rfl ?_
      refine j_mmin (pc := 81) dX2_begin_81 w_686 w_mmin_s w_math w_mmin_c (Nat.le_of_ble_eq_true rfl) ?_
      refine j_iastore (pc := 84) dX2_begin_84 (lk_2_0 k0) (ll_2_0 k0) hf (fun m5 hf => ?_)
      refine j_iload_n (pc := 85) 3 dX2_begin_85 rfl rfl ?_
      refine j_aload_n (pc := 86) 0 dX2_begin_86 rfl rfl ?_
      refine j_getR (pc := 87) (n := 1) dX2_begin_87 fl263 k0 (by decide) rfl ?_
      refine j_iload_n (pc := 90) 2 dX2_begin_90 rfl rfl ?_
      refine j_iload (pc := 91) 4 dX2_begin_91 rfl ?_
      refine j_callNi (pc := 93) (d := d) (As := [.int x2, .int x4]) (st := [.ref (ad (a0 + 1)), .int x3]) dX2_begin_93 s685 rfl rfl (by decide) (Nat.le_of_ble_eq_true rfl) (fun q hq => t_X8_cellOf  hq) hf (fun q6 hf => ?_)
      refine j_iaload (pc := 96) dX2_begin_96 (lk_2_0 k0) (ll_2_0 k0) hf (fun _ hf => ?_)
      refine j_isub (pc := 97) dX2_begin_97  ?_
      refine j_istore_nN (pc := 98) (lv' := fun v7 => [(3, .int v7), (0, .ref (ad a0)), (1, .ref (ad a1)), (2, .int x2), (4, .int x4), (5, .int x5), (6, .int x6)]) dX2_begin_98 rfl (by decide) (fun _ => rfl) hf (fun v7 hf => ?_)
      refine j_iinc (pc := 99) 4 (c := 1) (lv' := fun v8 => [(4, .int v8), (3, .int v7), (0, .ref (ad a0)), (1, .ref (ad a1)), (2, .int x2), (5, .int x5), (6, .int x6)]) dX2_begin_99 rfl (by decide) (by decide) (fun _ => rfl) hf (fun v8 hf => ?_)
      refine j_goto (pc := 102) (tgt := 17) dX2_begin_102 (by decide) ?_
      refine j_sub [2, 3, 4, 1, 0] rfl ?_
      exact hk17 k0 k1 hf
    · refine j_iload (pc := 45) 5 dX2_begin_45 rfl ?_
      refine j_aload_n (pc := 47) 0 dX2_begin_47 rfl rfl ?_
      refine j_getR (pc := 48) (n := 1) dX2_begin_48 fl263 k0 (by decide) rfl ?_
      refine j_iload (pc := 51) 6 dX2_begin_51 rfl ?_
      refine j_iload (pc := 53) 4 dX2_begin_53 rfl ?_
      refine j_callNi (pc := 55) (d := d) (As := [.int x6, .int x4]) (st := [.ref (ad (a0 + 1)), .int x5]) dX2_begin_55 s685 rfl rfl (by decide) (Nat.le_of_ble_eq_true rfl) (fun q hq => t_X8_cellOf  hq) hf (fun q9 hf => ?_)
      refine j_iaload (pc := 58) dX2_begin_58 (lk_2_0 k0) (ll_2_0 k0) hf (fun _ hf => ?_)
      refine j_isub (pc := 59) dX2_begin_59  ?_
      refine j_istoreN (pc := 60) (lv' := fun v10 => [(5, .int v10), (0, .ref (ad a0)), (1, .ref (ad a1)), (2, .int x2), (3, .int x3), (4, .int x4), (6, .int x6)]) dX2_begin_60 (by decide) (fun _ => rfl) hf (fun v10 hf => ?_)
      refine j_iinc (pc := 62) 6 (c := 1) (lv' := fun v11 => [(6, .int v11), (5, .int v10), (0, .ref (ad a0)), (1, .ref (ad a1)), (2, .int x2), (3, .int x3), (4, .int x4)]) dX2_begin_62 rfl (by decide) (by decide) (fun _ => rfl) hf (fun v11 hf => ?_)
      refine j_goto (pc := 65) (tgt := 39) dX2_begin_65 (by decide) ?_
      refine j_sub [2, 3, 4, 5, 6, 1, 0] rfl ?_
      exact hk39 k0 k1 hf
def f_X2_begin_17 (k2 : Nat → Nat → Int32 → Hp → Option (Unit × Hp)) (k17 : Nat → Nat → Int32 → Int32 → Int32 → Hp → Option (Unit × Hp)) (a0 : Nat) (a1 : Nat) (x2 : Int32) (x3 : Int32) (x4 : Int32) (h : Hp) : Option (Unit × Hp) := if 6 ≤ x4 then (lt (x2 + 1) (fun v2 => k2 a0 a1 v2 h)) else (if ix x4 6 = true then (lt (h.1 (a0 + 11 + 10) (Int32.toNatClampNeg x4)) (fun v3 => lp (F := Nat → Nat → Int32 → Int32 → Int32 → Int32 → Int32 → Hp → Option (Unit × Hp)) (fun _ _ _ _ _ _ _ _ => none) (f_X2_begin_39 k2 k17) 1000 a0 a1 x2 x3 x4 v3 0 h)) else none)
set_option maxHeartbeats 4000000 in
set_option maxRecDepth 100000 in
theorem t_X2_begin_17 {l : Launch} {D : va_G} {ad : Nat → Nat} {cA : Nat → ClassId} {d : Nat} (hdp : 0 ≤ d) {o : Unit × Hp} {k2 : Nat → Nat → Int32 → Hp → Option (Unit × Hp)} (hk2 : ∀ {a0 : Nat} {a1 : Nat} {x2 : Int32} (k0 : kd a0 = 2) (k1 : kd a1 = 3) {h : Hp}, k2 a0 a1 x2 h = some o → J l D ad cA (fun _ => True) (rmd (d + 1)) (0, 0) (mQ D ad cA (none) o.2) cX2_begin RX2 7 (none) 2 [(0, .ref (ad a0)), (1, .ref (ad a1)), (2, .int x2)] [] h) : ∀ (n : Nat) {a0 : Nat} {a1 : Nat} {x2 : Int32} {x3 : Int32} {x4 : Int32} (k0 : kd a0 = 2) (k1 : kd a1 = 3) {h : Hp}, lp (F := Nat → Nat → Int32 → Int32 → Int32 → Hp → Option (Unit × Hp)) (fun _ _ _ _ _ _ => none) (f_X2_begin_17 k2) n a0 a1 x2 x3 x4 h = some o → J l D ad cA (fun _ => True) (rmd (d + 1)) (0, 0) (mQ D ad cA (none) o.2) cX2_begin RX2 7 (none) 17 [(0, .ref (ad a0)), (1, .ref (ad a1)), (2, .int x2), (3, .int x3), (4, .int x4)] [] h := by
  intro n
  induction n with
  | zero =>
    intro a0 a1 x2 x3 x4 k0 k1 h hf
    have hf : (none : Option (Unit × Hp)) = some o := hf
    cases hf
  | succ n hk17 =>
    intro a0 a1 x2 x3 x4 k0 k1 h hf
    have hf : f_X2_begin_17 k2 (lp (F := Nat → Nat → Int32 → Int32 → Int32 → Hp → Option (Unit × Hp)) (fun _ _ _ _ _ _ => none) (f_X2_begin_17 k2) n) a0 a1 x2 x3 x4 h = some o := hf
    unfold f_X2_begin_17 at hf
    refine j_iload (pc := 17) 4 dX2_begin_17 rfl ?_
    refine j_bipush (pc := 19) dX2_begin_19 (v := 6) (by decide) ?_
    refine j_icmp_ge (pc := 21) (tgt := 105) dX2_begin_21 (by decide) hf (fun _ hf => ?_) (fun _ hf => ?_)
    · refine j_iinc (pc := 105) 2 (c := 1) (lv' := fun v2 => [(2, .int v2), (0, .ref (ad a0)), (1, .ref (ad a1)), (3, .int x3), (4, .int x4)]) dX2_begin_105 rfl (by decide) (by decide) (fun _ => rfl) hf (fun v2 hf => ?_)
      refine j_goto (pc := 108) (tgt := 2) dX2_begin_108 (by decide) ?_
      refine j_sub [1, 2, 0] rfl ?_
      exact hk2 k0 k1 hf
    · refine j_aload_n (pc := 24) 0 dX2_begin_24 rfl rfl ?_
      refine j_getR (pc := 25) (n := 11) dX2_begin_25 fl267 k0 (by decide) rfl ?_
      refine j_getR (pc := 28) (n := 10) dX2_begin_28 fl196 (lk_2_2 k0) (by decide) rfl ?_
      refine j_iload (pc := 31) 4 dX2_begin_31 rfl ?_
      refine j_iaload (pc := 33) dX2_begin_33 (lk_1_1 (lk_2_2 k0)) (ll_1_1 (lk_2_2 k0)) hf (fun _ hf => ?_)
      refine j_istoreN (pc := 34) (lv' := fun v3 => [(5, .int v3), (0, .ref (ad a0)), (1, .ref (ad a1)), (2, .int x2), (3, .int x3), (4, .int x4)]) dX2_begin_34 (by decide) (fun _ => rfl) hf (fun v3 hf => ?_)
      refine j_iconst (pc := 36) dX2_begin_36 (v := 0) (by decide) ?_
      refine j_istore (pc := 37) (lv' := [(6, .int 0), (5, .int v3), (0, .ref (ad a0)), (1, .ref (ad a1)), (2, .int x2), (3, .int x3), (4, .int x4)]) dX2_begin_37 (by decide) rfl ?_
      refine j_sub [2, 3, 4, 5, 6, 1, 0] rfl ?_
      exact t_X2_begin_39 hdp hk2 hk17 1000 k0 k1 hf
def f_X2_begin_2 (k2 : Nat → Nat → Int32 → Hp → Option (Unit × Hp)) (a0 : Nat) (a1 : Nat) (x2 : Int32) (h : Hp) : Option (Unit × Hp) := if 4 ≤ x2 then (some ((), h)) else (if ix x2 4 = true then (lt (h.1 (a1 + 2) (Int32.toNatClampNeg x2)) (fun v1 => lp (F := Nat → Nat → Int32 → Int32 → Int32 → Hp → Option (Unit × Hp)) (fun _ _ _ _ _ _ => none) (f_X2_begin_17 k2) 1000 a0 a1 x2 v1 0 h)) else none)
set_option maxHeartbeats 4000000 in
set_option maxRecDepth 100000 in
theorem t_X2_begin_2 {l : Launch} {D : va_G} {ad : Nat → Nat} {cA : Nat → ClassId} {d : Nat} (hdp : 0 ≤ d) {o : Unit × Hp}  : ∀ (n : Nat) {a0 : Nat} {a1 : Nat} {x2 : Int32} (k0 : kd a0 = 2) (k1 : kd a1 = 3) {h : Hp}, lp (F := Nat → Nat → Int32 → Hp → Option (Unit × Hp)) (fun _ _ _ _ => none) (f_X2_begin_2) n a0 a1 x2 h = some o → J l D ad cA (fun _ => True) (rmd (d + 1)) (0, 0) (mQ D ad cA (none) o.2) cX2_begin RX2 7 (none) 2 [(0, .ref (ad a0)), (1, .ref (ad a1)), (2, .int x2)] [] h := by
  intro n
  induction n with
  | zero =>
    intro a0 a1 x2 k0 k1 h hf
    have hf : (none : Option (Unit × Hp)) = some o := hf
    cases hf
  | succ n hk2 =>
    intro a0 a1 x2 k0 k1 h hf
    have hf : f_X2_begin_2  (lp (F := Nat → Nat → Int32 → Hp → Option (Unit × Hp)) (fun _ _ _ _ => none) (f_X2_begin_2) n) a0 a1 x2 h = some o := hf
    unfold f_X2_begin_2 at hf
    refine j_iload_n (pc := 2) 2 dX2_begin_2 rfl rfl ?_
    refine j_iconst (pc := 3) dX2_begin_3 (v := 4) (by decide) ?_
    refine j_icmp_ge (pc := 4) (tgt := 111) dX2_begin_4 (by decide) hf (fun _ hf => ?_) (fun _ hf => ?_)
    · exact j_vret (pc := 111) dX2_begin_111 rfl hf
    · refine j_aload_n (pc := 7) 1 dX2_begin_7 rfl rfl ?_
      refine j_getR (pc := 8) (n := 2) dX2_begin_8 fl105 k1 (by decide) rfl ?_
      refine j_iload_n (pc := 11) 2 dX2_begin_11 rfl rfl ?_
      refine j_iaload (pc := 12) dX2_begin_12 (lk_3_1 k1) (ll_3_1 k1) hf (fun _ hf => ?_)
      refine j_istore_nN (pc := 13) (lv' := fun v1 => [(3, .int v1), (0, .ref (ad a0)), (1, .ref (ad a1)), (2, .int x2)]) dX2_begin_13 rfl (by decide) (fun _ => rfl) hf (fun v1 hf => ?_)
      refine j_iconst (pc := 14) dX2_begin_14 (v := 0) (by decide) ?_
      refine j_istore (pc := 15) (lv' := [(4, .int 0), (3, .int v1), (0, .ref (ad a0)), (1, .ref (ad a1)), (2, .int x2)]) dX2_begin_15 (by decide) rfl ?_
      refine j_sub [2, 3, 4, 1, 0] rfl ?_
      exact t_X2_begin_17 hdp hk2 1000 k0 k1 hf
def f_X2_begin (a0 : Nat) (a1 : Nat) (h : Hp) : Option (Unit × Hp) := lp (F := Nat → Nat → Int32 → Hp → Option (Unit × Hp)) (fun _ _ _ _ => none) (f_X2_begin_2) 1000 a0 a1 0 h
set_option maxHeartbeats 4000000 in
set_option maxRecDepth 100000 in
theorem t_X2_begin {l : Launch} {D : va_G} {ad : Nat → Nat} {cA : Nat → ClassId} {d : Nat} (hdp : 1 ≤ d) {a0 : Nat} {a1 : Nat} (k0 : kd a0 = 2) (k1 : kd a1 = 3) {h : Hp} {o : Unit × Hp} (hf : f_X2_begin a0 a1 h = some o) : Cr l D ad cA d yX2_begin cX2_begin 7 (none) [.ref (ad a0), .ref (ad a1)] h (none) o.2 := by
  obtain ⟨d, rfl⟩ : ∃ e, d = e + 1 := ⟨d - 1, by omega⟩
  have hdp : 0 ≤ d := by omega
  unfold f_X2_begin at hf
  refine Cr_of (by decide +kernel) rfl (Nat.le_of_ble_eq_true rfl) (lv0 := [(0, .ref (ad a0)), (1, .ref (ad a1))]) rfl ?_
  refine j_iconst (pc := 0) dX2_begin_0 (v := 0) (by decide) ?_
  refine j_istore_n (pc := 1) (lv' := [(2, .int 0), (0, .ref (ad a0)), (1, .ref (ad a1))]) dX2_begin_1 rfl (by decide) rfl ?_
  refine j_sub [1, 2, 0] rfl ?_
  exact t_X2_begin_2 hdp  1000 k0 k1 hf
def f_X2_takes_97 (k85 : Nat → Nat → Int32 → Hp → Option (Int32 × Hp)) (k97 : Nat → Nat → Int32 → Int64 → Int32 → Hp → Option (Int32 × Hp)) (a0 : Nat) (a2 : Nat) (x3 : Int32) (x4 : Int64) (x6 : Int32) (h : Hp) : Option (Int32 × Hp) := if 4 ≤ x6 then (if ix x3 6 = true then (if (lg_cmp x4 (Int32.toInt64 (h.1 (a0 + 11 + 10) (Int32.toNatClampNeg x3)))) = 0 then (lt (x3 + 1) (fun v2 => k85 a0 a2 v2 h)) else (if isB 0 = true then some (0, h) else none)) else none) else ((f_X8_cellOf x6 x3 h).bind (fun q3 => if ix q3.1 (ln a2) = true then (lt (x4 + (Int32.toInt64 (q3.2.1 a2 (Int32.toNatClampNeg q3.1)))) (fun v4 => lt (x6 + 1) (fun v5 => k97 a0 a2 x3 v4 v5 q3.2))) else none))
set_option maxHeartbeats 4000000 in
set_option maxRecDepth 100000 in
theorem t_X2_takes_97 {l : Launch} {D : va_G} {ad : Nat → Nat} {cA : Nat → ClassId} {d : Nat} (hdp : 0 ≤ d) {o : Int32 × Hp} {k85 : Nat → Nat → Int32 → Hp → Option (Int32 × Hp)} (hk85 : ∀ {a0 : Nat} {a2 : Nat} {x3 : Int32} (k0 : kd a0 = 2) (k2 : kd a2 = 10) {h : Hp}, k85 a0 a2 x3 h = some o → J l D ad cA (fun _ => True) (rmd (d + 1)) (0, 0) (mQ D ad cA (some (.int o.1)) o.2) cX2_takes RX2 7 (some .boolean) 85 [(0, .ref (ad a0)), (2, .ref (ad a2)), (3, .int x3)] [] h) : ∀ (n : Nat) {a0 : Nat} {a2 : Nat} {x3 : Int32} {x4 : Int64} {x6 : Int32} (k0 : kd a0 = 2) (k2 : kd a2 = 10) {h : Hp}, lp (F := Nat → Nat → Int32 → Int64 → Int32 → Hp → Option (Int32 × Hp)) (fun _ _ _ _ _ _ => none) (f_X2_takes_97 k85) n a0 a2 x3 x4 x6 h = some o → J l D ad cA (fun _ => True) (rmd (d + 1)) (0, 0) (mQ D ad cA (some (.int o.1)) o.2) cX2_takes RX2 7 (some .boolean) 97 [(0, .ref (ad a0)), (2, .ref (ad a2)), (3, .int x3), (4, .long x4), (6, .int x6)] [] h := by
  intro n
  induction n with
  | zero =>
    intro a0 a2 x3 x4 x6 k0 k2 h hf
    have hf : (none : Option (Int32 × Hp)) = some o := hf
    cases hf
  | succ n hk97 =>
    intro a0 a2 x3 x4 x6 k0 k2 h hf
    have hf : f_X2_takes_97 k85 (lp (F := Nat → Nat → Int32 → Int64 → Int32 → Hp → Option (Int32 × Hp)) (fun _ _ _ _ _ _ => none) (f_X2_takes_97 k85) n) a0 a2 x3 x4 x6 h = some o := hf
    unfold f_X2_takes_97 at hf
    refine j_iload (pc := 97) 4 dX2_takes_97 rfl ?_
    refine j_iconst (pc := 99) dX2_takes_99 (v := 4) (by decide) ?_
    refine j_icmp_ge (pc := 100) (tgt := 123) dX2_takes_100 (by decide) hf (fun _ hf => ?_) (fun _ hf => ?_)
    · refine j_lload (pc := 123) 3 dX2_takes_123 rfl ?_
      refine j_aload_n (pc := 125) 0 dX2_takes_125 rfl rfl ?_
      refine j_getR (pc := 126) (n := 11) dX2_takes_126 fl267 k0 (by decide) rfl ?_
      refine j_getR (pc := 129) (n := 10) dX2_takes_129 fl196 (lk_2_2 k0) (by decide) rfl ?_
      refine j_iload_n (pc := 132) 2 dX2_takes_132 rfl rfl ?_
      refine j_iaload (pc := 133) dX2_takes_133 (lk_1_1 (lk_2_2 k0)) (ll_1_1 (lk_2_2 k0)) hf (fun _ hf => ?_)
      refine j_i2l (pc := 134) dX2_takes_134  ?_
      refine j_lcmp (pc := 135) dX2_takes_135  ?_
      refine j_if_eq (pc := 136) (tgt := 141) dX2_takes_136 (by decide) hf (fun _ hf => ?_) (fun _ hf => ?_)
      · refine j_iinc (pc := 141) 2 (c := 1) (lv' := fun v2 => [(3, .int v2), (0, .ref (ad a0)), (2, .ref (ad a2)), (4, .long x4), (6, .int x6)]) dX2_takes_141 rfl (by decide) (by decide) (fun _ => rfl) hf (fun v2 hf => ?_)
        refine j_goto (pc := 144) (tgt := 85) dX2_takes_144 (by decide) ?_
        refine j_sub [1, 2, 0] rfl ?_
        exact hk85 k0 k2 hf
      · refine j_iconst (pc := 139) dX2_takes_139 (v := 0) (by decide) ?_
        exact j_zret (pc := 140) dX2_takes_140 rfl hf
    · refine j_lload (pc := 103) 3 dX2_takes_103 rfl ?_
      refine j_aload_n (pc := 105) 1 dX2_takes_105 rfl rfl ?_
      refine j_iload (pc := 106) 4 dX2_takes_106 rfl ?_
      refine j_iload_n (pc := 108) 2 dX2_takes_108 rfl rfl ?_
      refine j_callNi (pc := 109) (d := d) (As := [.int x6, .int x3]) (st := [.ref (ad a2), .long x4]) dX2_takes_109 s685 rfl rfl (by decide) (Nat.le_of_ble_eq_true rfl) (fun q hq => t_X8_cellOf  hq) hf (fun q3 hf => ?_)
      refine j_iaload (pc := 112) dX2_takes_112 k2 rfl hf (fun _ hf => ?_)
      refine j_i2l (pc := 113) dX2_takes_113  ?_
      refine j_ladd (pc := 114) dX2_takes_114  ?_
      refine j_lstoreN (pc := 115) (lv' := fun v4 => [(4, .long v4), (0, .ref (ad a0)), (2, .ref (ad a2)), (3, .int x3), (6, .int x6)]) dX2_takes_115 (by decide) (fun _ => rfl) hf (fun v4 hf => ?_)
      refine j_iinc (pc := 117) 4 (c := 1) (lv' := fun v5 => [(6, .int v5), (4, .long v4), (0, .ref (ad a0)), (2, .ref (ad a2)), (3, .int x3)]) dX2_takes_117 rfl (by decide) (by decide) (fun _ => rfl) hf (fun v5 hf => ?_)
      refine j_goto (pc := 120) (tgt := 97) dX2_takes_120 (by decide) ?_
      refine j_sub [2, 3, 4, 1, 0] rfl ?_
      exact hk97 k0 k2 hf
def f_X2_takes_85 (k85 : Nat → Nat → Int32 → Hp → Option (Int32 × Hp)) (a0 : Nat) (a2 : Nat) (x3 : Int32) (h : Hp) : Option (Int32 × Hp) := if 6 ≤ x3 then (if isB 1 = true then some (1, h) else none) else (lp (F := Nat → Nat → Int32 → Int64 → Int32 → Hp → Option (Int32 × Hp)) (fun _ _ _ _ _ _ => none) (f_X2_takes_97 k85) 1000 a0 a2 x3 0 0 h)
set_option maxHeartbeats 4000000 in
set_option maxRecDepth 100000 in
theorem t_X2_takes_85 {l : Launch} {D : va_G} {ad : Nat → Nat} {cA : Nat → ClassId} {d : Nat} (hdp : 0 ≤ d) {o : Int32 × Hp}  : ∀ (n : Nat) {a0 : Nat} {a2 : Nat} {x3 : Int32} (k0 : kd a0 = 2) (k2 : kd a2 = 10) {h : Hp}, lp (F := Nat → Nat → Int32 → Hp → Option (Int32 × Hp)) (fun _ _ _ _ => none) (f_X2_takes_85) n a0 a2 x3 h = some o → J l D ad cA (fun _ => True) (rmd (d + 1)) (0, 0) (mQ D ad cA (some (.int o.1)) o.2) cX2_takes RX2 7 (some .boolean) 85 [(0, .ref (ad a0)), (2, .ref (ad a2)), (3, .int x3)] [] h := by
  intro n
  induction n with
  | zero =>
    intro a0 a2 x3 k0 k2 h hf
    have hf : (none : Option (Int32 × Hp)) = some o := hf
    cases hf
  | succ n hk85 =>
    intro a0 a2 x3 k0 k2 h hf
    have hf : f_X2_takes_85  (lp (F := Nat → Nat → Int32 → Hp → Option (Int32 × Hp)) (fun _ _ _ _ => none) (f_X2_takes_85) n) a0 a2 x3 h = some o := hf
    unfold f_X2_takes_85 at hf
    refine j_iload_n (pc := 85) 2 dX2_takes_85 rfl rfl ?_
    refine j_bipush (pc := 86) dX2_takes_86 (v := 6) (by decide) ?_
    refine j_icmp_ge (pc := 88) (tgt := 147) dX2_takes_88 (by decide) hf (fun _ hf => ?_) (fun _ hf => ?_)
    · refine j_iconst (pc := 147) dX2_takes_147 (v := 1) (by decide) ?_
      exact j_zret (pc := 148) dX2_takes_148 rfl hf
    · refine j_lconst (pc := 91) dX2_takes_91 (v := 0) rfl ?_
      refine j_lstore (pc := 92) (lv' := [(4, .long 0), (0, .ref (ad a0)), (2, .ref (ad a2)), (3, .int x3)]) dX2_takes_92 (by decide) rfl ?_
      refine j_iconst (pc := 94) dX2_takes_94 (v := 0) (by decide) ?_
      refine j_istore (pc := 95) (lv' := [(6, .int 0), (4, .long 0), (0, .ref (ad a0)), (2, .ref (ad a2)), (3, .int x3)]) dX2_takes_95 (by decide) rfl ?_
      refine j_sub [2, 3, 4, 1, 0] rfl ?_
      exact t_X2_takes_97 hdp hk85 1000 k0 k2 hf
def f_X2_takes_35 (k24 : Nat → Nat → Nat → Int32 → Hp → Option (Int32 × Hp)) (k35 : Nat → Nat → Nat → Int32 → Int64 → Int32 → Hp → Option (Int32 × Hp)) (a0 : Nat) (a1 : Nat) (a2 : Nat) (x3 : Int32) (x4 : Int64) (x6 : Int32) (h : Hp) : Option (Int32 × Hp) := if 6 ≤ x6 then (if ix x3 4 = true then (if (lg_cmp x4 (Int32.toInt64 (h.1 (a1 + 2) (Int32.toNatClampNeg x3)))) = 0 then (lt (x3 + 1) (fun v6 => k24 a0 a1 a2 v6 h)) else (if isB 0 = true then some (0, h) else none)) else none) else ((f_X8_cellOf x3 x6 h).bind (fun q7 => if ix q7.1 (ln a2) = true then (lt (x4 + (Int32.toInt64 (q7.2.1 a2 (Int32.toNatClampNeg q7.1)))) (fun v8 => lt (x6 + 1) (fun v9 => k35 a0 a1 a2 x3 v8 v9 q7.2))) else none))
set_option maxHeartbeats 4000000 in
set_option maxRecDepth 100000 in
theorem t_X2_takes_35 {l : Launch} {D : va_G} {ad : Nat → Nat} {cA : Nat → ClassId} {d : Nat} (hdp : 0 ≤ d) {o : Int32 × Hp} {k24 : Nat → Nat → Nat → Int32 → Hp → Option (Int32 × Hp)} (hk24 : ∀ {a0 : Nat} {a1 : Nat} {a2 : Nat} {x3 : Int32} (k0 : kd a0 = 2) (k1 : kd a1 = 3) (k2 : kd a2 = 10) {h : Hp}, k24 a0 a1 a2 x3 h = some o → J l D ad cA (fun _ => True) (rmd (d + 1)) (0, 0) (mQ D ad cA (some (.int o.1)) o.2) cX2_takes RX2 7 (some .boolean) 24 [(0, .ref (ad a0)), (1, .ref (ad a1)), (2, .ref (ad a2)), (3, .int x3)] [] h) : ∀ (n : Nat) {a0 : Nat} {a1 : Nat} {a2 : Nat} {x3 : Int32} {x4 : Int64} {x6 : Int32} (k0 : kd a0 = 2) (k1 : kd a1 = 3) (k2 : kd a2 = 10) {h : Hp}, lp (F := Nat → Nat → Nat → Int32 → Int64 → Int32 → Hp → Option (Int32 × Hp)) (fun _ _ _ _ _ _ _ => none) (f_X2_takes_35 k24) n a0 a1 a2 x3 x4 x6 h = some o → J l D ad cA (fun _ => True) (rmd (d + 1)) (0, 0) (mQ D ad cA (some (.int o.1)) o.2) cX2_takes RX2 7 (some .boolean) 35 [(0, .ref (ad a0)), (1, .ref (ad a1)), (2, .ref (ad a2)), (3, .int x3), (4, .long x4), (6, .int x6)] [] h := by
  intro n
  induction n with
  | zero =>
    intro a0 a1 a2 x3 x4 x6 k0 k1 k2 h hf
    have hf : (none : Option (Int32 × Hp)) = some o := hf
    cases hf
  | succ n hk35 =>
    intro a0 a1 a2 x3 x4 x6 k0 k1 k2 h hf
    have hf : f_X2_takes_35 k24 (lp (F := Nat → Nat → Nat → Int32 → Int64 → Int32 → Hp → Option (Int32 × Hp)) (fun _ _ _ _ _ _ _ => none) (f_X2_takes_35 k24) n) a0 a1 a2 x3 x4 x6 h = some o := hf
    unfold f_X2_takes_35 at hf
    refine j_iload (pc := 35) 5 dX2_takes_35 rfl ?_
    refine j_bipush (pc := 37) dX2_takes_37 (v := 6) (by decide) ?_
    refine j_icmp_ge (pc := 39) (tgt := 62) dX2_takes_39 (by decide) hf (fun _ hf => ?_) (fun _ hf => ?_)
    · refine j_lload (pc := 62) 4 dX2_takes_62 rfl ?_
      refine j_aload_n (pc := 64) 1 dX2_takes_64 rfl rfl ?_
      refine j_getR (pc := 65) (n := 2) dX2_takes_65 fl105 k1 (by decide) rfl ?_
      refine j_iload_n (pc := 68) 3 dX2_takes_68 rfl rfl ?_
      refine j_iaload (pc := 69) dX2_takes_69 (lk_3_1 k1) (ll_3_1 k1) hf (fun _ hf => ?_)
      refine j_i2l (pc := 70) dX2_takes_70  ?_
      refine j_lcmp (pc := 71) dX2_takes_71  ?_
      refine j_if_eq (pc := 72) (tgt := 77) dX2_takes_72 (by decide) hf (fun _ hf => ?_) (fun _ hf => ?_)
      · refine j_iinc (pc := 77) 3 (c := 1) (lv' := fun v6 => [(3, .int v6), (0, .ref (ad a0)), (1, .ref (ad a1)), (2, .ref (ad a2)), (4, .long x4), (6, .int x6)]) dX2_takes_77 rfl (by decide) (by decide) (fun _ => rfl) hf (fun v6 hf => ?_)
        refine j_goto (pc := 80) (tgt := 24) dX2_takes_80 (by decide) ?_
        refine j_sub [1, 2, 3, 0] rfl ?_
        exact hk24 k0 k1 k2 hf
      · refine j_iconst (pc := 75) dX2_takes_75 (v := 0) (by decide) ?_
        exact j_zret (pc := 76) dX2_takes_76 rfl hf
    · refine j_lload (pc := 42) 4 dX2_takes_42 rfl ?_
      refine j_aload_n (pc := 44) 2 dX2_takes_44 rfl rfl ?_
      refine j_iload_n (pc := 45) 3 dX2_takes_45 rfl rfl ?_
      refine j_iload (pc := 46) 5 dX2_takes_46 rfl ?_
      refine j_callNi (pc := 48) (d := d) (As := [.int x3, .int x6]) (st := [.ref (ad a2), .long x4]) dX2_takes_48 s685 rfl rfl (by decide) (Nat.le_of_ble_eq_true rfl) (fun q hq => t_X8_cellOf  hq) hf (fun q7 hf => ?_)
      refine j_iaload (pc := 51) dX2_takes_51 k2 rfl hf (fun _ hf => ?_)
      refine j_i2l (pc := 52) dX2_takes_52  ?_
      refine j_ladd (pc := 53) dX2_takes_53  ?_
      refine j_lstoreN (pc := 54) (lv' := fun v8 => [(4, .long v8), (0, .ref (ad a0)), (1, .ref (ad a1)), (2, .ref (ad a2)), (3, .int x3), (6, .int x6)]) dX2_takes_54 (by decide) (fun _ => rfl) hf (fun v8 hf => ?_)
      refine j_iinc (pc := 56) 5 (c := 1) (lv' := fun v9 => [(6, .int v9), (4, .long v8), (0, .ref (ad a0)), (1, .ref (ad a1)), (2, .ref (ad a2)), (3, .int x3)]) dX2_takes_56 rfl (by decide) (by decide) (fun _ => rfl) hf (fun v9 hf => ?_)
      refine j_goto (pc := 59) (tgt := 35) dX2_takes_59 (by decide) ?_
      refine j_sub [2, 3, 4, 5, 1, 0] rfl ?_
      exact hk35 k0 k1 k2 hf
def f_X2_takes_24 (k24 : Nat → Nat → Nat → Int32 → Hp → Option (Int32 × Hp)) (a0 : Nat) (a1 : Nat) (a2 : Nat) (x3 : Int32) (h : Hp) : Option (Int32 × Hp) := if 4 ≤ x3 then (lp (F := Nat → Nat → Int32 → Hp → Option (Int32 × Hp)) (fun _ _ _ _ => none) (f_X2_takes_85) 1000 a0 a2 0 h) else (lp (F := Nat → Nat → Nat → Int32 → Int64 → Int32 → Hp → Option (Int32 × Hp)) (fun _ _ _ _ _ _ _ => none) (f_X2_takes_35 k24) 1000 a0 a1 a2 x3 0 0 h)
set_option maxHeartbeats 4000000 in
set_option maxRecDepth 100000 in
theorem t_X2_takes_24 {l : Launch} {D : va_G} {ad : Nat → Nat} {cA : Nat → ClassId} {d : Nat} (hdp : 0 ≤ d) {o : Int32 × Hp}  : ∀ (n : Nat) {a0 : Nat} {a1 : Nat} {a2 : Nat} {x3 : Int32} (k0 : kd a0 = 2) (k1 : kd a1 = 3) (k2 : kd a2 = 10) {h : Hp}, lp (F := Nat → Nat → Nat → Int32 → Hp → Option (Int32 × Hp)) (fun _ _ _ _ _ => none) (f_X2_takes_24) n a0 a1 a2 x3 h = some o → J l D ad cA (fun _ => True) (rmd (d + 1)) (0, 0) (mQ D ad cA (some (.int o.1)) o.2) cX2_takes RX2 7 (some .boolean) 24 [(0, .ref (ad a0)), (1, .ref (ad a1)), (2, .ref (ad a2)), (3, .int x3)] [] h := by
  intro n
  induction n with
  | zero =>
    intro a0 a1 a2 x3 k0 k1 k2 h hf
    have hf : (none : Option (Int32 × Hp)) = some o := hf
    cases hf
  | succ n hk24 =>
    intro a0 a1 a2 x3 k0 k1 k2 h hf
    have hf : f_X2_takes_24  (lp (F := Nat → Nat → Nat → Int32 → Hp → Option (Int32 × Hp)) (fun _ _ _ _ _ => none) (f_X2_takes_24) n) a0 a1 a2 x3 h = some o := hf
    unfold f_X2_takes_24 at hf
    refine j_iload_n (pc := 24) 3 dX2_takes_24 rfl rfl ?_
    refine j_iconst (pc := 25) dX2_takes_25 (v := 4) (by decide) ?_
    refine j_icmp_ge (pc := 26) (tgt := 83) dX2_takes_26 (by decide) hf (fun _ hf => ?_) (fun _ hf => ?_)
    · refine j_iconst (pc := 83) dX2_takes_83 (v := 0) (by decide) ?_
      refine j_istore_n (pc := 84) (lv' := [(3, .int 0), (0, .ref (ad a0)), (1, .ref (ad a1)), (2, .ref (ad a2))]) dX2_takes_84 rfl (by decide) rfl ?_
      refine j_sub [1, 3, 0] rfl ?_
      exact t_X2_takes_85 hdp  1000 k0 k2 hf
    · refine j_lconst (pc := 29) dX2_takes_29 (v := 0) rfl ?_
      refine j_lstore (pc := 30) (lv' := [(4, .long 0), (0, .ref (ad a0)), (1, .ref (ad a1)), (2, .ref (ad a2)), (3, .int x3)]) dX2_takes_30 (by decide) rfl ?_
      refine j_iconst (pc := 32) dX2_takes_32 (v := 0) (by decide) ?_
      refine j_istore (pc := 33) (lv' := [(6, .int 0), (4, .long 0), (0, .ref (ad a0)), (1, .ref (ad a1)), (2, .ref (ad a2)), (3, .int x3)]) dX2_takes_33 (by decide) rfl ?_
      refine j_sub [2, 3, 4, 5, 1, 0] rfl ?_
      exact t_X2_takes_35 hdp hk24 1000 k0 k1 k2 hf
def f_X2_takes_2 (k2 : Nat → Nat → Nat → Int32 → Hp → Option (Int32 × Hp)) (a0 : Nat) (a1 : Nat) (a2 : Nat) (x3 : Int32) (h : Hp) : Option (Int32 × Hp) := if 24 ≤ x3 then (lp (F := Nat → Nat → Nat → Int32 → Hp → Option (Int32 × Hp)) (fun _ _ _ _ _ => none) (f_X2_takes_24) 1000 a0 a1 a2 0 h) else (if ix x3 (ln a2) = true then (if 0 ≤ (h.1 a2 (Int32.toNatClampNeg x3)) then (lt (x3 + 1) (fun v1 => k2 a0 a1 a2 v1 h)) else (if isB 0 = true then some (0, h) else none)) else none)
set_option maxHeartbeats 4000000 in
set_option maxRecDepth 100000 in
theorem t_X2_takes_2 {l : Launch} {D : va_G} {ad : Nat → Nat} {cA : Nat → ClassId} {d : Nat} (hdp : 0 ≤ d) {o : Int32 × Hp}  : ∀ (n : Nat) {a0 : Nat} {a1 : Nat} {a2 : Nat} {x3 : Int32} (k0 : kd a0 = 2) (k1 : kd a1 = 3) (k2 : kd a2 = 10) {h : Hp}, lp (F := Nat → Nat → Nat → Int32 → Hp → Option (Int32 × Hp)) (fun _ _ _ _ _ => none) (f_X2_takes_2) n a0 a1 a2 x3 h = some o → J l D ad cA (fun _ => True) (rmd (d + 1)) (0, 0) (mQ D ad cA (some (.int o.1)) o.2) cX2_takes RX2 7 (some .boolean) 2 [(0, .ref (ad a0)), (1, .ref (ad a1)), (2, .ref (ad a2)), (3, .int x3)] [] h := by
  intro n
  induction n with
  | zero =>
    intro a0 a1 a2 x3 k0 k1 k2 h hf
    have hf : (none : Option (Int32 × Hp)) = some o := hf
    cases hf
  | succ n hk2 =>
    intro a0 a1 a2 x3 k0 k1 k2 h hf
    have hf : f_X2_takes_2  (lp (F := Nat → Nat → Nat → Int32 → Hp → Option (Int32 × Hp)) (fun _ _ _ _ _ => none) (f_X2_takes_2) n) a0 a1 a2 x3 h = some o := hf
    unfold f_X2_takes_2 at hf
    refine j_iload_n (pc := 2) 3 dX2_takes_2 rfl rfl ?_
    refine j_bipush (pc := 3) dX2_takes_3 (v := 24) (by decide) ?_
    refine j_icmp_ge (pc := 5) (tgt := 22) dX2_takes_5 (by decide) hf (fun _ hf => ?_) (fun _ hf => ?_)
    · refine j_iconst (pc := 22) dX2_takes_22 (v := 0) (by decide) ?_
      refine j_istore_n (pc := 23) (lv' := [(3, .int 0), (0, .ref (ad a0)), (1, .ref (ad a1)), (2, .ref (ad a2))]) dX2_takes_23 rfl (by decide) rfl ?_
      refine j_sub [1, 2, 3, 0] rfl ?_
      exact t_X2_takes_24 hdp  1000 k0 k1 k2 hf
    · refine j_aload_n (pc := 8) 2 dX2_takes_8 rfl rfl ?_
      refine j_iload_n (pc := 9) 3 dX2_takes_9 rfl rfl ?_
      refine j_iaload (pc := 10) dX2_takes_10 k2 rfl hf (fun _ hf => ?_)
      refine j_if_ge (pc := 11) (tgt := 16) dX2_takes_11 (by decide) hf (fun _ hf => ?_) (fun _ hf => ?_)
      · refine j_iinc (pc := 16) 3 (c := 1) (lv' := fun v1 => [(3, .int v1), (0, .ref (ad a0)), (1, .ref (ad a1)), (2, .ref (ad a2))]) dX2_takes_16 rfl (by decide) (by decide) (fun _ => rfl) hf (fun v1 hf => ?_)
        refine j_goto (pc := 19) (tgt := 2) dX2_takes_19 (by decide) ?_
        refine j_sub [1, 2, 3, 0] rfl ?_
        exact hk2 k0 k1 k2 hf
      · refine j_iconst (pc := 14) dX2_takes_14 (v := 0) (by decide) ?_
        exact j_zret (pc := 15) dX2_takes_15 rfl hf
def f_X2_takes (a0 : Nat) (a1 : Nat) (a2 : Nat) (h : Hp) : Option (Int32 × Hp) := lp (F := Nat → Nat → Nat → Int32 → Hp → Option (Int32 × Hp)) (fun _ _ _ _ _ => none) (f_X2_takes_2) 1000 a0 a1 a2 0 h
set_option maxHeartbeats 4000000 in
set_option maxRecDepth 100000 in
theorem t_X2_takes {l : Launch} {D : va_G} {ad : Nat → Nat} {cA : Nat → ClassId} {d : Nat} (hdp : 1 ≤ d) {a0 : Nat} {a1 : Nat} {a2 : Nat} (k0 : kd a0 = 2) (k1 : kd a1 = 3) (k2 : kd a2 = 10) {h : Hp} {o : Int32 × Hp} (hf : f_X2_takes a0 a1 a2 h = some o) : Cr l D ad cA d yX2_takes cX2_takes 7 (some .boolean) [.ref (ad a0), .ref (ad a1), .ref (ad a2)] h (some (.int o.1)) o.2 := by
  obtain ⟨d, rfl⟩ : ∃ e, d = e + 1 := ⟨d - 1, by omega⟩
  have hdp : 0 ≤ d := by omega
  unfold f_X2_takes at hf
  refine Cr_of (by decide +kernel) rfl (Nat.le_of_ble_eq_true rfl) (lv0 := [(0, .ref (ad a0)), (1, .ref (ad a1)), (2, .ref (ad a2))]) rfl ?_
  refine j_iconst (pc := 0) dX2_takes_0 (v := 0) (by decide) ?_
  refine j_istore_n (pc := 1) (lv' := [(3, .int 0), (0, .ref (ad a0)), (1, .ref (ad a1)), (2, .ref (ad a2))]) dX2_takes_1 rfl (by decide) rfl ?_
  refine j_sub [1, 2, 3, 0] rfl ?_
  exact t_X2_takes_2 hdp  1000 k0 k1 k2 hf
def f_X3_copyFrom (a0 : Nat) (a1 : Nat) (h : Hp) : Option (Unit × Hp) := lt (rI h (a0 + 1) (va_cpy (h.1 (a1 + 1)) (h.1 (a0 + 1)) (Int32.toNatClampNeg 0) (Int32.toNatClampNeg 0) (Int32.toNatClampNeg 24))) (fun m1 => lt (rI m1 (a0 + 2) (va_cpy (m1.1 (a1 + 2)) (m1.1 (a0 + 2)) (Int32.toNatClampNeg 0) (Int32.toNatClampNeg 0) (Int32.toNatClampNeg 4))) (fun m2 => lt (rI m2 (a0 + 3) (va_cpy (m2.1 (a1 + 3)) (m2.1 (a0 + 3)) (Int32.toNatClampNeg 0) (Int32.toNatClampNeg 0) (Int32.toNatClampNeg 6))) (fun m3 => lt (rI m3 (a0 + 4) (va_cpy (m3.1 (a1 + 4)) (m3.1 (a0 + 4)) (Int32.toNatClampNeg 0) (Int32.toNatClampNeg 0) (Int32.toNatClampNeg 6))) (fun m4 => lt (sI m4 a0 4 (m4.1 a1 4)) (fun m5 => lt (sI m5 a0 5 (m5.1 a1 5)) (fun m6 => lt (sI m6 a0 6 (m6.1 a1 6)) (fun m7 => lt (sI m7 a0 7 (m7.1 a1 7)) (fun m8 => some ((), m8)))))))))
set_option maxHeartbeats 4000000 in
set_option maxRecDepth 100000 in
theorem t_X3_copyFrom {l : Launch} {D : va_G} {ad : Nat → Nat} {cA : Nat → ClassId} {d : Nat} (hdp : 1 ≤ d) {a0 : Nat} {a1 : Nat} (k0 : kd a0 = 3) (k1 : kd a1 = 3) {h : Hp} {o : Unit × Hp} (hf : f_X3_copyFrom a0 a1 h = some o) : Cr l D ad cA d yX3_copyFrom cX3_copyFrom 2 (none) [.ref (ad a0), .ref (ad a1)] h (none) o.2 := by
  obtain ⟨d, rfl⟩ : ∃ e, d = e + 1 := ⟨d - 1, by omega⟩
  have hdp : 0 ≤ d := by omega
  unfold f_X3_copyFrom at hf
  refine Cr_of (by decide +kernel) rfl (Nat.le_of_ble_eq_true rfl) (lv0 := [(0, .ref (ad a0)), (1, .ref (ad a1))]) rfl ?_
  refine j_aload_n (pc := 0) 1 dX3_copyFrom_0 rfl rfl ?_
  refine j_getR (pc := 1) (n := 1) dX3_copyFrom_1 fl98 k1 (by decide) rfl ?_
  refine j_iconst (pc := 4) dX3_copyFrom_4 (v := 0) (by decide) ?_
  refine j_aload_n (pc := 5) 0 dX3_copyFrom_5 rfl rfl ?_
  refine j_getR (pc := 6) (n := 1) dX3_copyFrom_6 fl98 k0 (by decide) rfl ?_
  refine j_iconst (pc := 9) dX3_copyFrom_9 (v := 0) (by decide) ?_
  refine j_bipush (pc := 10) dX3_copyFrom_10 (v := 24) (by decide) ?_
  refine j_copy (pc := 12) dX3_copyFrom_12 w_446 w_nat w_st w_in (lk_3_0 k1) (lk_3_0 k0) (ll_3_0 k1) (ll_3_0 k0) (by decide) (by decide) (by decide) (by decide) (by decide) (Nat.le_of_ble_eq_true rfl) hf (fun m1 hf => ?_)
  refine j_aload_n (pc := 15) 1 dX3_copyFrom_15 rfl rfl ?_
  refine j_getR (pc := 16) (n := 2) dX3_copyFrom_16 fl103 k1 (by decide) rfl ?_
  refine j_iconst (pc := 19) dX3_copyFrom_19 (v := 0) (by decide) ?_
  refine j_aload_n (pc := 20) 0 dX3_copyFrom_20 rfl rfl ?_
  refine j_getR (pc := 21) (n := 2) dX3_copyFrom_21 fl103 k0 (by decide) rfl ?_
  refine j_iconst (pc := 24) dX3_copyFrom_24 (v := 0) (by decide) ?_
  refine j_iconst (pc := 25) dX3_copyFrom_25 (v := 4) (by decide) ?_
  refine j_copy (pc := 26) dX3_copyFrom_26 w_446 w_nat w_st w_in (lk_3_1 k1) (lk_3_1 k0) (ll_3_1 k1) (ll_3_1 k0) (by decide) (by decide) (by decide) (by decide) (by decide) (Nat.le_of_ble_eq_true rfl) hf (fun m2 hf => ?_)
  refine j_aload_n (pc := 29) 1 dX3_copyFrom_29 rfl rfl ?_
  refine j_getR (pc := 30) (n := 3) dX3_copyFrom_30 fl106 k1 (by decide) rfl ?_
  refine j_iconst (pc := 33) dX3_copyFrom_33 (v := 0) (by decide) ?_
  refine j_aload_n (pc := 34) 0 dX3_copyFrom_34 rfl rfl ?_
  refine j_getR (pc := 35) (n := 3) dX3_copyFrom_35 fl106 k0 (by decide) rfl ?_
  refine j_iconst (pc := 38) dX3_copyFrom_38 (v := 0) (by decide) ?_
  refine j_bipush (pc := 39) dX3_copyFrom_39 (v := 6) (by decide) ?_
  refine j_copy (pc := 41) dX3_copyFrom_41 w_446 w_nat w_st w_in (lk_3_2 k1) (lk_3_2 k0) (ll_3_2 k1) (ll_3_2 k0) (by decide) (by decide) (by decide) (by decide) (by decide) (Nat.le_of_ble_eq_true rfl) hf (fun m3 hf => ?_)
  refine j_aload_n (pc := 44) 1 dX3_copyFrom_44 rfl rfl ?_
  refine j_getR (pc := 45) (n := 4) dX3_copyFrom_45 fl109 k1 (by decide) rfl ?_
  refine j_iconst (pc := 48) dX3_copyFrom_48 (v := 0) (by decide) ?_
  refine j_aload_n (pc := 49) 0 dX3_copyFrom_49 rfl rfl ?_
  refine j_getR (pc := 50) (n := 4) dX3_copyFrom_50 fl109 k0 (by decide) rfl ?_
  refine j_iconst (pc := 53) dX3_copyFrom_53 (v := 0) (by decide) ?_
  refine j_bipush (pc := 54) dX3_copyFrom_54 (v := 6) (by decide) ?_
  refine j_copy (pc := 56) dX3_copyFrom_56 w_446 w_nat w_st w_in (lk_3_3 k1) (lk_3_3 k0) (ll_3_3 k1) (ll_3_3 k0) (by decide) (by decide) (by decide) (by decide) (by decide) (Nat.le_of_ble_eq_true rfl) hf (fun m4 hf => ?_)
  refine j_aload_n (pc := 59) 0 dX3_copyFrom_59 rfl rfl ?_
  refine j_aload_n (pc := 60) 1 dX3_copyFrom_60 rfl rfl ?_
  refine j_getI (pc := 61) dX3_copyFrom_61 fl112 k1 (by decide) rfl ?_
  refine j_putI (pc := 64) dX3_copyFrom_64 fl112 fp3_4 k0 (by decide) rfl hf (fun m5 hf => ?_)
  refine j_aload_n (pc := 67) 0 dX3_copyFrom_67 rfl rfl ?_
  refine j_aload_n (pc := 68) 1 dX3_copyFrom_68 rfl rfl ?_
  refine j_getI (pc := 69) dX3_copyFrom_69 fl114 k1 (by decide) rfl ?_
  refine j_putI (pc := 72) dX3_copyFrom_72 fl114 fp3_5 k0 (by decide) rfl hf (fun m6 hf => ?_)
  refine j_aload_n (pc := 75) 0 dX3_copyFrom_75 rfl rfl ?_
  refine j_aload_n (pc := 76) 1 dX3_copyFrom_76 rfl rfl ?_
  refine j_getI (pc := 77) dX3_copyFrom_77 fl118 k1 (by decide) rfl ?_
  refine j_putI (pc := 80) dX3_copyFrom_80 fl118 fp3_6 k0 (by decide) rfl hf (fun m7 hf => ?_)
  refine j_aload_n (pc := 83) 0 dX3_copyFrom_83 rfl rfl ?_
  refine j_aload_n (pc := 84) 1 dX3_copyFrom_84 rfl rfl ?_
  refine j_getI (pc := 85) dX3_copyFrom_85 fl120 k1 (by decide) rfl ?_
  refine j_putI (pc := 88) dX3_copyFrom_88 fl120 fp3_7 k0 (by decide) rfl hf (fun m8 hf => ?_)
  exact j_vret (pc := 91) dX3_copyFrom_91 rfl hf
