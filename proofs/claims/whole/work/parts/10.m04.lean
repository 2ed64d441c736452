def f_X8_vote (a0 : Nat) (x1 : Int32) (x2 : Int32) (x3 : Int32) (h : Hp) : Option (Int32 × Hp) := (f_X8_within x1 3 h).bind (fun q1 => if q1.1 = 0 then (some ((-1), q1.2)) else ((f_X8_within x2 5 q1.2).bind (fun q2 => if q2.1 = 0 then (some ((-1), q2.2)) else ((f_X8_within x3 100000 q2.2).bind (fun q3 => if q3.1 = 0 then (some ((-2), q3.2)) else ((f_X8_cellOf x1 x2 q3.2).bind (fun q4 => if ix q4.1 24 = true then (lt (q4.2.1 (a0 + 1 + 1) (Int32.toNatClampNeg q4.1)) (fun v5 => (f_X8_cellOf x1 x2 q4.2).bind (fun q6 => if ix q6.1 24 = true then (lt (sI q6.2 (a0 + 1 + 1) (Int32.toNatClampNeg q6.1) x3) (fun m7 => (f_X2_forget (a0 + 56) m7).bind (fun q8 => some (v5, q8.2)))) else none))) else none)))))))
set_option maxHeartbeats 4000000 in
set_option maxRecDepth 100000 in
theorem t_X8_vote {l : Launch} {D : va_G} {ad : Nat → Nat} {cA : Nat → ClassId} {d : Nat} (hdp : 1 ≤ d) {a0 : Nat} {x1 : Int32} {x2 : Int32} {x3 : Int32} (k0 : kd a0 = 8) {h : Hp} {o : Int32 × Hp} (hf : f_X8_vote a0 x1 x2 x3 h = some o) : Cr l D ad cA d yX8_vote cX8_vote 5 (some .int) [.ref (ad a0), .int x1, .int x2, .int x3] h (some (.int o.1)) o.2 := by
  obtain ⟨d, rfl⟩ : ∃ e, d = e + 1 := ⟨d - 1, by omega⟩
  have hdp : 0 ≤ d := by omega
  unfold f_X8_vote at hf
  refine Cr_of (by decide +kernel) rfl (Nat.le_of_ble_eq_true rfl) (lv0 := [(0, .ref (ad a0)), (1, .int x1), (2, .int x2), (3, .int x3)]) rfl ?_
  refine j_iload_n (pc := 0) 1 dX8_vote_0 rfl rfl ?_
  refine j_iconst (pc := 1) dX8_vote_1 (v := 3) (by decide) ?_
  refine j_callSi (pc := 2) (d := d) (As := [.int x1, .int 3]) (st := []) dX8_vote_2 s370 rfl rfl (by decide) (Nat.le_of_ble_eq_true rfl) (fun q hq => t_X8_within  hq) hf (fun q1 hf => ?_)
  refine j_if_eq (pc := 5) (tgt := 16) dX8_vote_5 (by decide) hf (fun _ hf => ?_) (fun _ hf => ?_)
  · refine j_iconst (pc := 16) dX8_vote_16 (v := -1) (by decide) ?_
    exact j_iret (pc := 17) dX8_vote_17 rfl hf
  · refine j_iload_n (pc := 8) 2 dX8_vote_8 rfl rfl ?_
    refine j_iconst (pc := 9) dX8_vote_9 (v := 5) (by decide) ?_
    refine j_callSi (pc := 10) (d := d) (As := [.int x2, .int 5]) (st := []) dX8_vote_10 s370 rfl rfl (by decide) (Nat.le_of_ble_eq_true rfl) (fun q hq => t_X8_within  hq) hf (fun q2 hf => ?_)
    refine j_if_ne (pc := 13) (tgt := 18) dX8_vote_13 (by decide) hf (fun _ hf => ?_) (fun _ hf => ?_)
    · refine j_iload_n (pc := 18) 3 dX8_vote_18 rfl rfl ?_
      refine j_ldc (pc := 19) dX8_vote_19 (v := 100000) w_c373 ?_
      refine j_callSi (pc := 21) (d := d) (As := [.int x3, .int 100000]) (st := []) dX8_vote_21 s370 rfl rfl (by decide) (Nat.le_of_ble_eq_true rfl) (fun q hq => t_X8_within  hq) hf (fun q3 hf => ?_)
      refine j_if_ne (pc := 24) (tgt := 30) dX8_vote_24 (by decide) hf (fun _ hf => ?_) (fun _ hf => ?_)
      · refine j_aload_n (pc := 30) 0 dX8_vote_30 rfl rfl ?_
        refine j_getR (pc := 31) (n := 1) dX8_vote_31 fl332 k0 (by decide) rfl ?_
        refine j_getR (pc := 34) (n := 1) dX8_vote_34 fl99 (lk_8_0 k0) (by decide) rfl ?_
        refine j_iload_n (pc := 37) 1 dX8_vote_37 rfl rfl ?_
        refine j_iload_n (pc := 38) 2 dX8_vote_38 rfl rfl ?_
        refine j_callSi (pc := 39) (d := d) (As := [.int x1, .int x2]) (st := [.ref (ad (a0 + 1 + 1))]) dX8_vote_39 s374 rfl rfl (by decide) (Nat.le_of_ble_eq_true rfl) (fun q hq => t_X8_cellOf  hq) hf (fun q4 hf => ?_)
        refine j_iaload (pc := 42) dX8_vote_42 (lk_3_0 (lk_8_0 k0)) (ll_3_0 (lk_8_0 k0)) hf (fun _ hf => ?_)
        refine j_istoreN (pc := 43) (lv' := fun v5 => [(4, .int v5), (0, .ref (ad a0)), (1, .int x1), (2, .int x2), (3, .int x3)]) dX8_vote_43 (by decide) (fun _ => rfl) hf (fun v5 hf => ?_)
        refine j_aload_n (pc := 45) 1 dX8_vote_45 rfl rfl ?_
        refine j_getR (pc := 46) (n := 1) dX8_vote_46 fl332 k0 (by decide) rfl ?_
        refine j_getR (pc := 49) (n := 1) dX8_vote_49 fl99 (lk_8_0 k0) (by decide) rfl ?_
        refine j_iload_n (pc := 52) 2 dX8_vote_52 rfl rfl ?_
        refine j_iload_n (pc := 53) 3 dX8_vote_53 rfl rfl ?_
        refine j_callSi (pc := 54) (d := d) (As := [.int x1, .int x2]) (st := [.ref (ad (a0 + 1 + 1))]) dX8_vote_54 s374 rfl rfl (by decide) (Nat.le_of_ble_eq_true rfl) (fun q hq => t_X8_cellOf  hq) hf (fun q6 hf => ?_)
        refine j_iload_n (pc := 57) 4 dX8_vote_57 rfl rfl ?_
        refine j_iastore (pc := 58) dX8_vote_58 (lk_3_0 (lk_8_0 k0)) (ll_3_0 (lk_8_0 k0)) hf (fun m7 hf => ?_)
        refine j_aload_n (pc := 59) 1 dX8_vote_59 rfl rfl ?_
        refine j_getR (pc := 60) (n := 56) dX8_vote_60 fl337 k0 (by decide) rfl ?_
        refine j_callVv (pc := 63) (d := d) (As := []) (st := []) dX8_vote_63 s377 (lk_8_5 k0) (by decide) rfl rfl (by decide) (Nat.le_of_ble_eq_true rfl) (fun q hq => t_X2_forget (lk_8_5 k0) hq) hf (fun q8 hf => ?_)
        refine j_iload (pc := 66) 0 dX8_vote_66 rfl ?_
        exact j_iret (pc := 68) dX8_vote_68 rfl hf
      · refine j_bipush (pc := 27) dX8_vote_27 (v := -2) (by decide) ?_
        exact j_iret (pc := 29) dX8_vote_29 rfl hf
    · refine j_iconst (pc := 16) dX8_vote_16 (v := -1) (by decide) ?_
      exact j_iret (pc := 17) dX8_vote_17 rfl hf
def f_X8_way (a0 : Nat) (x1 : Int32) (h : Hp) : Option (Int32 × Hp) := (f_X8_within x1 6 h).bind (fun q1 => if q1.1 = 0 then (some ((-1), q1.2)) else (lt (q1.2.1 (a0 + 1) 5) (fun v2 => lt (sI q1.2 (a0 + 1) 5 x1) (fun m3 => (f_X2_forget (a0 + 56) m3).bind (fun q4 => some (v2, q4.2))))))
set_option maxHeartbeats 4000000 in
set_option maxRecDepth 100000 in
theorem t_X8_way {l : Launch} {D : va_G} {ad : Nat → Nat} {cA : Nat → ClassId} {d : Nat} (hdp : 1 ≤ d) {a0 : Nat} {x1 : Int32} (k0 : kd a0 = 8) {h : Hp} {o : Int32 × Hp} (hf : f_X8_way a0 x1 h = some o) : Cr l D ad cA d yX8_way cX8_way 3 (some .int) [.ref (ad a0), .int x1] h (some (.int o.1)) o.2 := by
  obtain ⟨d, rfl⟩ : ∃ e, d = e + 1 := ⟨d - 1, by omega⟩
  have hdp : 0 ≤ d := by omega
  unfold f_X8_way at hf
  refine Cr_of (by decide +kernel) rfl (Nat.le_of_ble_eq_true rfl) (lv0 := [(0, .ref (ad a0)), (1, .int x1)]) rfl ?_
  refine j_iload_n (pc := 0) 1 dX8_way_0 rfl rfl ?_
  refine j_bipush (pc := 1) dX8_way_1 (v := 6) (by decide) ?_
  refine j_callSi (pc := 3) (d := d) (As := [.int x1, .int 6]) (st := []) dX8_way_3 s370 rfl rfl (by decide) (Nat.le_of_ble_eq_true rfl) (fun q hq => t_X8_within  hq) hf (fun q1 hf => ?_)
  refine j_if_ne (pc := 6) (tgt := 11) dX8_way_6 (by decide) hf (fun _ hf => ?_) (fun _ hf => ?_)
  · refine j_aload_n (pc := 11) 0 dX8_way_11 rfl rfl ?_
    refine j_getR (pc := 12) (n := 1) dX8_way_12 fl332 k0 (by decide) rfl ?_
    refine j_getI (pc := 15) dX8_way_15 fl117 (lk_8_0 k0) (by decide) rfl ?_
    refine j_istore_nN (pc := 18) (lv' := fun v2 => [(2, .int v2), (0, .ref (ad a0)), (1, .int x1)]) dX8_way_18 rfl (by decide) (fun _ => rfl) hf (fun v2 hf => ?_)
    refine j_aload_n (pc := 19) 1 dX8_way_19 rfl rfl ?_
    refine j_getR (pc := 20) (n := 1) dX8_way_20 fl332 k0 (by decide) rfl ?_
    refine j_iload_n (pc := 23) 2 dX8_way_23 rfl rfl ?_
    refine j_putI (pc := 24) dX8_way_24 fl117 fp3_5 (lk_8_0 k0) (by decide) rfl hf (fun m3 hf => ?_)
    refine j_aload_n (pc := 27) 1 dX8_way_27 rfl rfl ?_
    refine j_getR (pc := 28) (n := 56) dX8_way_28 fl337 k0 (by decide) rfl ?_
    refine j_callVv (pc := 31) (d := d) (As := []) (st := []) dX8_way_31 s377 (lk_8_5 k0) (by decide) rfl rfl (by decide) (Nat.le_of_ble_eq_true rfl) (fun q hq => t_X2_forget (lk_8_5 k0) hq) hf (fun q4 hf => ?_)
    refine j_iload_n (pc := 34) 0 dX8_way_34 rfl rfl ?_
    exact j_iret (pc := 35) dX8_way_35 rfl hf
  · refine j_iconst (pc := 9) dX8_way_9 (v := -1) (by decide) ?_
    exact j_iret (pc := 10) dX8_way_10 rfl hf
def f_X9_allSeats_4 (k4 : Nat → Int32 → Int32 → Hp → Option (Int32 × Hp)) (a0 : Nat) (x1 : Int32) (x2 : Int32) (h : Hp) : Option (Int32 × Hp) := if 4 ≤ x2 then (some (x1, h)) else ((f_X9_seatsOf a0 x2 h).bind (fun q1 => lt (x1 + q1.1) (fun v2 => lt (x2 + 1) (fun v3 => k4 a0 v2 v3 q1.2))))
set_option maxHeartbeats 4000000 in
set_option maxRecDepth 100000 in
theorem t_X9_allSeats_4 {l : Launch} {D : va_G} {ad : Nat → Nat} {cA : Nat → ClassId} {d : Nat} (hdp : 0 ≤ d) {o : Int32 × Hp}  : ∀ (n : Nat) {a0 : Nat} {x1 : Int32} {x2 : Int32} (k0 : kd a0 = 9) {h : Hp}, lp (F := Nat → Int32 → Int32 → Hp → Option (Int32 × Hp)) (fun _ _ _ _ => none) (f_X9_allSeats_4) n a0 x1 x2 h = some o → J l D ad cA (fun _ => True) (rmd (d + 1)) (0, 0) (mQ D ad cA (some (.int o.1)) o.2) cX9_allSeats RX9 3 (some .int) 4 [(0, .ref (ad a0)), (1, .int x1), (2, .int x2)] [] h := by
  intro n
  induction n with
  | zero =>
    intro a0 x1 x2 k0 h hf
    have hf : (none : Option (Int32 × Hp)) = some o := hf
    cases hf
  | succ n hk4 =>
    intro a0 x1 x2 k0 h hf
    have hf : f_X9_allSeats_4  (lp (F := Nat → Int32 → Int32 → Hp → Option (Int32 × Hp)) (fun _ _ _ _ => none) (f_X9_allSeats_4) n) a0 x1 x2 h = some o := hf
    unfold f_X9_allSeats_4 at hf
    refine j_iload_n (pc := 4) 2 dX9_allSeats_4 rfl rfl ?_
    refine j_iconst (pc := 5) dX9_allSeats_5 (v := 4) (by decide) ?_
    refine j_icmp_ge (pc := 6) (tgt := 23) dX9_allSeats_6 (by decide) hf (fun _ hf => ?_) (fun _ hf => ?_)
    · refine j_iload_n (pc := 23) 1 dX9_allSeats_23 rfl rfl ?_
      exact j_iret (pc := 24) dX9_allSeats_24 rfl hf
    · refine j_iload_n (pc := 9) 1 dX9_allSeats_9 rfl rfl ?_
      refine j_aload_n (pc := 10) 0 dX9_allSeats_10 rfl rfl ?_
      refine j_iload_n (pc := 11) 2 dX9_allSeats_11 rfl rfl ?_
      refine j_callVi (pc := 12) (d := d) (As := [.int x2]) (st := [.int x1]) dX9_allSeats_12 s1275 k0 (by decide) rfl rfl (by decide) (Nat.le_of_ble_eq_true rfl) (fun q hq => t_X9_seatsOf k0 hq) hf (fun q1 hf => ?_)
      refine j_iadd (pc := 15) dX9_allSeats_15  ?_
      refine j_istore_nN (pc := 16) (lv' := fun v2 => [(1, .int v2), (0, .ref (ad a0)), (2, .int x2)]) dX9_allSeats_16 rfl (by decide) (fun _ => rfl) hf (fun v2 hf => ?_)
      refine j_iinc (pc := 17) 2 (c := 1) (lv' := fun v3 => [(2, .int v3), (1, .int v2), (0, .ref (ad a0))]) dX9_allSeats_17 rfl (by decide) (by decide) (fun _ => rfl) hf (fun v3 hf => ?_)
      refine j_goto (pc := 20) (tgt := 4) dX9_allSeats_20 (by decide) ?_
      refine j_sub [2, 1, 0] rfl ?_
      exact hk4 k0 hf
def f_X9_allSeats (a0 : Nat) (h : Hp) : Option (Int32 × Hp) := lp (F := Nat → Int32 → Int32 → Hp → Option (Int32 × Hp)) (fun _ _ _ _ => none) (f_X9_allSeats_4) 1000 a0 0 0 h
set_option maxHeartbeats 4000000 in
set_option maxRecDepth 100000 in
theorem t_X9_allSeats {l : Launch} {D : va_G} {ad : Nat → Nat} {cA : Nat → ClassId} {d : Nat} (hdp : 1 ≤ d) {a0 : Nat} (k0 : kd a0 = 9) {h : Hp} {o : Int32 × Hp} (hf : f_X9_allSeats a0 h = some o) : Cr l D ad cA d yX9_allSeats cX9_allSeats 3 (some .int) [.ref (ad a0)] h (some (.int o.1)) o.2 := by
  obtain ⟨d, rfl⟩ : ∃ e, d = e + 1 := ⟨d - 1, by omega⟩
  have hdp : 0 ≤ d := by omega
  unfold f_X9_allSeats at hf
  refine Cr_of (by decide +kernel) rfl (Nat.le_of_ble_eq_true rfl) (lv0 := [(0, .ref (ad a0))]) rfl ?_
  refine j_iconst (pc := 0) dX9_allSeats_0 (v := 0) (by decide) ?_
  refine j_istore_n (pc := 1) (lv' := [(1, .int 0), (0, .ref (ad a0))]) dX9_allSeats_1 rfl (by decide) rfl ?_
  refine j_iconst (pc := 2) dX9_allSeats_2 (v := 0) (by decide) ?_
  refine j_istore_n (pc := 3) (lv' := [(2, .int 0), (1, .int 0), (0, .ref (ad a0))]) dX9_allSeats_3 rfl (by decide) rfl ?_
  refine j_sub [2, 1, 0] rfl ?_
  exact t_X9_allSeats_4 hdp  1000 k0 hf
def f_X9_bar (a0 : Nat) (x1 : Int32) (h : Hp) : Option (Int32 × Hp) := (f_X9_within (Int32.toInt64 x1) 0 500 h).bind (fun q1 => if q1.1 = 0 then (some ((-2), q1.2)) else ((f_X9_tells a0 40 x1 q1.2).bind (fun q2 => some (q2.1, q2.2))))
set_option maxHeartbeats 4000000 in
set_option maxRecDepth 100000 in
theorem t_X9_bar {l : Launch} {D : va_G} {ad : Nat → Nat} {cA : Nat → ClassId} {d : Nat} (hdp : 1 ≤ d) {a0 : Nat} {x1 : Int32} (k0 : kd a0 = 9) {h : Hp} {o : Int32 × Hp} (hf : f_X9_bar a0 x1 h = some o) : Cr l D ad cA d yX9_bar cX9_bar 2 (some .int) [.ref (ad a0), .int x1] h (some (.int o.1)) o.2 := by
  obtain ⟨d, rfl⟩ : ∃ e, d = e + 1 := ⟨d - 1, by omega⟩
  have hdp : 0 ≤ d := by omega
  unfold f_X9_bar at hf
  refine Cr_of (by decide +kernel) rfl (Nat.le_of_ble_eq_true rfl) (lv0 := [(0, .ref (ad a0)), (1, .int x1)]) rfl ?_
  refine j_iload_n (pc := 0) 1 dX9_bar_0 rfl rfl ?_
  refine j_i2l (pc := 1) dX9_bar_1  ?_
  refine j_lconst (pc := 2) dX9_bar_2 (v := 0) rfl ?_
  refine j_ldc2_w (pc := 3) dX9_bar_3 (v := 500) w_c1032 ?_
  refine j_callSi (pc := 6) (d := d) (As := [.long (Int32.toInt64 x1), .long 0, .long 500]) (st := []) dX9_bar_6 s982 rfl rfl (by decide) (Nat.le_of_ble_eq_true rfl) (fun q hq => t_X9_within  hq) hf (fun q1 hf => ?_)
  refine j_if_eq (pc := 9) (tgt := 22) dX9_bar_9 (by decide) hf (fun _ hf => ?_) (fun _ hf => ?_)
  · refine j_bipush (pc := 22) dX9_bar_22 (v := -2) (by decide) ?_
    exact j_iret (pc := 24) dX9_bar_24 rfl hf
  · refine j_aload_n (pc := 12) 0 dX9_bar_12 rfl rfl ?_
    refine j_bipush (pc := 13) dX9_bar_13 (v := 40) (by decide) ?_
    refine j_iload_n (pc := 15) 1 dX9_bar_15 rfl rfl ?_
    refine j_callVi (pc := 16) (d := d) (As := [.int 40, .int x1]) (st := []) dX9_bar_16 s990 k0 (by decide) rfl rfl (by decide) (Nat.le_of_ble_eq_true rfl) (fun q hq => t_X9_tells k0 hq) hf (fun q2 hf => ?_)
    refine j_goto (pc := 19) (tgt := 24) dX9_bar_19 (by decide) ?_
    exact j_iret (pc := 24) dX9_bar_24 rfl hf
def f_X9_begins_70 (k49 : Nat → Int32 → Hp → Option (Unit × Hp)) (k70 : Nat → Int32 → Int32 → Int32 → Hp → Option (Unit × Hp)) (a0 : Nat) (x1 : Int32) (x2 : Int32) (x3 : Int32) (h : Hp) : Option (Unit × Hp) := if (h.1 a0 32) ≤ x3 then (lt (x1 + 1) (fun v6 => k49 a0 v6 h)) else (if ix x3 6 = true then (if ix (h.1 (a0 + 21) (Int32.toNatClampNeg x3)) 6 = true then (lt (if (h.1 (a0 + 18) (Int32.toNatClampNeg (h.1 (a0 + 21) (Int32.toNatClampNeg x3)))) < x2 then (h.1 (a0 + 18) (Int32.toNatClampNeg (h.1 (a0 + 21) (Int32.toNatClampNeg x3)))) else x2) (fun v7 => if ix x1 4 = true then (if ix x3 6 = true then (if ix ((6 * (h.1 (a0 + 20) (Int32.toNatClampNeg x1))) + (h.1 (a0 + 21) (Int32.toNatClampNeg x3))) 24 = true then (lt (sI h (a0 + 23) (Int32.toNatClampNeg ((6 * (h.1 (a0 + 20) (Int32.toNatClampNeg x1))) + (h.1 (a0 + 21) (Int32.toNatClampNeg x3)))) v7) (fun m8 => if ix x3 6 = true then (if ix (m8.1 (a0 + 21) (Int32.toNatClampNeg x3)) 6 = true then (if ix (m8.1 (a0 + 21) (Int32.toNatClampNeg x3)) 6 = true then (lt (sI m8 (a0 + 18) (Int32.toNatClampNeg (m8.1 (a0 + 21) (Int32.toNatClampNeg x3))) ((m8.1 (a0 + 18) (Int32.toNatClampNeg (m8.1 (a0 + 21) (Int32.toNatClampNeg x3)))) - v7)) (fun m9 => lt (x2 - v7) (fun v10 => lt (x3 + 1) (fun v11 => k70 a0 x1 v10 v11 m9)))) else none) else none) else none)) else none) else none) else none)) else none) else none)
set_option maxHeartbeats 4000000 in
set_option maxRecDepth 100000 in
theorem t_X9_begins_70 {l : Launch} {D : va_G} {ad : Nat → Nat} {cA : Nat → ClassId} {d : Nat} (hdp : 0 ≤ d) {o : Unit × Hp} {k49 : Nat → Int32 → Hp → Option (Unit × Hp)} (hk49 : ∀ {a0 : Nat} {x1 : Int32} (k0 : kd a0 = 9) {h : Hp}, k49 a0 x1 h = some o → J l D ad cA (fun _ => True) (rmd (d + 1)) (0, 0) (mQ D ad cA (none) o.2) cX9_begins RX9 5 (none) 49 [(0, .ref (ad a0)), (1, .int x1)] [] h) : ∀ (n : Nat) {a0 : Nat} {x1 : Int32} {x2 : Int32} {x3 : Int32} (k0 : kd a0 = 9) {h : Hp}, lp (F := Nat → Int32 → Int32 → Int32 → Hp → Option (Unit × Hp)) (fun _ _ _ _ _ => none) (f_X9_begins_70 k49) n a0 x1 x2 x3 h = some o → J l D ad cA (fun _ => True) (rmd (d + 1)) (0, 0) (mQ D ad cA (none) o.2) cX9_begins RX9 5 (none) 70 [(0, .ref (ad a0)), (1, .int x1), (2, .int x2), (3, .int x3)] [] h := by
  intro n
  induction n with
  | zero =>
    intro a0 x1 x2 x3 k0 h hf
    have hf : (none : Option (Unit × Hp)) = some o := hf
    cases hf
  | succ n hk70 =>
    intro a0 x1 x2 x3 k0 h hf
    have hf : f_X9_begins_70 k49 (lp (F := Nat → Int32 → Int32 → Int32 → Hp → Option (Unit × Hp)) (fun _ _ _ _ _ => none) (f_X9_begins_70 k49) n) a0 x1 x2 x3 h = some o := hf
    unfold f_X9_begins_70 at hf
    refine j_iload_n (pc := 70) 3 dX9_begins_70 rfl rfl ?_
    refine j_aload_n (pc := 71) 0 dX9_begins_71 rfl rfl ?_
    refine j_getI (pc := 72) dX9_begins_72 fl878 k0 (by decide) rfl ?_
    refine j_icmp_ge (pc := 75) (tgt := 145) dX9_begins_75 (by decide) hf (fun _ hf => ?_) (fun _ hf => ?_)
    · refine j_iinc (pc := 145) 1 (c := 1) (lv' := fun v6 => [(1, .int v6), (0, .ref (ad a0)), (2, .int x2), (3, .int x3)]) dX9_begins_145 rfl (by decide) (by decide) (fun _ => rfl) hf (fun v6 hf => ?_)
      refine j_goto (pc := 148) (tgt := 49) dX9_begins_148 (by decide) ?_
      refine j_sub [1, 0] rfl ?_
      exact hk49 k0 hf
    · refine j_iload_n (pc := 78) 2 dX9_begins_78 rfl rfl ?_
      refine j_aload_n (pc := 79) 0 dX9_begins_79 rfl rfl ?_
      refine j_getR (pc := 80) (n := 18) dX9_begins_80 fl872 k0 (by decide) rfl ?_
      refine j_aload_n (pc := 83) 0 dX9_begins_83 rfl rfl ?_
      refine j_getR (pc := 84) (n := 21) dX9_begins_84 fl876 k0 (by decide) rfl ?_
      refine j_iload_n (pc := 87) 3 dX9_begins_87 rfl rfl ?_
      refine j_iaload (pc := 88) dX9_begins_88 (lk_9_30 k0) (ll_9_30 k0) hf (fun _ hf => ?_)
      refine j_iaload (pc := 89) dX9_begins_89 (lk_9_26 k0) (ll_9_26 k0) hf (fun _ hf => ?_)
      refine j_mmin (pc := 90) dX9_begins_90 w_1283 w_mmin_s w_math w_mmin_c (Nat.le_of_ble_eq_true rfl) ?_
      refine j_istoreN (pc := 93) (lv' := fun v7 => [(4, .int v7), (0, .ref (ad a0)), (1, .int x1), (2, .int x2), (3, .int x3)]) dX9_begins_93 (by decide) (fun _ => rfl) hf (fun v7 hf => ?_)
      refine j_aload_n (pc := 95) 1 dX9_begins_95 rfl rfl ?_
      refine j_getR (pc := 96) (n := 23) dX9_begins_96 fl880 k0 (by decide) rfl ?_
      refine j_bipush (pc := 99) dX9_begins_99 (v := 6) (by decide) ?_
      refine j_aload_n (pc := 101) 1 dX9_begins_101 rfl rfl ?_
      refine j_getR (pc := 102) (n := 20) dX9_begins_102 fl875 k0 (by decide) rfl ?_
      refine j_iload_n (pc := 105) 2 dX9_begins_105 rfl rfl ?_
      refine j_iaload (pc := 106) dX9_begins_106 (lk_9_29 k0) (ll_9_29 k0) hf (fun _ hf => ?_)
      refine j_imul (pc := 107) dX9_begins_107  ?_
      refine j_aload_n (pc := 108) 1 dX9_begins_108 rfl rfl ?_
      refine j_getR (pc := 109) (n := 21) dX9_begins_109 fl876 k0 (by decide) rfl ?_
      refine j_iload_n (pc := 112) 4 dX9_begins_112 rfl rfl ?_
      refine j_iaload (pc := 113) dX9_begins_113 (lk_9_30 k0) (ll_9_30 k0) hf (fun _ hf => ?_)
      refine j_iadd (pc := 114) dX9_begins_114  ?_
      refine j_iload (pc := 115) 0 dX9_begins_115 rfl ?_
      refine j_iastore (pc := 117) dX9_begins_117 (lk_9_34 k0) (ll_9_34 k0) hf (fun m8 hf => ?_)
      refine j_aload_n (pc := 118) 1 dX9_begins_118 rfl rfl ?_
      refine j_getR (pc := 119) (n := 18) dX9_begins_119 fl872 k0 (by decide) rfl ?_
      refine j_aload_n (pc := 122) 1 dX9_begins_122 rfl rfl ?_
      refine j_getR (pc := 123) (n := 21) dX9_begins_123 fl876 k0 (by decide) rfl ?_
      refine j_iload_n (pc := 126) 4 dX9_begins_126 rfl rfl ?_
      refine j_iaload (pc := 127) dX9_begins_127 (lk_9_30 k0) (ll_9_30 k0) hf (fun _ hf => ?_)
      refine j_dup2 (pc := 128) dX9_begins_128 rfl rfl ?_
      refine j_iaload (pc := 129) dX9_begins_129 (lk_9_26 k0) (ll_9_26 k0) hf (fun _ hf => ?_)
      refine j_iload (pc := 130) 0 dX9_begins_130 rfl ?_
      refine j_isub (pc := 132) dX9_begins_132  ?_
      refine j_iastore (pc := 133) dX9_begins_133 (lk_9_26 k0) (ll_9_26 k0) hf (fun m9 hf => ?_)
      refine j_iload_n (pc := 134) 3 dX9_begins_134 rfl rfl ?_
      refine j_iload (pc := 135) 0 dX9_begins_135 rfl ?_
      refine j_isub (pc := 137) dX9_begins_137  ?_
      refine j_istore_nN (pc := 138) (lv' := fun v10 => [(2, .int v10), (4, .int v7), (0, .ref (ad a0)), (1, .int x1), (3, .int x3)]) dX9_begins_138 rfl (by decide) (fun _ => rfl) hf (fun v10 hf => ?_)
      refine j_iinc (pc := 139) 4 (c := 1) (lv' := fun v11 => [(3, .int v11), (2, .int v10), (4, .int v7), (0, .ref (ad a0)), (1, .int x1)]) dX9_begins_139 rfl (by decide) (by decide) (fun _ => rfl) hf (fun v11 hf => ?_)
      refine j_goto (pc := 142) (tgt := 70) dX9_begins_142 (by decide) ?_
      refine j_sub [3, 4, 1, 0] rfl ?_
      exact hk70 k0 hf
def f_X9_begins_49 (k49 : Nat → Int32 → Hp → Option (Unit × Hp)) (a0 : Nat) (x1 : Int32) (h : Hp) : Option (Unit × Hp) := if (h.1 a0 31) ≤ x1 then (some ((), h)) else (if ix x1 4 = true then ((f_X9_seatsOf a0 (h.1 (a0 + 20) (Int32.toNatClampNeg x1)) h).bind (fun q5 => lp (F := Nat → Int32 → Int32 → Int32 → Hp → Option (Unit × Hp)) (fun _ _ _ _ _ => none) (f_X9_begins_70 k49) 1000 a0 x1 q5.1 0 q5.2)) else none)
set_option maxHeartbeats 4000000 in
set_option maxRecDepth 100000 in
theorem t_X9_begins_49 {l : Launch} {D : va_G} {ad : Nat → Nat} {cA : Nat → ClassId} {d : Nat} (hdp : 0 ≤ d) {o : Unit × Hp}  : ∀ (n : Nat) {a0 : Nat} {x1 : Int32} (k0 : kd a0 = 9) {h : Hp}, lp (F := Nat → Int32 → Hp → Option (Unit × Hp)) (fun _ _ _ => none) (f_X9_begins_49) n a0 x1 h = some o → J l D ad cA (fun _ => True) (rmd (d + 1)) (0, 0) (mQ D ad cA (none) o.2) cX9_begins RX9 5 (none) 49 [(0, .ref (ad a0)), (1, .int x1)] [] h := by
  intro n
  induction n with
  | zero =>
    intro a0 x1 k0 h hf
    have hf : (none : Option (Unit × Hp)) = some o := hf
    cases hf
  | succ n hk49 =>
    intro a0 x1 k0 h hf
    have hf : f_X9_begins_49  (lp (F := Nat → Int32 → Hp → Option (Unit × Hp)) (fun _ _ _ => none) (f_X9_begins_49) n) a0 x1 h = some o := hf
    unfold f_X9_begins_49 at hf
    refine j_iload_n (pc := 49) 1 dX9_begins_49 rfl rfl ?_
    refine j_aload_n (pc := 50) 0 dX9_begins_50 rfl rfl ?_
    refine j_getI (pc := 51) dX9_begins_51 fl877 k0 (by decide) rfl ?_
    refine j_icmp_ge (pc := 54) (tgt := 151) dX9_begins_54 (by decide) hf (fun _ hf => ?_) (fun _ hf => ?_)
    · exact j_vret (pc := 151) dX9_begins_151 rfl hf
    · refine j_aload_n (pc := 57) 0 dX9_begins_57 rfl rfl ?_
      refine j_aload_n (pc := 58) 0 dX9_begins_58 rfl rfl ?_
      refine j_getR (pc := 59) (n := 20) dX9_begins_59 fl875 k0 (by decide) rfl ?_
      refine j_iload_n (pc := 62) 1 dX9_begins_62 rfl rfl ?_
      refine j_iaload (pc := 63) dX9_begins_63 (lk_9_29 k0) (ll_9_29 k0) hf (fun _ hf => ?_)
      refine j_callVi (pc := 64) (d := d) (As := [.int (h.1 (a0 + 20) (Int32.toNatClampNeg x1))]) (st := []) dX9_begins_64 s1275 k0 (by decide) rfl rfl (by decide) (Nat.le_of_ble_eq_true rfl) (fun q hq => t_X9_seatsOf k0 hq) hf (fun q5 hf => ?_)
      refine j_istore_n (pc := 67) (lv' := [(2, .int q5.1), (0, .ref (ad a0)), (1, .int x1)]) dX9_begins_67 rfl (by decide) rfl ?_
      refine j_iconst (pc := 68) dX9_begins_68 (v := 0) (by decide) ?_
      refine j_istore_n (pc := 69) (lv' := [(3, .int 0), (2, .int q5.1), (0, .ref (ad a0)), (1, .int x1)]) dX9_begins_69 rfl (by decide) rfl ?_
      refine j_sub [2, 3, 1, 0] rfl ?_
      exact t_X9_begins_70 hdp hk49 1000 k0 hf
def f_X9_begins_23 (k23 : Nat → Int32 → Hp → Option (Unit × Hp)) (a0 : Nat) (x1 : Int32) (h : Hp) : Option (Unit × Hp) := if 6 ≤ x1 then (lp (F := Nat → Int32 → Hp → Option (Unit × Hp)) (fun _ _ _ => none) (f_X9_begins_49) 1000 a0 0 h) else (if ix x1 6 = true then (if ix x1 6 = true then (lt (sI h (a0 + 18) (Int32.toNatClampNeg x1) (h.1 (a0 + 22) (Int32.toNatClampNeg x1))) (fun m3 => lt (x1 + 1) (fun v4 => k23 a0 v4 m3))) else none) else none)
set_option maxHeartbeats 4000000 in
set_option maxRecDepth 100000 in
theorem t_X9_begins_23 {l : Launch} {D : va_G} {ad : Nat → Nat} {cA : Nat → ClassId} {d : Nat} (hdp : 0 ≤ d) {o : Unit × Hp}  : ∀ (n : Nat) {a0 : Nat} {x1 : Int32} (k0 : kd a0 = 9) {h : Hp}, lp (F := Nat → Int32 → Hp → Option (Unit × Hp)) (fun _ _ _ => none) (f_X9_begins_23) n a0 x1 h = some o → J l D ad cA (fun _ => True) (rmd (d + 1)) (0, 0) (mQ D ad cA (none) o.2) cX9_begins RX9 5 (none) 23 [(0, .ref (ad a0)), (1, .int x1)] [] h := by
  intro n
  induction n with
  | zero =>
    intro a0 x1 k0 h hf
    have hf : (none : Option (Unit × Hp)) = some o := hf
    cases hf
  | succ n hk23 =>
    intro a0 x1 k0 h hf
    have hf : f_X9_begins_23  (lp (F := Nat → Int32 → Hp → Option (Unit × Hp)) (fun _ _ _ => none) (f_X9_begins_23) n) a0 x1 h = some o := hf
    unfold f_X9_begins_23 at hf
    refine j_iload_n (pc := 23) 1 dX9_begins_23 rfl rfl ?_
    refine j_bipush (pc := 24) dX9_begins_24 (v := 6) (by decide) ?_
    refine j_icmp_ge (pc := 26) (tgt := 47) dX9_begins_26 (by decide) hf (fun _ hf => ?_) (fun _ hf => ?_)
    · refine j_iconst (pc := 47) dX9_begins_47 (v := 0) (by decide) ?_
      refine j_istore_n (pc := 48) (lv' := [(1, .int 0), (0, .ref (ad a0))]) dX9_begins_48 rfl (by decide) rfl ?_
      refine j_sub [1, 0] rfl ?_
      exact t_X9_begins_49 hdp  1000 k0 hf
    · refine j_aload_n (pc := 29) 0 dX9_begins_29 rfl rfl ?_
      refine j_getR (pc := 30) (n := 18) dX9_begins_30 fl872 k0 (by decide) rfl ?_
      refine j_iload_n (pc := 33) 1 dX9_begins_33 rfl rfl ?_
      refine j_aload_n (pc := 34) 0 dX9_begins_34 rfl rfl ?_
      refine j_getR (pc := 35) (n := 22) dX9_begins_35 fl879 k0 (by decide) rfl ?_
      refine j_iload_n (pc := 38) 1 dX9_begins_38 rfl rfl ?_
      refine j_iaload (pc := 39) dX9_begins_39 (lk_9_33 k0) (ll_9_33 k0) hf (fun _ hf => ?_)
      refine j_iastore (pc := 40) dX9_begins_40 (lk_9_26 k0) (ll_9_26 k0) hf (fun m3 hf => ?_)
      refine j_iinc (pc := 41) 1 (c := 1) (lv' := fun v4 => [(1, .int v4), (0, .ref (ad a0))]) dX9_begins_41 rfl (by decide) (by decide) (fun _ => rfl) hf (fun v4 hf => ?_)
      refine j_goto (pc := 44) (tgt := 23) dX9_begins_44 (by decide) ?_
      refine j_sub [1, 0] rfl ?_
      exact hk23 k0 hf
def f_X9_begins_2 (k2 : Nat → Int32 → Hp → Option (Unit × Hp)) (a0 : Nat) (x1 : Int32) (h : Hp) : Option (Unit × Hp) := if 24 ≤ x1 then (lp (F := Nat → Int32 → Hp → Option (Unit × Hp)) (fun _ _ _ => none) (f_X9_begins_23) 1000 a0 0 h) else (if ix x1 24 = true then (lt (sI h (a0 + 23) (Int32.toNatClampNeg x1) 0) (fun m1 => lt (x1 + 1) (fun v2 => k2 a0 v2 m1))) else none)
set_option maxHeartbeats 4000000 in
set_option maxRecDepth 100000 in
theorem t_X9_begins_2 {l : Launch} {D : va_G} {ad : Nat → Nat} {cA : Nat → ClassId} {d : Nat} (hdp : 0 ≤ d) {o : Unit × Hp}  : ∀ (n : Nat) {a0 : Nat} {x1 : Int32} (k0 : kd a0 = 9) {h : Hp}, lp (F := Nat → Int32 → Hp → Option (Unit × Hp)) (fun _ _ _ => none) (f_X9_begins_2) n a0 x1 h = some o → J l D ad cA (fun _ => True) (rmd (d + 1)) (0, 0) (mQ D ad cA (none) o.2) cX9_begins RX9 5 (none) 2 [(0, .ref (ad a0)), (1, .int x1)] [] h := by
  intro n
  induction n with
  | zero =>
    intro a0 x1 k0 h hf
    have hf : (none : Option (Unit × Hp)) = some o := hf
    cases hf
  | succ n hk2 =>
    intro a0 x1 k0 h hf
    have hf : f_X9_begins_2  (lp (F := Nat → Int32 → Hp → Option (Unit × Hp)) (fun _ _ _ => none) (f_X9_begins_2) n) a0 x1 h = some o := hf
    unfold f_X9_begins_2 at hf
    refine j_iload_n (pc := 2) 1 dX9_begins_2 rfl rfl ?_
    refine j_bipush (pc := 3) dX9_begins_3 (v := 24) (by decide) ?_
    refine j_icmp_ge (pc := 5) (tgt := 21) dX9_begins_5 (by decide) hf (fun _ hf => ?_) (fun _ hf => ?_)
    · refine j_iconst (pc := 21) dX9_begins_21 (v := 0) (by decide) ?_
      refine j_istore_n (pc := 22) (lv' := [(1, .int 0), (0, .ref (ad a0))]) dX9_begins_22 rfl (by decide) rfl ?_
      refine j_sub [1, 0] rfl ?_
      exact t_X9_begins_23 hdp  1000 k0 hf
    · refine j_aload_n (pc := 8) 0 dX9_begins_8 rfl rfl ?_
      refine j_getR (pc := 9) (n := 23) dX9_begins_9 fl880 k0 (by decide) rfl ?_
      refine j_iload_n (pc := 12) 1 dX9_begins_12 rfl rfl ?_
      refine j_iconst (pc := 13) dX9_begins_13 (v := 0) (by decide) ?_
      refine j_iastore (pc := 14) dX9_begins_14 (lk_9_34 k0) (ll_9_34 k0) hf (fun m1 hf => ?_)
      refine j_iinc (pc := 15) 1 (c := 1) (lv' := fun v2 => [(1, .int v2), (0, .ref (ad a0))]) dX9_begins_15 rfl (by decide) (by decide) (fun _ => rfl) hf (fun v2 hf => ?_)
      refine j_goto (pc := 18) (tgt := 2) dX9_begins_18 (by decide) ?_
      refine j_sub [1, 0] rfl ?_
      exact hk2 k0 hf
def f_X9_begins (a0 : Nat) (h : Hp) : Option (Unit × Hp) := lp (F := Nat → Int32 → Hp → Option (Unit × Hp)) (fun _ _ _ => none) (f_X9_begins_2) 1000 a0 0 h
set_option maxHeartbeats 4000000 in
set_option maxRecDepth 100000 in
theorem t_X9_begins {l : Launch} {D : va_G} {ad : Nat → Nat} {cA : Nat → ClassId} {d : Nat} (hdp : 1 ≤ d) {a0 : Nat} (k0 : kd a0 = 9) {h : Hp} {o : Unit × Hp} (hf : f_X9_begins a0 h = some o) : Cr l D ad cA d yX9_begins cX9_begins 5 (none) [.ref (ad a0)] h (none) o.2 := by
  obtain ⟨d, rfl⟩ : ∃ e, d = e + 1 := ⟨d - 1, by omega⟩
  have hdp : 0 ≤ d := by omega
  unfold f_X9_begins at hf
  refine Cr_of (by decide +kernel) rfl (Nat.le_of_ble_eq_true rfl) (lv0 := [(0, .ref (ad a0))]) rfl ?_
  refine j_iconst (pc := 0) dX9_begins_0 (v := 0) (by decide) ?_
  refine j_istore_n (pc := 1) (lv' := [(1, .int 0), (0, .ref (ad a0))]) dX9_begins_1 rfl (by decide) rfl ?_
  refine j_sub [1, 0] rfl ?_
  exact t_X9_begins_2 hdp  1000 k0 hf
def f_X9_differs_4 (k4 : Nat → Int32 → Int32 → Hp → Option (Int32 × Hp)) (a0 : Nat) (x1 : Int32) (x2 : Int32) (h : Hp) : Option (Int32 × Hp) := if 6 ≤ x2 then (if 2 = 0 then none else (some (x1 / 2, h))) else (if ix x2 6 = true then (if ix x2 6 = true then (lt (x1 + (if 0 ≤ ((h.1 (a0 + 16) (Int32.toNatClampNeg x2)) - (h.1 (a0 + 18) (Int32.toNatClampNeg x2))) then ((h.1 (a0 + 16) (Int32.toNatClampNeg x2)) - (h.1 (a0 + 18) (Int32.toNatClampNeg x2))) else 0 - ((h.1 (a0 + 16) (Int32.toNatClampNeg x2)) - (h.1 (a0 + 18) (Int32.toNatClampNeg x2))))) (fun v1 => lt (x2 + 1) (fun v2 => k4 a0 v1 v2 h))) else none) else none)
set_option maxHeartbeats 4000000 in
set_option maxRecDepth 100000 in
theorem t_X9_differs_4 {l : Launch} {D : va_G} {ad : Nat → Nat} {cA : Nat → ClassId} {d : Nat} (hdp : 0 ≤ d) {o : Int32 × Hp}  : ∀ (n : Nat) {a0 : Nat} {x1 : Int32} {x2 : Int32} (k0 : kd a0 = 9) {h : Hp}, lp (F := Nat → Int32 → Int32 → Hp → Option (Int32 × Hp)) (fun _ _ _ _ => none) (f_X9_differs_4) n a0 x1 x2 h = some o → J l D ad cA (fun _ => True) (rmd (d + 1)) (0, 0) (mQ D ad cA (some (.int o.1)) o.2) cX9_differs RX9 3 (some .int) 4 [(0, .ref (ad a0)), (1, .int x1), (2, .int x2)] [] h := by
  intro n
  induction n with
  | zero =>
    intro a0 x1 x2 k0 h hf
    have hf : (none : Option (Int32 × Hp)) = some o := hf
    cases hf
  | succ n hk4 =>
    intro a0 x1 x2 k0 h hf
    have hf : f_X9_differs_4  (lp (F := Nat → Int32 → Int32 → Hp → Option (Int32 × Hp)) (fun _ _ _ _ => none) (f_X9_differs_4) n) a0 x1 x2 h = some o := hf
    unfold f_X9_differs_4 at hf
    refine j_iload_n (pc := 4) 2 dX9_differs_4 rfl rfl ?_
    refine j_bipush (pc := 5) dX9_differs_5 (v := 6) (by decide) ?_
    refine j_icmp_ge (pc := 7) (tgt := 35) dX9_differs_7 (by decide) hf (fun _ hf => ?_) (fun _ hf => ?_)
    · refine j_iload_n (pc := 35) 1 dX9_differs_35 rfl rfl ?_
      refine j_iconst (pc := 36) dX9_differs_36 (v := 2) (by decide) ?_
      refine j_idiv (pc := 37) dX9_differs_37 hf (fun hf => ?_)
      exact j_iret (pc := 38) dX9_differs_38 rfl hf
    · refine j_iload_n (pc := 10) 1 dX9_differs_10 rfl rfl ?_
      refine j_aload_n (pc := 11) 0 dX9_differs_11 rfl rfl ?_
      refine j_getR (pc := 12) (n := 16) dX9_differs_12 fl868 k0 (by decide) rfl ?_
      refine j_iload_n (pc := 15) 2 dX9_differs_15 rfl rfl ?_
      refine j_iaload (pc := 16) dX9_differs_16 (lk_9_22 k0) (ll_9_22 k0) hf (fun _ hf => ?_)
      refine j_aload_n (pc := 17) 0 dX9_differs_17 rfl rfl ?_
      refine j_getR (pc := 18) (n := 18) dX9_differs_18 fl872 k0 (by decide) rfl ?_
      refine j_iload_n (pc := 21) 2 dX9_differs_21 rfl rfl ?_
      refine j_iaload (pc := 22) dX9_differs_22 (lk_9_26 k0) (ll_9_26 k0) hf (fun _ hf => ?_)
      refine j_isub (pc := 23) dX9_differs_23  ?_
      refine j_mabs (pc := 24) dX9_differs_24 w_1198 w_mabs_s w_math w_mabs_c (Nat.le_of_ble_eq_true rfl) ?_
      refine j_iadd (pc := 27) dX9_differs_27  ?_
      refine j_istore_nN (pc := 28) (lv' := fun v1 => [(1, .int v1), (0, .ref (ad a0)), (2, .int x2)]) dX9_differs_28 rfl (by decide) (fun _ => rfl) hf (fun v1 hf => ?_)
      refine j_iinc (pc := 29) 2 (c := 1) (lv' := fun v2 => [(2, .int v2), (1, .int v1), (0, .ref (ad a0))]) dX9_differs_29 rfl (by decide) (by decide) (fun _ => rfl) hf (fun v2 hf => ?_)
      refine j_goto (pc := 32) (tgt := 4) dX9_differs_32 (by decide) ?_
      refine j_sub [2, 1, 0] rfl ?_
      exact hk4 k0 hf
def f_X9_differs (a0 : Nat) (h : Hp) : Option (Int32 × Hp) := lp (F := Nat → Int32 → Int32 → Hp → Option (Int32 × Hp)) (fun _ _ _ _ => none) (f_X9_differs_4) 1000 a0 0 0 h
set_option maxHeartbeats 4000000 in
set_option maxRecDepth 100000 in
theorem t_X9_differs {l : Launch} {D : va_G} {ad : Nat → Nat} {cA : Nat → ClassId} {d : Nat} (hdp : 1 ≤ d) {a0 : Nat} (k0 : kd a0 = 9) {h : Hp} {o : Int32 × Hp} (hf : f_X9_differs a0 h = some o) : Cr l D ad cA d yX9_differs cX9_differs 3 (some .int) [.ref (ad a0)] h (some (.int o.1)) o.2 := by
  obtain ⟨d, rfl⟩ : ∃ e, d = e + 1 := ⟨d - 1, by omega⟩
  have hdp : 0 ≤ d := by omega
  unfold f_X9_differs at hf
  refine Cr_of (by decide +kernel) rfl (Nat.le_of_ble_eq_true rfl) (lv0 := [(0, .ref (ad a0))]) rfl ?_
  refine j_iconst (pc := 0) dX9_differs_0 (v := 0) (by decide) ?_
  refine j_istore_n (pc := 1) (lv' := [(1, .int 0), (0, .ref (ad a0))]) dX9_differs_1 rfl (by decide) rfl ?_
  refine j_iconst (pc := 2) dX9_differs_2 (v := 0) (by decide) ?_
  refine j_istore_n (pc := 3) (lv' := [(2, .int 0), (1, .int 0), (0, .ref (ad a0))]) dX9_differs_3 rfl (by decide) rfl ?_
  refine j_sub [2, 1, 0] rfl ?_
  exact t_X9_differs_4 hdp  1000 k0 hf
def f_X9_feed (a0 : Nat) (x1 : Int32) (h : Hp) : Option (Int32 × Hp) := (f_X9_within (Int32.toInt64 x1) 1 127 h).bind (fun q1 => if q1.1 = 0 then (some ((-2), q1.2)) else (if (q1.2.1 a0 6) = 120 then (some ((-4), q1.2)) else (if ix (q1.2.1 a0 6) 120 = true then (lt (sI q1.2 (a0 + 3) (Int32.toNatClampNeg (q1.2.1 a0 6)) x1) (fun m2 => lt (sI m2 a0 6 ((m2.1 a0 6) + 1)) (fun m3 => some (m3.1 a0 6, m3)))) else none)))
set_option maxHeartbeats 4000000 in
set_option maxRecDepth 100000 in
theorem t_X9_feed {l : Launch} {D : va_G} {ad : Nat → Nat} {cA : Nat → ClassId} {d : Nat} (hdp : 1 ≤ d) {a0 : Nat} {x1 : Int32} (k0 : kd a0 = 9) {h : Hp} {o : Int32 × Hp} (hf : f_X9_feed a0 x1 h = some o) : Cr l D ad cA d yX9_feed cX9_feed 2 (some .int) [.ref (ad a0), .int x1] h (some (.int o.1)) o.2 := by
  obtain ⟨d, rfl⟩ : ∃ e, d = e + 1 := ⟨d - 1, by omega⟩
  have hdp : 0 ≤ d := by omega
  unfold f_X9_feed at hf
  refine Cr_of (by decide +kernel) rfl (Nat.le_of_ble_eq_true rfl) (lv0 := [(0, .ref (ad a0)), (1, .int x1)]) rfl ?_
  refine j_iload_n (pc := 0) 1 dX9_feed_0 rfl rfl ?_
  refine j_i2l (pc := 1) dX9_feed_1  ?_
  refine j_lconst (pc := 2) dX9_feed_2 (v := 1) rfl ?_
  refine j_ldc2_w (pc := 3) dX9_feed_3 (v := 127) w_c1047 ?_
  refine j_callSi (pc := 6) (d := d) (As := [.long (Int32.toInt64 x1), .long 1, .long 127]) (st := []) dX9_feed_6 s982 rfl rfl (by decide) (Nat.le_of_ble_eq_true rfl) (fun q hq => t_X9_within  hq) hf (fun q1 hf => ?_)
  refine j_if_ne (pc := 9) (tgt := 15) dX9_feed_9 (by decide) hf (fun _ hf => ?_) (fun _ hf => ?_)
  · refine j_aload_n (pc := 15) 0 dX9_feed_15 rfl rfl ?_
    refine j_getI (pc := 16) dX9_feed_16 fl852 k0 (by decide) rfl ?_
    refine j_bipush (pc := 19) dX9_feed_19 (v := 120) (by decide) ?_
    refine j_icmp_ne (pc := 21) (tgt := 27) dX9_feed_21 (by decide) hf (fun _ hf => ?_) (fun _ hf => ?_)
    · refine j_aload_n (pc := 27) 0 dX9_feed_27 rfl rfl ?_
      refine j_getR (pc := 28) (n := 3) dX9_feed_28 fl851 k0 (by decide) rfl ?_
      refine j_aload_n (pc := 31) 0 dX9_feed_31 rfl rfl ?_
      refine j_getI (pc := 32) dX9_feed_32 fl852 k0 (by decide) rfl ?_
      refine j_iload_n (pc := 35) 1 dX9_feed_35 rfl rfl ?_
      refine j_iastore (pc := 36) dX9_feed_36 (lk_9_5 k0) (ll_9_5 k0) hf (fun m2 hf => ?_)
      refine j_aload_n (pc := 37) 0 dX9_feed_37 rfl rfl ?_
      refine j_dup (pc := 38) dX9_feed_38 rfl ?_
      refine j_getI (pc := 39) dX9_feed_39 fl852 k0 (by decide) rfl ?_
      refine j_iconst (pc := 42) dX9_feed_42 (v := 1) (by decide) ?_
      refine j_iadd (pc := 43) dX9_feed_43  ?_
      refine j_putI (pc := 44) dX9_feed_44 fl852 fp9_6 k0 (by decide) rfl hf (fun m3 hf => ?_)
      refine j_aload_n (pc := 47) 0 dX9_feed_47 rfl rfl ?_
      refine j_getI (pc := 48) dX9_feed_48 fl852 k0 (by decide) rfl ?_
      exact j_iret (pc := 51) dX9_feed_51 rfl hf
    · refine j_bipush (pc := 24) dX9_feed_24 (v := -4) (by decide) ?_
      exact j_iret (pc := 26) dX9_feed_26 rfl hf
  · refine j_bipush (pc := 12) dX9_feed_12 (v := -2) (by decide) ?_
    exact j_iret (pc := 14) dX9_feed_14 rfl hf
def f_X9_givesByRests_226 (k187 : Nat → Int32 → Int32 → Int32 → Hp → Option (Int32 × Hp)) (a0 : Nat) (x4 : Int32) (x5 : Int32) (x6 : Int32) (h : Hp) : Option (Int32 × Hp) := (f_X9_greatestRest a0 h).bind (fun q12 => if ix q12.1 6 = true then (lt (sI q12.2 (a0 + 11) (Int32.toNatClampNeg q12.1) (vp_nar .boolean 1)) (fun m13 => if ix q12.1 6 = true then (if ix q12.1 6 = true then (lt (sI m13 (a0 + 8) (Int32.toNatClampNeg q12.1) ((m13.1 (a0 + 8) (Int32.toNatClampNeg q12.1)) + 1)) (fun m14 => lt (x6 + 1) (fun v15 => k187 a0 x4 x5 v15 m14))) else none) else none)) else none)
set_option maxHeartbeats 4000000 in
set_option maxRecDepth 100000 in
theorem t_X9_givesByRests_226 {l : Launch} {D : va_G} {ad : Nat → Nat} {cA : Nat → ClassId} {d : Nat} (hdp : 0 ≤ d) {o : Int32 × Hp} {k187 : Nat → Int32 → Int32 → Int32 → Hp → Option (Int32 × Hp)} (hk187 : ∀ {a0 : Nat} {x4 : Int32} {x5 : Int32} {x6 : Int32} (k0 : kd a0 = 9) {h : Hp}, k187 a0 x4 x5 x6 h = some o → J l D ad cA (fun _ => True) (rmd (d + 1)) (0, 0) (mQ D ad cA (some (.int o.1)) o.2) cX9_givesByRests RX9 9 (some .boolean) 187 [(0, .ref (ad a0)), (4, .int x4), (5, .int x5), (6, .int x6)] [] h) {a0 : Nat} {x4 : Int32} {x5 : Int32} {x6 : Int32} (k0 : kd a0 = 9) {h : Hp} (hf : f_X9_givesByRests_226 k187 a0 x4 x5 x6 h = some o) : J l D ad cA (fun _ => True) (rmd (d + 1)) (0, 0) (mQ D ad cA (some (.int o.1)) o.2) cX9_givesByRests RX9 9 (some .boolean) 226 [(0, .ref (ad a0)), (4, .int x4), (5, .int x5), (6, .int x6)] [] h := by
  unfold f_X9_givesByRests_226 at hf
  refine j_aload_n (pc := 226) 0 dX9_givesByRests_226 rfl rfl ?_
  refine j_callVi (pc := 227) (d := d) (As := []) (st := []) dX9_givesByRests_227 s1150 k0 (by decide) rfl rfl (by decide) (Nat.le_of_ble_eq_true rfl) (fun q hq => t_X9_greatestRest k0 hq) hf (fun q12 hf => ?_)
  refine j_istore (pc := 230) (lv' := [(7, .int q12.1), (0, .ref (ad a0)), (4, .int x4), (5, .int x5), (6, .int x6)]) dX9_givesByRests_230 (by decide) rfl ?_
  refine j_aload_n (pc := 232) 1 dX9_givesByRests_232 rfl rfl ?_
  refine j_getR (pc := 233) (n := 11) dX9_givesByRests_233 fl863 k0 (by decide) rfl ?_
  refine j_iload (pc := 236) 0 dX9_givesByRests_236 rfl ?_
  refine j_iconst (pc := 238) dX9_givesByRests_238 (v := 1) (by decide) ?_
  refine j_zastore (pc := 239) dX9_givesByRests_239 (lk_9_17 k0) (ll_9_17 k0) hf (fun m13 hf => ?_)
  refine j_aload_n (pc := 240) 1 dX9_givesByRests_240 rfl rfl ?_
  refine j_getR (pc := 241) (n := 8) dX9_givesByRests_241 fl858 k0 (by decide) rfl ?_
  refine j_iload (pc := 244) 0 dX9_givesByRests_244 rfl ?_
  refine j_dup2 (pc := 246) dX9_givesByRests_246 rfl rfl ?_
  refine j_iaload (pc := 247) dX9_givesByRests_247 (lk_9_12 k0) (ll_9_12 k0) hf (fun _ hf => ?_)
  refine j_iconst (pc := 248) dX9_givesByRests_248 (v := 1) (by decide) ?_
  refine j_iadd (pc := 249) dX9_givesByRests_249  ?_
  refine j_iastore (pc := 250) dX9_givesByRests_250 (lk_9_12 k0) (ll_9_12 k0) hf (fun m14 hf => ?_)
  refine j_iinc (pc := 251) 4 (c := 1) (lv' := fun v15 => [(6, .int v15), (7, .int q12.1), (0, .ref (ad a0)), (4, .int x4), (5, .int x5)]) dX9_givesByRests_251 rfl (by decide) (by decide) (fun _ => rfl) hf (fun v15 hf => ?_)
  refine j_goto (pc := 254) (tgt := 187) dX9_givesByRests_254 (by decide) ?_
  refine j_sub [2, 3, 4, 0] rfl ?_
  exact hk187 k0 hf
def f_X9_givesByRests_197 (k187 : Nat → Int32 → Int32 → Int32 → Hp → Option (Int32 × Hp)) (k197 : Nat → Int32 → Int32 → Int32 → Int32 → Hp → Option (Int32 × Hp)) (a0 : Nat) (x4 : Int32) (x5 : Int32) (x6 : Int32) (x7 : Int32) (h : Hp) : Option (Int32 × Hp) := if x5 = 0 then none else (if (x6 - x6 / x5 * x5) = 0 then (if 6 ≤ x7 then (f_X9_givesByRests_226 k187 a0 x4 x5 x6 h) else (if ix x7 6 = true then (lt (sI h (a0 + 11) (Int32.toNatClampNeg x7) (vp_nar .boolean 0)) (fun m10 => lt (x7 + 1) (fun v11 => k197 a0 x4 x5 x6 v11 m10))) else none)) else (f_X9_givesByRests_226 k187 a0 x4 x5 x6 h))
set_option maxHeartbeats 4000000 in
set_option maxRecDepth 100000 in
theorem t_X9_givesByRests_197 {l : Launch} {D : va_G} {ad : Nat → Nat} {cA : Nat → ClassId} {d : Nat} (hdp : 0 ≤ d) {o : Int32 × Hp} {k187 : Nat → Int32 → Int32 → Int32 → Hp → Option (Int32 × Hp)} (hk187 : ∀ {a0 : Nat} {x4 : Int32} {x5 : Int32} {x6 : Int32} (k0 : kd a0 = 9) {h : Hp}, k187 a0 x4 x5 x6 h = some o → J l D ad cA (fun _ => True) (rmd (d + 1)) (0, 0) (mQ D ad cA (some (.int o.1)) o.2) cX9_givesByRests RX9 9 (some .boolean) 187 [(0, .ref (ad a0)), (4, .int x4), (5, .int x5), (6, .int x6)] [] h) : ∀ (n : Nat) {a0 : Nat} {x4 : Int32} {x5 : Int32} {x6 : Int32} {x7 : Int32} (k0 : kd a0 = 9) {h : Hp}, lp (F := Nat → Int32 → Int32 → Int32 → Int32 → Hp → Option (Int32 × Hp)) (fun _ _ _ _ _ _ => none) (f_X9_givesByRests_197 k187) n a0 x4 x5 x6 x7 h = some o → J l D ad cA (fun _ => True) (rmd (d + 1)) (0, 0) (mQ D ad cA (some (.int o.1)) o.2) cX9_givesByRests RX9 9 (some .boolean) 197 [(0, .ref (ad a0)), (4, .int x4), (5, .int x5), (6, .int x6), (7, .int x7)] [] h := by
  intro n
  induction n with
  | zero =>
    intro a0 x4 x5 x6 x7 k0 h hf
    have hf : (none : Option (Int32 × Hp)) = some o := hf
    cases hf
  | succ n hk197 =>
    intro a0 x4 x5 x6 x7 k0 h hf
    have hf : f_X9_givesByRests_197 k187 (lp (F := Nat → Int32 → Int32 → Int32 → Int32 → Hp → Option (Int32 × Hp)) (fun _ _ _ _ _ _ => none) (f_X9_givesByRests_197 k187) n) a0 x4 x5 x6 x7 h = some o := hf
    unfold f_X9_givesByRests_197 at hf
    refine j_iload (pc := 197) 3 dX9_givesByRests_197 rfl ?_
    refine j_iload (pc := 199) 2 dX9_givesByRests_199 rfl ?_
    refine j_irem (pc := 201) dX9_givesByRests_201 hf (fun hf => ?_)
    refine j_if_ne (pc := 202) (tgt := 226) dX9_givesByRests_202 (by decide) hf (fun _ hf => ?_) (fun _ hf => ?_)
    · refine j_sub [0, 1, 2, 3] rfl ?_
      exact t_X9_givesByRests_226 hdp hk187 k0 hf
    · refine j_iload (pc := 205) 4 dX9_givesByRests_205 rfl ?_
      refine j_bipush (pc := 207) dX9_givesByRests_207 (v := 6) (by decide) ?_
      refine j_icmp_ge (pc := 209) (tgt := 226) dX9_givesByRests_209 (by decide) hf (fun _ hf => ?_) (fun _ hf => ?_)
      · refine j_sub [0, 1, 2, 3] rfl ?_
        exact t_X9_givesByRests_226 hdp hk187 k0 hf
      · refine j_aload_n (pc := 212) 0 dX9_givesByRests_212 rfl rfl ?_
        refine j_getR (pc := 213) (n := 11) dX9_givesByRests_213 fl863 k0 (by decide) rfl ?_
        refine j_iload (pc := 216) 4 dX9_givesByRests_216 rfl ?_
        refine j_iconst (pc := 218) dX9_givesByRests_218 (v := 0) (by decide) ?_
        refine j_zastore (pc := 219) dX9_givesByRests_219 (lk_9_17 k0) (ll_9_17 k0) hf (fun m10 hf => ?_)
        refine j_iinc (pc := 220) 4 (c := 1) (lv' := fun v11 => [(7, .int v11), (0, .ref (ad a0)), (4, .int x4), (5, .int x5), (6, .int x6)]) dX9_givesByRests_220 rfl (by decide) (by decide) (fun _ => rfl) hf (fun v11 hf => ?_)
        refine j_goto (pc := 223) (tgt := 197) dX9_givesByRests_223 (by decide) ?_
        refine j_sub [1, 2, 3, 4, 0] rfl ?_
        exact hk197 k0 hf
def f_X9_givesByRests_187 (k187 : Nat → Int32 → Int32 → Int32 → Hp → Option (Int32 × Hp)) (a0 : Nat) (x4 : Int32) (x5 : Int32) (x6 : Int32) (h : Hp) : Option (Int32 × Hp) := if x4 ≤ x6 then (if isB 1 = true then some (1, h) else none) else (lp (F := Nat → Int32 → Int32 → Int32 → Int32 → Hp → Option (Int32 × Hp)) (fun _ _ _ _ _ _ => none) (f_X9_givesByRests_197 k187) 1000 a0 x4 x5 x6 0 h)
set_option maxHeartbeats 4000000 in
set_option maxRecDepth 100000 in
theorem t_X9_givesByRests_187 {l : Launch} {D : va_G} {ad : Nat → Nat} {cA : Nat → ClassId} {d : Nat} (hdp : 0 ≤ d) {o : Int32 × Hp}  : ∀ (n : Nat) {a0 : Nat} {x4 : Int32} {x5 : Int32} {x6 : Int32} (k0 : kd a0 = 9) {h : Hp}, lp (F := Nat → Int32 → Int32 → Int32 → Hp → Option (Int32 × Hp)) (fun _ _ _ _ _ => none) (f_X9_givesByRests_187) n a0 x4 x5 x6 h = some o → J l D ad cA (fun _ => True) (rmd (d + 1)) (0, 0) (mQ D ad cA (some (.int o.1)) o.2) cX9_givesByRests RX9 9 (some .boolean) 187 [(0, .ref (ad a0)), (4, .int x4), (5, .int x5), (6, .int x6)] [] h := by
  intro n
  induction n with
  | zero =>
    intro a0 x4 x5 x6 k0 h hf
    have hf : (none : Option (Int32 × Hp)) = some o := hf
    cases hf
  | succ n hk187 =>
    intro a0 x4 x5 x6 k0 h hf
    have hf : f_X9_givesByRests_187  (lp (F := Nat → Int32 → Int32 → Int32 → Hp → Option (Int32 × Hp)) (fun _ _ _ _ _ => none) (f_X9_givesByRests_187) n) a0 x4 x5 x6 h = some o := hf
    unfold f_X9_givesByRests_187 at hf
    refine j_iload (pc := 187) 3 dX9_givesByRests_187 rfl ?_
    refine j_iload (pc := 189) 1 dX9_givesByRests_189 rfl ?_
    refine j_icmp_ge (pc := 191) (tgt := 257) dX9_givesByRests_191 (by decide) hf (fun _ hf => ?_) (fun _ hf => ?_)
    · refine j_iconst (pc := 257) dX9_givesByRests_257 (v := 1) (by decide) ?_
      exact j_zret (pc := 258) dX9_givesByRests_258 rfl hf
    · refine j_iconst (pc := 194) dX9_givesByRests_194 (v := 0) (by decide) ?_
      refine j_istore (pc := 195) (lv' := [(7, .int 0), (0, .ref (ad a0)), (4, .int x4), (5, .int x5), (6, .int x6)]) dX9_givesByRests_195 (by decide) rfl ?_
      refine j_sub [1, 2, 3, 4, 0] rfl ?_
      exact t_X9_givesByRests_197 hdp hk187 1000 k0 hf
def f_X9_givesByRests_184  (a0 : Nat) (x4 : Int32) (x5 : Int32) (h : Hp) : Option (Int32 × Hp) := lp (F := Nat → Int32 → Int32 → Int32 → Hp → Option (Int32 × Hp)) (fun _ _ _ _ _ => none) (f_X9_givesByRests_187) 1000 a0 x4 x5 0 h
set_option maxHeartbeats 4000000 in
set_option maxRecDepth 100000 in
theorem t_X9_givesByRests_184 {l : Launch} {D : va_G} {ad : Nat → Nat} {cA : Nat → ClassId} {d : Nat} (hdp : 0 ≤ d) {o : Int32 × Hp}  {a0 : Nat} {x4 : Int32} {x5 : Int32} (k0 : kd a0 = 9) {h : Hp} (hf : f_X9_givesByRests_184  a0 x4 x5 h = some o) : J l D ad cA (fun _ => True) (rmd (d + 1)) (0, 0) (mQ D ad cA (some (.int o.1)) o.2) cX9_givesByRests RX9 9 (some .boolean) 184 [(0, .ref (ad a0)), (4, .int x4), (5, .int x5)] [] h := by
  unfold f_X9_givesByRests_184 at hf
  refine j_iconst (pc := 184) dX9_givesByRests_184 (v := 0) (by decide) ?_
  refine j_istore (pc := 185) (lv' := [(6, .int 0), (0, .ref (ad a0)), (4, .int x4), (5, .int x5)]) dX9_givesByRests_185 (by decide) rfl ?_
  refine j_sub [1, 2, 3, 0] rfl ?_
  exact t_X9_givesByRests_187 hdp  1000 k0 hf
def f_X9_givesByRests_161 (k38 : Nat → Int32 → Int64 → Int32 → Int32 → Int32 → Hp → Option (Int32 × Hp)) (a0 : Nat) (x1 : Int32) (x2 : Int64) (x4 : Int32) (x5 : Int32) (x6 : Int32) (h : Hp) : Option (Int32 × Hp) := lt (x6 + 1) (fun v16 => k38 a0 x1 x2 x4 x5 v16 h)
set_option maxHeartbeats 4000000 in
set_option maxRecDepth 100000 in
theorem t_X9_givesByRests_161 {l : Launch} {D : va_G} {ad : Nat → Nat} {cA : Nat → ClassId} {d : Nat} (hdp : 0 ≤ d) {o : Int32 × Hp} {k38 : Nat → Int32 → Int64 → Int32 → Int32 → Int32 → Hp → Option (Int32 × Hp)} (hk38 : ∀ {a0 : Nat} {x1 : Int32} {x2 : Int64} {x4 : Int32} {x5 : Int32} {x6 : Int32} (k0 : kd a0 = 9) {h : Hp}, k38 a0 x1 x2 x4 x5 x6 h = some o → J l D ad cA (fun _ => True) (rmd (d + 1)) (0, 0) (mQ D ad cA (some (.int o.1)) o.2) cX9_givesByRests RX9 9 (some .boolean) 38 [(0, .ref (ad a0)), (1, .int x1), (2, .long x2), (4, .int x4), (5, .int x5), (6, .int x6)] [] h) {a0 : Nat} {x1 : Int32} {x2 : Int64} {x4 : Int32} {x5 : Int32} {x6 : Int32} (k0 : kd a0 = 9) {h : Hp} (hf : f_X9_givesByRests_161 k38 a0 x1 x2 x4 x5 x6 h = some o) : J l D ad cA (fun _ => True) (rmd (d + 1)) (0, 0) (mQ D ad cA (some (.int o.1)) o.2) cX9_givesByRests RX9 9 (some .boolean) 161 [(0, .ref (ad a0)), (1, .int x1), (2, .long x2), (4, .int x4), (5, .int x5), (6, .int x6)] [] h := by
  unfold f_X9_givesByRests_161 at hf
  refine j_iinc (pc := 161) 5 (c := 1) (lv' := fun v16 => [(6, .int v16), (0, .ref (ad a0)), (1, .int x1), (2, .long x2), (4, .int x4), (5, .int x5)]) dX9_givesByRests_161 rfl (by decide) (by decide) (fun _ => rfl) hf (fun v16 hf => ?_)
  refine j_goto (pc := 164) (tgt := 38) dX9_givesByRests_164 (by decide) ?_
  refine j_sub [1, 2, 3, 4, 5, 0] rfl ?_
  exact hk38 k0 hf
def f_X9_givesByRests_38 (k38 : Nat → Int32 → Int64 → Int32 → Int32 → Int32 → Hp → Option (Int32 × Hp)) (a0 : Nat) (x1 : Int32) (x2 : Int64) (x4 : Int32) (x5 : Int32) (x6 : Int32) (h : Hp) : Option (Int32 × Hp) := if 6 ≤ x6 then (if x4 < 0 then (if isB 0 = true then some (0, h) else none) else (if x4 ≤ 0 then (f_X9_givesByRests_184  a0 x4 x5 h) else (if x5 = 0 then (if isB 0 = true then some (0, h) else none) else (f_X9_givesByRests_184  a0 x4 x5 h)))) else (if ix x6 6 = true then (lt (sI h (a0 + 8) (Int32.toNatClampNeg x6) 0) (fun m3 => if ix x6 6 = true then (lt (sL m3 (a0 + 10) (Int32.toNatClampNeg x6) ((-1))) (fun m4 => if ix x6 6 = true then (if (m4.1 (a0 + 5) (Int32.toNatClampNeg x6)) = 0 then (f_X9_givesByRests_161 k38 a0 x1 x2 x4 x5 x6 m4) else (if ix x6 6 = true then (if x2 = 0 then none else (lt (((Int32.toInt64 (m4.1 (a0 + 6) (Int32.toNatClampNeg x6))) * (Int32.toInt64 x1)) / x2) (fun v5 => if ix x6 6 = true then (if ix x6 6 = true then (lt (sI m4 (a0 + 8) (Int32.toNatClampNeg x6) (Int64.toInt32 (if (Int32.toInt64 (m4.1 (a0 + 7) (Int32.toNatClampNeg x6))) < v5 then v5 else (Int32.toInt64 (m4.1 (a0 + 7) (Int32.toNatClampNeg x6)))))) (fun m6 => if ix x6 6 = true then (lt (x4 - (m6.1 (a0 + 8) (Int32.toNatClampNeg x6))) (fun v7 => if ix x6 6 = true then (if 0 < (lg_cmp (Int32.toInt64 (m6.1 (a0 + 7) (Int32.toNatClampNeg x6))) v5) then (f_X9_givesByRests_161 k38 a0 x1 x2 v7 x5 x6 m6) else (if ix x6 6 = true then (if x2 = 0 then none else (if ix x6 6 = true then (lt (sL m6 (a0 + 10) (Int32.toNatClampNeg x6) (((Int32.toInt64 (m6.1 (a0 + 6) (Int32.toNatClampNeg x6))) * (Int32.toInt64 x1)) - ((Int32.toInt64 (m6.1 (a0 + 6) (Int32.toNatClampNeg x6))) * (Int32.toInt64 x1)) / x2 * x2)) (fun m8 => lt (x5 + 1) (fun v9 => f_X9_givesByRests_161 k38 a0 x1 x2 v7 v9 x6 m8))) else none)) else none)) else none)) else none)) else none) else none))) else none)) else none)) else none)) else none)
set_option maxHeartbeats 4000000 in
set_option maxRecDepth 100000 in
theorem t_X9_givesByRests_38 {l : Launch} {D : va_G} {ad : Nat → Nat} {cA : Nat → ClassId} {d : Nat} (hdp : 0 ≤ d) {o : Int32 × Hp}  : ∀ (n : Nat) {a0 : Nat} {x1 : Int32} {x2 : Int64} {x4 : Int32} {x5 : Int32} {x6 : Int32} (k0 : kd a0 = 9) {h : Hp}, lp (F := Nat → Int32 → Int64 → Int32 → Int32 → Int32 → Hp → Option (Int32 × Hp)) (fun _ _ _ _ _ _ _ => none) (f_X9_givesByRests_38) n a0 x1 x2 x4 x5 x6 h = some o → J l D ad cA (fun _ => True) (rmd (d + 1)) (0, 0) (mQ D ad cA (some (.int o.1)) o.2) cX9_givesByRests RX9 9 (some .boolean) 38 [(0, .ref (ad a0)), (1, .int x1), (2, .long x2), (4, .int x4), (5, .int x5), (6, .int x6)] [] h := by
  intro n
  induction n with
  | zero =>
    intro a0 x1 x2 x4 x5 x6 k0 h hf
    have hf : (none : Option (Int32 × Hp)) = some o := hf
    cases hf
  | succ n hk38 =>
    intro a0 x1 x2 x4 x5 x6 k0 h hf
    have hf : f_X9_givesByRests_38  (lp (F := Nat → Int32 → Int64 → Int32 → Int32 → Int32 → Hp → Option (Int32 × Hp)) (fun _ _ _ _ _ _ _ => none) (f_X9_givesByRests_38) n) a0 x1 x2 x4 x5 x6 h = some o := hf
    unfold f_X9_givesByRests_38 at hf
    refine j_iload (pc := 38) 5 dX9_givesByRests_38 rfl ?_
    refine j_bipush (pc := 40) dX9_givesByRests_40 (v := 6) (by decide) ?_
    refine j_icmp_ge (pc := 42) (tgt := 167) dX9_givesByRests_42 (by decide) hf (fun _ hf => ?_) (fun _ hf => ?_)
    · refine j_iload (pc := 167) 3 dX9_givesByRests_167 rfl ?_
      refine j_if_lt (pc := 169) (tgt := 182) dX9_givesByRests_169 (by decide) hf (fun _ hf => ?_) (fun _ hf => ?_)
      · refine j_iconst (pc := 182) dX9_givesByRests_182 (v := 0) (by decide) ?_
        exact j_zret (pc := 183) dX9_givesByRests_183 rfl hf
      · refine j_iload (pc := 172) 3 dX9_givesByRests_172 rfl ?_
        refine j_if_le (pc := 174) (tgt := 184) dX9_givesByRests_174 (by decide) hf (fun _ hf => ?_) (fun _ hf => ?_)
        · refine j_sub [0, 3, 4] rfl ?_
          exact t_X9_givesByRests_184 hdp  k0 hf
        · refine j_iload (pc := 177) 4 dX9_givesByRests_177 rfl ?_
          refine j_if_ne (pc := 179) (tgt := 184) dX9_givesByRests_179 (by decide) hf (fun _ hf => ?_) (fun _ hf => ?_)
          · refine j_sub [0, 3, 4] rfl ?_
            exact t_X9_givesByRests_184 hdp  k0 hf
          · refine j_iconst (pc := 182) dX9_givesByRests_182 (v := 0) (by decide) ?_
            exact j_zret (pc := 183) dX9_givesByRests_183 rfl hf
    · refine j_aload_n (pc := 45) 0 dX9_givesByRests_45 rfl rfl ?_
      refine j_getR (pc := 46) (n := 8) dX9_givesByRests_46 fl858 k0 (by decide) rfl ?_
      refine j_iload (pc := 49) 5 dX9_givesByRests_49 rfl ?_
      refine j_iconst (pc := 51) dX9_givesByRests_51 (v := 0) (by decide) ?_
      refine j_iastore (pc := 52) dX9_givesByRests_52 (lk_9_12 k0) (ll_9_12 k0) hf (fun m3 hf => ?_)
      refine j_aload_n (pc := 53) 0 dX9_givesByRests_53 rfl rfl ?_
      refine j_getR (pc := 54) (n := 10) dX9_givesByRests_54 fl862 k0 (by decide) rfl ?_
      refine j_iload (pc := 57) 5 dX9_givesByRests_57 rfl ?_
      refine j_ldc2_w (pc := 59) dX9_givesByRests_59 (v := -1) w_c1146 ?_
      refine j_lastore (pc := 62) dX9_givesByRests_62 (lk_9_16 k0) (ll_9_16 k0) hf (fun m4 hf => ?_)
      refine j_aload_n (pc := 63) 0 dX9_givesByRests_63 rfl rfl ?_
      refine j_getR (pc := 64) (n := 5) dX9_givesByRests_64 fl855 k0 (by decide) rfl ?_
      refine j_iload (pc := 67) 5 dX9_givesByRests_67 rfl ?_
      refine j_zaload (pc := 69) dX9_givesByRests_69 (lk_9_9 k0) (ll_9_9 k0) hf (fun _ hf => ?_)
      refine j_if_ne (pc := 70) (tgt := 76) dX9_givesByRests_70 (by decide) hf (fun _ hf => ?_) (fun _ hf => ?_)
      · refine j_aload_n (pc := 76) 0 dX9_givesByRests_76 rfl rfl ?_
        refine j_getR (pc := 77) (n := 6) dX9_givesByRests_77 fl856 k0 (by decide) rfl ?_
        refine j_iload (pc := 80) 5 dX9_givesByRests_80 rfl ?_
        refine j_iaload (pc := 82) dX9_givesByRests_82 (lk_9_10 k0) (ll_9_10 k0) hf (fun _ hf => ?_)
        refine j_i2l (pc := 83) dX9_givesByRests_83  ?_
        refine j_iload_n (pc := 84) 1 dX9_givesByRests_84 rfl rfl ?_
        refine j_i2l (pc := 85) dX9_givesByRests_85  ?_
        refine j_lmul (pc := 86) dX9_givesByRests_86  ?_
        refine j_lload_n (pc := 87) 2 dX9_givesByRests_87 rfl rfl ?_
        refine j_ldiv (pc := 88) dX9_givesByRests_88 hf (fun hf => ?_)
        refine j_lstoreN (pc := 89) (lv' := fun v5 => [(7, .long v5), (0, .ref (ad a0)), (1, .int x1), (2, .long x2), (4, .int x4), (5, .int x5), (6, .int x6)]) dX9_givesByRests_89 (by decide) (fun _ => rfl) hf (fun v5 hf => ?_)
        refine j_aload_n (pc := 91) 1 dX9_givesByRests_91 rfl rfl ?_
        refine j_getR (pc := 92) (n := 8) dX9_givesByRests_92 fl858 k0 (by decide) rfl ?_
        refine j_iload (pc := 95) 6 dX9_givesByRests_95 rfl ?_
        refine j_lload (pc := 97) 0 dX9_givesByRests_97 rfl ?_
        refine j_aload_n (pc := 99) 1 dX9_givesByRests_99 rfl rfl ?_
        refine j_getR (pc := 100) (n := 7) dX9_givesByRests_100 fl857 k0 (by decide) rfl ?_
        refine j_iload (pc := 103) 6 dX9_givesByRests_103 rfl ?_
        refine j_iaload (pc := 105) dX9_givesByRests_105 (lk_9_11 k0) (ll_9_11 k0) hf (fun _ hf => ?_)
        refine j_i2l (pc := 106) dX9_givesByRests_106  ?_
        refine j_mmaxl (pc := 107) dX9_givesByRests_107 w_1147 w_mmaxl_s w_math w_mmaxl_c (Nat.le_of_ble_eq_true rfl) ?_
        refine j_l2i (pc := 110) dX9_givesByRests_110  ?_
        refine j_iastore (pc := 111) dX9_givesByRests_111 (lk_9_12 k0) (ll_9_12 k0) hf (fun m6 hf => ?_)
        refine j_iload (pc := 112) 4 dX9_givesByRests_112 rfl ?_
        refine j_aload_n (pc := 114) 1 dX9_givesByRests_114 rfl rfl ?_
        refine j_getR (pc := 115) (n := 8) dX9_givesByRests_115 fl858 k0 (by decide) rfl ?_
        refine j_iload (pc := 118) 6 dX9_givesByRests_118 rfl ?_
        refine j_iaload (pc := 120) dX9_givesByRests_120 (lk_9_12 k0) (ll_9_12 k0) hf (fun _ hf => ?_)
        refine j_isub (pc := 121) dX9_givesByRests_121  ?_
        refine j_istoreN (pc := 122) (lv' := fun v7 => [(4, .int v7), (7, .long v5), (0, .ref (ad a0)), (1, .int x1), (2, .long x2), (5, .int x5), (6, .int x6)]) dX9_givesByRests_122 (by decide) (fun _ => rfl) hf (fun v7 hf => ?_)
        refine j_aload_n (pc := 124) 2 dX9_givesByRests_124 rfl rfl ?_
        refine j_getR (pc := 125) (n := 7) dX9_givesByRests_125 fl857 k0 (by decide) rfl ?_
        refine j_iload (pc := 128) 6 dX9_givesByRests_128 rfl ?_
        refine j_iaload (pc := 130) dX9_givesByRests_130 (lk_9_11 k0) (ll_9_11 k0) hf (fun _ hf => ?_)
        refine j_i2l (pc := 131) dX9_givesByRests_131  ?_
        refine j_lload (pc := 132) 1 dX9_givesByRests_132 rfl ?_
        refine j_lcmp (pc := 134) dX9_givesByRests_134  ?_
        refine j_if_gt (pc := 135) (tgt := 161) dX9_givesByRests_135 (by decide) hf (fun _ hf => ?_) (fun _ hf => ?_)
        · refine j_sub [2, 3, 4, 0, 5, 6] rfl ?_
          exact t_X9_givesByRests_161 hdp hk38 k0 hf
        · refine j_aload_n (pc := 138) 2 dX9_givesByRests_138 rfl rfl ?_
          refine j_getR (pc := 139) (n := 10) dX9_givesByRests_139 fl862 k0 (by decide) rfl ?_
          refine j_iload (pc := 142) 6 dX9_givesByRests_142 rfl ?_
          refine j_aload_n (pc := 144) 2 dX9_givesByRests_144 rfl rfl ?_
          refine j_getR (pc := 145) (n := 6) dX9_givesByRests_145 fl856 k0 (by decide) rfl ?_
          refine j_iload (pc := 148) 6 dX9_givesByRests_148 rfl ?_
          refine j_iaload (pc := 150) dX9_givesByRests_150 (lk_9_10 k0) (ll_9_10 k0) hf (fun _ hf => ?_)
          refine j_i2l (pc := 151) dX9_givesByRests_151  ?_
          refine j_iload_n (pc := 152) 3 dX9_givesByRests_152 rfl rfl ?_
          refine j_i2l (pc := 153) dX9_givesByRests_153  ?_
          refine j_lmul (pc := 154) dX9_givesByRests_154  ?_
          refine j_lload_n (pc := 155) 4 dX9_givesByRests_155 rfl rfl ?_
          refine j_lrem (pc := 156) dX9_givesByRests_156 hf (fun hf => ?_)
          refine j_lastore (pc := 157) dX9_givesByRests_157 (lk_9_16 k0) (ll_9_16 k0) hf (fun m8 hf => ?_)
          refine j_iinc (pc := 158) 5 (c := 1) (lv' := fun v9 => [(5, .int v9), (4, .int v7), (7, .long v5), (0, .ref (ad a0)), (1, .int x1), (2, .long x2), (6, .int x6)]) dX9_givesByRests_158 rfl (by decide) (by decide) (fun _ => rfl) hf (fun v9 hf => ?_)
          refine j_sub [3, 4, 5, 1, 0, 6] rfl ?_
          exact t_X9_givesByRests_161 hdp hk38 k0 hf
      · refine j_goto (pc := 73) (tgt := 161) dX9_givesByRests_73 (by decide) ?_
        refine j_sub [0, 1, 2, 3, 4, 5] rfl ?_
        exact t_X9_givesByRests_161 hdp hk38 k0 hf
def f_X9_givesByRests_5 (k5 : Nat → Int32 → Int64 → Int32 → Hp → Option (Int32 × Hp)) (a0 : Nat) (x1 : Int32) (x2 : Int64) (x4 : Int32) (h : Hp) : Option (Int32 × Hp) := if 6 ≤ x4 then (lp (F := Nat → Int32 → Int64 → Int32 → Int32 → Int32 → Hp → Option (Int32 × Hp)) (fun _ _ _ _ _ _ _ => none) (f_X9_givesByRests_38) 1000 a0 x1 x2 x1 0 0 h) else (if ix x4 6 = true then (lt (x2 + (Int32.toInt64 (h.1 (a0 + 6) (Int32.toNatClampNeg x4)))) (fun v1 => lt (x4 + 1) (fun v2 => k5 a0 x1 v1 v2 h))) else none)
set_option maxHeartbeats 4000000 in
set_option maxRecDepth 100000 in
theorem t_X9_givesByRests_5 {l : Launch} {D : va_G} {ad : Nat → Nat} {cA : Nat → ClassId} {d : Nat} (hdp : 0 ≤ d) {o : Int32 × Hp}  : ∀ (n : Nat) {a0 : Nat} {x1 : Int32} {x2 : Int64} {x4 : Int32} (k0 : kd a0 = 9) {h : Hp}, lp (F := Nat → Int32 → Int64 → Int32 → Hp → Option (Int32 × Hp)) (fun _ _ _ _ _ => none) (f_X9_givesByRests_5) n a0 x1 x2 x4 h = some o → J l D ad cA (fun _ => True) (rmd (d + 1)) (0, 0) (mQ D ad cA (some (.int o.1)) o.2) cX9_givesByRests RX9 9 (some .boolean) 5 [(0, .ref (ad a0)), (1, .int x1), (2, .long x2), (4, .int x4)] [] h := by
  intro n
  induction n with
  | zero =>
    intro a0 x1 x2 x4 k0 h hf
    have hf : (none : Option (Int32 × Hp)) = some o := hf
    cases hf
  | succ n hk5 =>
    intro a0 x1 x2 x4 k0 h hf
    have hf : f_X9_givesByRests_5  (lp (F := Nat → Int32 → Int64 → Int32 → Hp → Option (Int32 × Hp)) (fun _ _ _ _ _ => none) (f_X9_givesByRests_5) n) a0 x1 x2 x4 h = some o := hf
    unfold f_X9_givesByRests_5 at hf
    refine j_iload (pc := 5) 3 dX9_givesByRests_5 rfl ?_
    refine j_bipush (pc := 7) dX9_givesByRests_7 (v := 6) (by decide) ?_
    refine j_icmp_ge (pc := 9) (tgt := 29) dX9_givesByRests_9 (by decide) hf (fun _ hf => ?_) (fun _ hf => ?_)
    · refine j_iload_n (pc := 29) 1 dX9_givesByRests_29 rfl rfl ?_
      refine j_istore (pc := 30) (lv' := [(4, .int x1), (0, .ref (ad a0)), (1, .int x1), (2, .long x2)]) dX9_givesByRests_30 (by decide) rfl ?_
      refine j_iconst (pc := 32) dX9_givesByRests_32 (v := 0) (by decide) ?_
      refine j_istore (pc := 33) (lv' := [(5, .int 0), (4, .int x1), (0, .ref (ad a0)), (1, .int x1), (2, .long x2)]) dX9_givesByRests_33 (by decide) rfl ?_
      refine j_iconst (pc := 35) dX9_givesByRests_35 (v := 0) (by decide) ?_
      refine j_istore (pc := 36) (lv' := [(6, .int 0), (5, .int 0), (4, .int x1), (0, .ref (ad a0)), (1, .int x1), (2, .long x2)]) dX9_givesByRests_36 (by decide) rfl ?_
      refine j_sub [3, 4, 5, 2, 1, 0] rfl ?_
      exact t_X9_givesByRests_38 hdp  1000 k0 hf
    · refine j_lload_n (pc := 12) 2 dX9_givesByRests_12 rfl rfl ?_
      refine j_aload_n (pc := 13) 0 dX9_givesByRests_13 rfl rfl ?_
      refine j_getR (pc := 14) (n := 6) dX9_givesByRests_14 fl856 k0 (by decide) rfl ?_
      refine j_iload (pc := 17) 3 dX9_givesByRests_17 rfl ?_
      refine j_iaload (pc := 19) dX9_givesByRests_19 (lk_9_10 k0) (ll_9_10 k0) hf (fun _ hf => ?_)
      refine j_i2l (pc := 20) dX9_givesByRests_20  ?_
      refine j_ladd (pc := 21) dX9_givesByRests_21  ?_
      refine j_lstore_nN (pc := 22) (lv' := fun v1 => [(2, .long v1), (0, .ref (ad a0)), (1, .int x1), (4, .int x4)]) dX9_givesByRests_22 rfl (by decide) (fun _ => rfl) hf (fun v1 hf => ?_)
      refine j_iinc (pc := 23) 3 (c := 1) (lv' := fun v2 => [(4, .int v2), (2, .long v1), (0, .ref (ad a0)), (1, .int x1)]) dX9_givesByRests_23 rfl (by decide) (by decide) (fun _ => rfl) hf (fun v2 hf => ?_)
      refine j_goto (pc := 26) (tgt := 5) dX9_givesByRests_26 (by decide) ?_
      refine j_sub [2, 3, 1, 0] rfl ?_
      exact hk5 k0 hf
def f_X9_givesByRests (a0 : Nat) (x1 : Int32) (h : Hp) : Option (Int32 × Hp) := lp (F := Nat → Int32 → Int64 → Int32 → Hp → Option (Int32 × Hp)) (fun _ _ _ _ _ => none) (f_X9_givesByRests_5) 1000 a0 x1 0 0 h
set_option maxHeartbeats 4000000 in
set_option maxRecDepth 100000 in
theorem t_X9_givesByRests {l : Launch} {D : va_G} {ad : Nat → Nat} {cA : Nat → ClassId} {d : Nat} (hdp : 1 ≤ d) {a0 : Nat} {x1 : Int32} (k0 : kd a0 = 9) {h : Hp} {o : Int32 × Hp} (hf : f_X9_givesByRests a0 x1 h = some o) : Cr l D ad cA d yX9_givesByRests cX9_givesByRests 9 (some .boolean) [.ref (ad a0), .int x1] h (some (.int o.1)) o.2 := by
  obtain ⟨d, rfl⟩ : ∃ e, d = e + 1 := ⟨d - 1, by omega⟩
  have hdp : 0 ≤ d := by omega
  unfold f_X9_givesByRests at hf
  refine Cr_of (by decide +kernel) rfl (Nat.le_of_ble_eq_true rfl) (lv0 := [(0, .ref (ad a0)), (1, .int x1)]) rfl ?_
  refine j_lconst (pc := 0) dX9_givesByRests_0 (v := 0) rfl ?_
  refine j_lstore_n (pc := 1) (lv' := [(2, .long 0), (0, .ref (ad a0)), (1, .int x1)]) dX9_givesByRests_1 rfl (by decide) rfl ?_
  refine j_iconst (pc := 2) dX9_givesByRests_2 (v := 0) (by decide) ?_
  refine j_istore (pc := 3) (lv' := [(4, .int 0), (2, .long 0), (0, .ref (ad a0)), (1, .int x1)]) dX9_givesByRests_3 (by decide) rfl ?_
  refine j_sub [2, 3, 1, 0] rfl ?_
  exact t_X9_givesByRests_5 hdp  1000 k0 hf
def f_X9_isFigure (a0 : Nat) (h : Hp) : Option (Int32 × Hp) := if (h.1 a0 6) ≤ (h.1 a0 7) then (if isB 0 = true then some (0, h) else none) else (if ix (h.1 a0 7) 120 = true then ((f_X9_within (Int32.toInt64 (h.1 (a0 + 3) (Int32.toNatClampNeg (h.1 a0 7)))) 48 57 h).bind (fun q1 => if q1.1 = 0 then (if isB 0 = true then some (0, q1.2) else none) else (if isB 1 = true then some (1, q1.2) else none))) else none)
set_option maxHeartbeats 4000000 in
set_option maxRecDepth 100000 in
theorem t_X9_isFigure {l : Launch} {D : va_G} {ad : Nat → Nat} {cA : Nat → ClassId} {d : Nat} (hdp : 1 ≤ d) {a0 : Nat} (k0 : kd a0 = 9) {h : Hp} {o : Int32 × Hp} (hf : f_X9_isFigure a0 h = some o) : Cr l D ad cA d yX9_isFigure cX9_isFigure 1 (some .boolean) [.ref (ad a0)] h (some (.int o.1)) o.2 := by
  obtain ⟨d, rfl⟩ : ∃ e, d = e + 1 := ⟨d - 1, by omega⟩
  have hdp : 0 ≤ d := by omega
  unfold f_X9_isFigure at hf
  refine Cr_of (by decide +kernel) rfl (Nat.le_of_ble_eq_true rfl) (lv0 := [(0, .ref (ad a0))]) rfl ?_
  refine j_aload_n (pc := 0) 0 dX9_isFigure_0 rfl rfl ?_
  refine j_getI (pc := 1) dX9_isFigure_1 fl853 k0 (by decide) rfl ?_
  refine j_aload_n (pc := 4) 0 dX9_isFigure_4 rfl rfl ?_
  refine j_getI (pc := 5) dX9_isFigure_5 fl852 k0 (by decide) rfl ?_
  refine j_icmp_ge (pc := 8) (tgt := 37) dX9_isFigure_8 (by decide) hf (fun _ hf => ?_) (fun _ hf => ?_)
  · refine j_iconst (pc := 37) dX9_isFigure_37 (v := 0) (by decide) ?_
    exact j_zret (pc := 38) dX9_isFigure_38 rfl hf
  · refine j_aload_n (pc := 11) 0 dX9_isFigure_11 rfl rfl ?_
    refine j_getR (pc := 12) (n := 3) dX9_isFigure_12 fl851 k0 (by decide) rfl ?_
    refine j_aload_n (pc := 15) 0 dX9_isFigure_15 rfl rfl ?_
    refine j_getI (pc := 16) dX9_isFigure_16 fl853 k0 (by decide) rfl ?_
    refine j_iaload (pc := 19) dX9_isFigure_19 (lk_9_5 k0) (ll_9_5 k0) hf (fun _ hf => ?_)
    refine j_i2l (pc := 20) dX9_isFigure_20  ?_
    refine j_ldc2_w (pc := 21) dX9_isFigure_21 (v := 48) w_c1068 ?_
    refine j_ldc2_w (pc := 24) dX9_isFigure_24 (v := 57) w_c1069 ?_
    refine j_callSi (pc := 27) (d := d) (As := [.long (Int32.toInt64 (h.1 (a0 + 3) (Int32.toNatClampNeg (h.1 a0 7)))), .long 48, .long 57]) (st := []) dX9_isFigure_27 s982 rfl rfl (by decide) (Nat.le_of_ble_eq_true rfl) (fun q hq => t_X9_within  hq) hf (fun q1 hf => ?_)
    refine j_if_eq (pc := 30) (tgt := 37) dX9_isFigure_30 (by decide) hf (fun _ hf => ?_) (fun _ hf => ?_)
    · refine j_iconst (pc := 37) dX9_isFigure_37 (v := 0) (by decide) ?_
      exact j_zret (pc := 38) dX9_isFigure_38 rfl hf
    · refine j_iconst (pc := 33) dX9_isFigure_33 (v := 1) (by decide) ?_
      refine j_goto (pc := 34) (tgt := 38) dX9_isFigure_34 (by decide) ?_
      exact j_zret (pc := 38) dX9_isFigure_38 rfl hf
def f_X9_isHouse (x0 : Int32) (h : Hp) : Option (Int32 × Hp) := (f_X9_within (Int32.toInt64 x0) 0 60 h).bind (fun q1 => if isB q1.1 = true then some (q1.1, q1.2) else none)
set_option maxHeartbeats 4000000 in
set_option maxRecDepth 100000 in
theorem t_X9_isHouse {l : Launch} {D : va_G} {ad : Nat → Nat} {cA : Nat → ClassId} {d : Nat} (hdp : 1 ≤ d) {x0 : Int32}  {h : Hp} {o : Int32 × Hp} (hf : f_X9_isHouse x0 h = some o) : Cr l D ad cA d yX9_isHouse cX9_isHouse 1 (some .boolean) [.int x0] h (some (.int o.1)) o.2 := by
  obtain ⟨d, rfl⟩ : ∃ e, d = e + 1 := ⟨d - 1, by omega⟩
  have hdp : 0 ≤ d := by omega
  unfold f_X9_isHouse at hf
  refine Cr_of (by decide +kernel) rfl (Nat.le_of_ble_eq_true rfl) (lv0 := [(0, .int x0)]) rfl ?_
  refine j_iload_n (pc := 0) 0 dX9_isHouse_0 rfl rfl ?_
  refine j_i2l (pc := 1) dX9_isHouse_1  ?_
  refine j_lconst (pc := 2) dX9_isHouse_2 (v := 0) rfl ?_
  refine j_ldc2_w (pc := 3) dX9_isHouse_3 (v := 60) w_c1075 ?_
  refine j_callSi (pc := 6) (d := d) (As := [.long (Int32.toInt64 x0), .long 0, .long 60]) (st := []) dX9_isHouse_6 s982 rfl rfl (by decide) (Nat.le_of_ble_eq_true rfl) (fun q hq => t_X9_within  hq) hf (fun q1 hf => ?_)
  exact j_zret (pc := 9) dX9_isHouse_9 rfl hf
def f_X9_isParty (x0 : Int32) (h : Hp) : Option (Int32 × Hp) := (f_X9_within (Int32.toInt64 x0) 0 5 h).bind (fun q1 => if isB q1.1 = true then some (q1.1, q1.2) else none)
set_option maxHeartbeats 4000000 in
set_option maxRecDepth 100000 in
theorem t_X9_isParty {l : Launch} {D : va_G} {ad : Nat → Nat} {cA : Nat → ClassId} {d : Nat} (hdp : 1 ≤ d) {x0 : Int32}  {h : Hp} {o : Int32 × Hp} (hf : f_X9_isParty x0 h = some o) : Cr l D ad cA d yX9_isParty cX9_isParty 1 (some .boolean) [.int x0] h (some (.int o.1)) o.2 := by
  obtain ⟨d, rfl⟩ : ∃ e, d = e + 1 := ⟨d - 1, by omega⟩
  have hdp : 0 ≤ d := by omega
  unfold f_X9_isParty at hf
  refine Cr_of (by decide +kernel) rfl (Nat.le_of_ble_eq_true rfl) (lv0 := [(0, .int x0)]) rfl ?_
  refine j_iload_n (pc := 0) 0 dX9_isParty_0 rfl rfl ?_
  refine j_i2l (pc := 1) dX9_isParty_1  ?_
  refine j_lconst (pc := 2) dX9_isParty_2 (v := 0) rfl ?_
  refine j_ldc2_w (pc := 3) dX9_isParty_3 (v := 5) w_c988 ?_
  refine j_callSi (pc := 6) (d := d) (As := [.long (Int32.toInt64 x0), .long 0, .long 5]) (st := []) dX9_isParty_6 s982 rfl rfl (by decide) (Nat.le_of_ble_eq_true rfl) (fun q hq => t_X9_within  hq) hf (fun q1 hf => ?_)
  exact j_zret (pc := 9) dX9_isParty_9 rfl hf
def f_X9_isRow (x0 : Int32) (h : Hp) : Option (Int32 × Hp) := (f_X9_within (Int32.toInt64 x0) 0 3 h).bind (fun q1 => if isB q1.1 = true then some (q1.1, q1.2) else none)
set_option maxHeartbeats 4000000 in
set_option maxRecDepth 100000 in
theorem t_X9_isRow {l : Launch} {D : va_G} {ad : Nat → Nat} {cA : Nat → ClassId} {d : Nat} (hdp : 1 ≤ d) {x0 : Int32}  {h : Hp} {o : Int32 × Hp} (hf : f_X9_isRow x0 h = some o) : Cr l D ad cA d yX9_isRow cX9_isRow 1 (some .boolean) [.int x0] h (some (.int o.1)) o.2 := by
  obtain ⟨d, rfl⟩ : ∃ e, d = e + 1 := ⟨d - 1, by omega⟩
  have hdp : 0 ≤ d := by omega
  unfold f_X9_isRow at hf
  refine Cr_of (by decide +kernel) rfl (Nat.le_of_ble_eq_true rfl) (lv0 := [(0, .int x0)]) rfl ?_
  refine j_iload_n (pc := 0) 0 dX9_isRow_0 rfl rfl ?_
  refine j_i2l (pc := 1) dX9_isRow_1  ?_
  refine j_lconst (pc := 2) dX9_isRow_2 (v := 0) rfl ?_
  refine j_ldc2_w (pc := 3) dX9_isRow_3 (v := 3) w_c981 ?_
  refine j_callSi (pc := 6) (d := d) (As := [.long (Int32.toInt64 x0), .long 0, .long 3]) (st := []) dX9_isRow_6 s982 rfl rfl (by decide) (Nat.le_of_ble_eq_true rfl) (fun q hq => t_X9_within  hq) hf (fun q1 hf => ?_)
  exact j_zret (pc := 9) dX9_isRow_9 rfl hf
def f_X9_isWard (x0 : Int32) (h : Hp) : Option (Int32 × Hp) := (f_X9_within (Int32.toInt64 x0) 0 3 h).bind (fun q1 => if isB q1.1 = true then some (q1.1, q1.2) else none)
set_option maxHeartbeats 4000000 in
set_option maxRecDepth 100000 in
theorem t_X9_isWard {l : Launch} {D : va_G} {ad : Nat → Nat} {cA : Nat → ClassId} {d : Nat} (hdp : 1 ≤ d) {x0 : Int32}  {h : Hp} {o : Int32 × Hp} (hf : f_X9_isWard x0 h = some o) : Cr l D ad cA d yX9_isWard cX9_isWard 1 (some .boolean) [.int x0] h (some (.int o.1)) o.2 := by
  obtain ⟨d, rfl⟩ : ∃ e, d = e + 1 := ⟨d - 1, by omega⟩
  have hdp : 0 ≤ d := by omega
  unfold f_X9_isWard at hf
  refine Cr_of (by decide +kernel) rfl (Nat.le_of_ble_eq_true rfl) (lv0 := [(0, .int x0)]) rfl ?_
  refine j_iload_n (pc := 0) 0 dX9_isWard_0 rfl rfl ?_
  refine j_i2l (pc := 1) dX9_isWard_1  ?_
  refine j_lconst (pc := 2) dX9_isWard_2 (v := 0) rfl ?_
  refine j_ldc2_w (pc := 3) dX9_isWard_3 (v := 3) w_c981 ?_
  refine j_callSi (pc := 6) (d := d) (As := [.long (Int32.toInt64 x0), .long 0, .long 3]) (st := []) dX9_isWard_6 s982 rfl rfl (by decide) (Nat.le_of_ble_eq_true rfl) (fun q hq => t_X9_within  hq) hf (fun q1 hf => ?_)
  exact j_zret (pc := 9) dX9_isWard_9 rfl hf
def f_X9_lowest (x0 : Int64) (x2 : Int64) (x4 : Int32) (h : Hp) : Option (Int64 × Hp) := (f_X9_divisor x0 x2 h).bind (fun q1 => if x4 = 0 then (if q1.1 = 0 then none else (some (x0 / q1.1, q1.2))) else (if q1.1 = 0 then none else (some (x2 / q1.1, q1.2))))
set_option maxHeartbeats 4000000 in
set_option maxRecDepth 100000 in
theorem t_X9_lowest {l : Launch} {D : va_G} {ad : Nat → Nat} {cA : Nat → ClassId} {d : Nat} (hdp : 1 ≤ d) {x0 : Int64} {x2 : Int64} {x4 : Int32}  {h : Hp} {o : Int64 × Hp} (hf : f_X9_lowest x0 x2 x4 h = some o) : Cr l D ad cA d yX9_lowest cX9_lowest 7 (some .long) [.long x0, .long x2, .int x4] h (some (.long o.1)) o.2 := by
  obtain ⟨d, rfl⟩ : ∃ e, d = e + 1 := ⟨d - 1, by omega⟩
  have hdp : 0 ≤ d := by omega
  unfold f_X9_lowest at hf
  refine Cr_of (by decide +kernel) rfl (Nat.le_of_ble_eq_true rfl) (lv0 := [(0, .long x0), (2, .long x2), (4, .int x4)]) rfl ?_
  refine j_lload_n (pc := 0) 0 dX9_lowest_0 rfl rfl ?_
  refine j_lload_n (pc := 1) 1 dX9_lowest_1 rfl rfl ?_
  refine j_callSl (pc := 2) (d := d) (As := [.long x0, .long x2]) (st := []) dX9_lowest_2 s1099 rfl rfl (by decide) (Nat.le_of_ble_eq_true rfl) (fun q hq => t_X9_divisor  hq) hf (fun q1 hf => ?_)
  refine j_lstore (pc := 5) (lv' := [(5, .long q1.1), (0, .long x0), (2, .long x2), (4, .int x4)]) dX9_lowest_5 (by decide) rfl ?_
  refine j_iload (pc := 7) 3 dX9_lowest_7 rfl ?_
  refine j_if_ne (pc := 9) (tgt := 19) dX9_lowest_9 (by decide) hf (fun _ hf => ?_) (fun _ hf => ?_)
  · refine j_lload_n (pc := 19) 2 dX9_lowest_19 rfl rfl ?_
    refine j_lload (pc := 20) 0 dX9_lowest_20 rfl ?_
    refine j_ldiv (pc := 22) dX9_lowest_22 hf (fun hf => ?_)
    exact j_lret (pc := 23) dX9_lowest_23 rfl hf
  · refine j_lload_n (pc := 12) 1 dX9_lowest_12 rfl rfl ?_
    refine j_lload (pc := 13) 0 dX9_lowest_13 rfl ?_
    refine j_ldiv (pc := 15) dX9_lowest_15 hf (fun hf => ?_)
    refine j_goto (pc := 16) (tgt := 23) dX9_lowest_16 (by decide) ?_
    exact j_lret (pc := 23) dX9_lowest_23 rfl hf
def f_X9_ofWard_4 (k4 : Nat → Int32 → Int32 → Int32 → Hp → Option (Int32 × Hp)) (a0 : Nat) (x1 : Int32) (x2 : Int32) (x3 : Int32) (h : Hp) : Option (Int32 × Hp) := if 6 ≤ x3 then (some (x2, h)) else ((f_X9_votesOf a0 x1 x3 h).bind (fun q1 => lt (x2 + q1.1) (fun v2 => lt (x3 + 1) (fun v3 => k4 a0 x1 v2 v3 q1.2))))
set_option maxHeartbeats 4000000 in
set_option maxRecDepth 100000 in
theorem t_X9_ofWard_4 {l : Launch} {D : va_G} {ad : Nat → Nat} {cA : Nat → ClassId} {d : Nat} (hdp : 0 ≤ d) {o : Int32 × Hp}  : ∀ (n : Nat) {a0 : Nat} {x1 : Int32} {x2 : Int32} {x3 : Int32} (k0 : kd a0 = 9) {h : Hp}, lp (F := Nat → Int32 → Int32 → Int32 → Hp → Option (Int32 × Hp)) (fun _ _ _ _ _ => none) (f_X9_ofWard_4) n a0 x1 x2 x3 h = some o → J l D ad cA (fun _ => True) (rmd (d + 1)) (0, 0) (mQ D ad cA (some (.int o.1)) o.2) cX9_ofWard RX9 4 (some .int) 4 [(0, .ref (ad a0)), (1, .int x1), (2, .int x2), (3, .int x3)] [] h := by
  intro n
  induction n with
  | zero =>
    intro a0 x1 x2 x3 k0 h hf
    have hf : (none : Option (Int32 × Hp)) = some o := hf
    cases hf
  | succ n hk4 =>
    intro a0 x1 x2 x3 k0 h hf
    have hf : f_X9_ofWard_4  (lp (F := Nat → Int32 → Int32 → Int32 → Hp → Option (Int32 × Hp)) (fun _ _ _ _ _ => none) (f_X9_ofWard_4) n) a0 x1 x2 x3 h = some o := hf
    unfold f_X9_ofWard_4 at hf
    refine j_iload_n (pc := 4) 3 dX9_ofWard_4 rfl rfl ?_
    refine j_bipush (pc := 5) dX9_ofWard_5 (v := 6) (by decide) ?_
    refine j_icmp_ge (pc := 7) (tgt := 25) dX9_ofWard_7 (by decide) hf (fun _ hf => ?_) (fun _ hf => ?_)
    · refine j_iload_n (pc := 25) 2 dX9_ofWard_25 rfl rfl ?_
      exact j_iret (pc := 26) dX9_ofWard_26 rfl hf
    · refine j_iload_n (pc := 10) 2 dX9_ofWard_10 rfl rfl ?_
      refine j_aload_n (pc := 11) 0 dX9_ofWard_11 rfl rfl ?_
      refine j_iload_n (pc := 12) 1 dX9_ofWard_12 rfl rfl ?_
      refine j_iload_n (pc := 13) 3 dX9_ofWard_13 rfl rfl ?_
      refine j_callVi (pc := 14) (d := d) (As := [.int x1, .int x3]) (st := [.int x2]) dX9_ofWard_14 s1006 k0 (by decide) rfl rfl (by decide) (Nat.le_of_ble_eq_true rfl) (fun q hq => t_X9_votesOf k0 hq) hf (fun q1 hf => ?_)
      refine j_iadd (pc := 17) dX9_ofWard_17  ?_
      refine j_istore_nN (pc := 18) (lv' := fun v2 => [(2, .int v2), (0, .ref (ad a0)), (1, .int x1), (3, .int x3)]) dX9_ofWard_18 rfl (by decide) (fun _ => rfl) hf (fun v2 hf => ?_)
      refine j_iinc (pc := 19) 3 (c := 1) (lv' := fun v3 => [(3, .int v3), (2, .int v2), (0, .ref (ad a0)), (1, .int x1)]) dX9_ofWard_19 rfl (by decide) (by decide) (fun _ => rfl) hf (fun v3 hf => ?_)
      refine j_goto (pc := 22) (tgt := 4) dX9_ofWard_22 (by decide) ?_
      refine j_sub [2, 3, 1, 0] rfl ?_
      exact hk4 k0 hf
def f_X9_ofWard (a0 : Nat) (x1 : Int32) (h : Hp) : Option (Int32 × Hp) := lp (F := Nat → Int32 → Int32 → Int32 → Hp → Option (Int32 × Hp)) (fun _ _ _ _ _ => none) (f_X9_ofWard_4) 1000 a0 x1 0 0 h
set_option maxHeartbeats 4000000 in
set_option maxRecDepth 100000 in
theorem t_X9_ofWard {l : Launch} {D : va_G} {ad : Nat → Nat} {cA : Nat → ClassId} {d : Nat} (hdp : 1 ≤ d) {a0 : Nat} {x1 : Int32} (k0 : kd a0 = 9) {h : Hp} {o : Int32 × Hp} (hf : f_X9_ofWard a0 x1 h = some o) : Cr l D ad cA d yX9_ofWard cX9_ofWard 4 (some .int) [.ref (ad a0), .int x1] h (some (.int o.1)) o.2 := by
  obtain ⟨d, rfl⟩ : ∃ e, d = e + 1 := ⟨d - 1, by omega⟩
  have hdp : 0 ≤ d := by omega
  unfold f_X9_ofWard at hf
  refine Cr_of (by decide +kernel) rfl (Nat.le_of_ble_eq_true rfl) (lv0 := [(0, .ref (ad a0)), (1, .int x1)]) rfl ?_
  refine j_iconst (pc := 0) dX9_ofWard_0 (v := 0) (by decide) ?_
  refine j_istore_n (pc := 1) (lv' := [(2, .int 0), (0, .ref (ad a0)), (1, .int x1)]) dX9_ofWard_1 rfl (by decide) rfl ?_
  refine j_iconst (pc := 2) dX9_ofWard_2 (v := 0) (by decide) ?_
  refine j_istore_n (pc := 3) (lv' := [(3, .int 0), (2, .int 0), (0, .ref (ad a0)), (1, .int x1)]) dX9_ofWard_3 rfl (by decide) rfl ?_
  refine j_sub [2, 3, 1, 0] rfl ?_
  exact t_X9_ofWard_4 hdp  1000 k0 hf
