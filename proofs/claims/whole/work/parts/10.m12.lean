def f_X9_alike_63 (k33 : Nat → Int32 → Int32 → Int32 → Hp → Option (Int32 × Hp)) (a0 : Nat) (x1 : Int32) (x3 : Int32) (y0 : Int32) (y1 : Int32) (h : Hp) : Option (Int32 × Hp) := lt (y1 ||| y0) (fun v7 => lt (x3 + 1) (fun v8 => k33 a0 x1 v7 v8 h))
set_option maxHeartbeats 4000000 in
set_option maxRecDepth 100000 in
theorem t_X9_alike_63 {l : Launch} {D : va_G} {ad : Nat → Nat} {cA : Nat → ClassId} {d : Nat} (hdp : 7 ≤ d) {o : Int32 × Hp} {k33 : Nat → Int32 → Int32 → Int32 → Hp → Option (Int32 × Hp)} (hk33 : ∀ {a0 : Nat} {x1 : Int32} {x2 : Int32} {x3 : Int32} (k0 : kd a0 = 9) {h : Hp}, k33 a0 x1 x2 x3 h = some o → J l D ad cA (fun _ => True) (rmd (d + 1)) (0, 0) (mQ D ad cA (some (.int o.1)) o.2) cX9_alike RX9 4 (some .int) 33 [(0, .ref (ad a0)), (1, .int x1), (2, .int x2), (3, .int x3)] [] h) {a0 : Nat} {x1 : Int32} {x3 : Int32} {y0 : Int32} {y1 : Int32} (k0 : kd a0 = 9) {h : Hp} (hf : f_X9_alike_63 k33 a0 x1 x3 y0 y1 h = some o) : J l D ad cA (fun _ => True) (rmd (d + 1)) (0, 0) (mQ D ad cA (some (.int o.1)) o.2) cX9_alike RX9 4 (some .int) 63 [(0, .ref (ad a0)), (1, .int x1), (3, .int x3)] [.int y0, .int y1] h := by
  unfold f_X9_alike_63 at hf
  refine j_ior (pc := 63) dX9_alike_63  ?_
  refine j_istore_nN (pc := 64) (lv' := fun v7 => [(2, .int v7), (0, .ref (ad a0)), (1, .int x1), (3, .int x3)]) dX9_alike_64 rfl (by decide) (fun _ => rfl) hf (fun v7 hf => ?_)
  refine j_iinc (pc := 65) 3 (c := 1) (lv' := fun v8 => [(3, .int v8), (2, .int v7), (0, .ref (ad a0)), (1, .int x1)]) dX9_alike_65 rfl (by decide) (by decide) (fun _ => rfl) hf (fun v8 hf => ?_)
  refine j_goto (pc := 68) (tgt := 33) dX9_alike_68 (by decide) ?_
  refine j_sub [2, 3, 1, 0] rfl ?_
  exact hk33 k0 hf
def f_X9_alike_62 (k33 : Nat → Int32 → Int32 → Int32 → Hp → Option (Int32 × Hp)) (a0 : Nat) (x1 : Int32) (x3 : Int32) (y0 : Int32) (h : Hp) : Option (Int32 × Hp) := f_X9_alike_63 k33 a0 x1 x3 0 y0 h
set_option maxHeartbeats 4000000 in
set_option maxRecDepth 100000 in
theorem t_X9_alike_62 {l : Launch} {D : va_G} {ad : Nat → Nat} {cA : Nat → ClassId} {d : Nat} (hdp : 7 ≤ d) {o : Int32 × Hp} {k33 : Nat → Int32 → Int32 → Int32 → Hp → Option (Int32 × Hp)} (hk33 : ∀ {a0 : Nat} {x1 : Int32} {x2 : Int32} {x3 : Int32} (k0 : kd a0 = 9) {h : Hp}, k33 a0 x1 x2 x3 h = some o → J l D ad cA (fun _ => True) (rmd (d + 1)) (0, 0) (mQ D ad cA (some (.int o.1)) o.2) cX9_alike RX9 4 (some .int) 33 [(0, .ref (ad a0)), (1, .int x1), (2, .int x2), (3, .int x3)] [] h) {a0 : Nat} {x1 : Int32} {x3 : Int32} {y0 : Int32} (k0 : kd a0 = 9) {h : Hp} (hf : f_X9_alike_62 k33 a0 x1 x3 y0 h = some o) : J l D ad cA (fun _ => True) (rmd (d + 1)) (0, 0) (mQ D ad cA (some (.int o.1)) o.2) cX9_alike RX9 4 (some .int) 62 [(0, .ref (ad a0)), (1, .int x1), (3, .int x3)] [.int y0] h := by
  unfold f_X9_alike_62 at hf
  refine j_iconst (pc := 62) dX9_alike_62 (v := 0) (by decide) ?_
  refine j_sub [0, 1, 2] rfl ?_
  exact t_X9_alike_63 hdp hk33 k0 hf
def f_X9_alike_33 (k33 : Nat → Int32 → Int32 → Int32 → Hp → Option (Int32 × Hp)) (a0 : Nat) (x1 : Int32) (x2 : Int32) (x3 : Int32) (h : Hp) : Option (Int32 × Hp) := if 6 < x3 then (some (x2, h)) else ((f_X9_houses a0 x3 x1 h).bind (fun q5 => if q5.1 = 0 then (f_X9_alike_62 k33 a0 x1 x3 x2 q5.2) else ((f_X9_differs a0 q5.2).bind (fun q6 => if q6.1 = 0 then (f_X9_alike_63 k33 a0 x1 x3 (1 <<< (x3 &&& 31)) x2 q6.2) else (f_X9_alike_62 k33 a0 x1 x3 x2 q6.2)))))
set_option maxHeartbeats 4000000 in
set_option maxRecDepth 100000 in
theorem t_X9_alike_33 {l : Launch} {D : va_G} {ad : Nat → Nat} {cA : Nat → ClassId} {d : Nat} (hdp : 7 ≤ d) {o : Int32 × Hp}  : ∀ (n : Nat) {a0 : Nat} {x1 : Int32} {x2 : Int32} {x3 : Int32} (k0 : kd a0 = 9) {h : Hp}, lp (F := Nat → Int32 → Int32 → Int32 → Hp → Option (Int32 × Hp)) (fun _ _ _ _ _ => none) (f_X9_alike_33) n a0 x1 x2 x3 h = some o → J l D ad cA (fun _ => True) (rmd (d + 1)) (0, 0) (mQ D ad cA (some (.int o.1)) o.2) cX9_alike RX9 4 (some .int) 33 [(0, .ref (ad a0)), (1, .int x1), (2, .int x2), (3, .int x3)] [] h := by
  intro n
  induction n with
  | zero =>
    intro a0 x1 x2 x3 k0 h hf
    have hf : (none : Option (Int32 × Hp)) = some o := hf
    cases hf
  | succ n hk33 =>
    intro a0 x1 x2 x3 k0 h hf
    have hf : f_X9_alike_33  (lp (F := Nat → Int32 → Int32 → Int32 → Hp → Option (Int32 × Hp)) (fun _ _ _ _ _ => none) (f_X9_alike_33) n) a0 x1 x2 x3 h = some o := hf
    unfold f_X9_alike_33 at hf
    refine j_iload_n (pc := 33) 3 dX9_alike_33 rfl rfl ?_
    refine j_bipush (pc := 34) dX9_alike_34 (v := 6) (by decide) ?_
    refine j_icmp_gt (pc := 36) (tgt := 71) dX9_alike_36 (by decide) hf (fun _ hf => ?_) (fun _ hf => ?_)
    · refine j_iload_n (pc := 71) 2 dX9_alike_71 rfl rfl ?_
      exact j_iret (pc := 72) dX9_alike_72 rfl hf
    · refine j_iload_n (pc := 39) 2 dX9_alike_39 rfl rfl ?_
      refine j_aload_n (pc := 40) 0 dX9_alike_40 rfl rfl ?_
      refine j_iload_n (pc := 41) 3 dX9_alike_41 rfl rfl ?_
      refine j_iload_n (pc := 42) 1 dX9_alike_42 rfl rfl ?_
      refine j_callVi (pc := 43) (d := d) (As := [.int x3, .int x1]) (st := [.int x2]) dX9_alike_43 s1118 k0 (by decide) rfl rfl (by decide) (Nat.le_of_ble_eq_true rfl) (fun q hq => t_X9_houses (by omega) k0 hq) hf (fun q5 hf => ?_)
      refine j_if_eq (pc := 46) (tgt := 62) dX9_alike_46 (by decide) hf (fun _ hf => ?_) (fun _ hf => ?_)
      · refine j_sub [0, 1, 3] rfl ?_
        exact t_X9_alike_62 hdp hk33 k0 hf
      · refine j_aload_n (pc := 49) 0 dX9_alike_49 rfl rfl ?_
        refine j_callVi (pc := 50) (d := d) (As := []) (st := [.int x2]) dX9_alike_50 s1194 k0 (by decide) rfl rfl (by decide) (Nat.le_of_ble_eq_true rfl) (fun q hq => t_X9_differs (by omega) k0 hq) hf (fun q6 hf => ?_)
        refine j_if_ne (pc := 53) (tgt := 62) dX9_alike_53 (by decide) hf (fun _ hf => ?_) (fun _ hf => ?_)
        · refine j_sub [0, 1, 3] rfl ?_
          exact t_X9_alike_62 hdp hk33 k0 hf
        · refine j_iconst (pc := 56) dX9_alike_56 (v := 1) (by decide) ?_
          refine j_iload_n (pc := 57) 3 dX9_alike_57 rfl rfl ?_
          refine j_ishl (pc := 58) dX9_alike_58  ?_
          refine j_goto (pc := 59) (tgt := 63) dX9_alike_59 (by decide) ?_
          refine j_sub [0, 1, 3] rfl ?_
          exact t_X9_alike_63 hdp hk33 k0 hf
def f_X9_alike (a0 : Nat) (x1 : Int32) (h : Hp) : Option (Int32 × Hp) := (f_X9_isHouse x1 h).bind (fun q1 => if q1.1 = 0 then (some ((-2), q1.2)) else ((f_X9_wayNow a0 q1.2).bind (fun q2 => (f_X9_houses a0 q2.1 x1 q2.2).bind (fun q3 => if q3.1 = 0 then (some ((-3), q3.2)) else ((f_X9_holdsHouse a0 q3.2).bind (fun q4 => lp (F := Nat → Int32 → Int32 → Int32 → Hp → Option (Int32 × Hp)) (fun _ _ _ _ _ => none) (f_X9_alike_33) 1000 a0 x1 0 0 q4.2))))))
set_option maxHeartbeats 4000000 in
set_option maxRecDepth 100000 in
theorem t_X9_alike {l : Launch} {D : va_G} {ad : Nat → Nat} {cA : Nat → ClassId} {d : Nat} (hdp : 8 ≤ d) {a0 : Nat} {x1 : Int32} (k0 : kd a0 = 9) {h : Hp} {o : Int32 × Hp} (hf : f_X9_alike a0 x1 h = some o) : Cr l D ad cA d yX9_alike cX9_alike 4 (some .int) [.ref (ad a0), .int x1] h (some (.int o.1)) o.2 := by
  obtain ⟨d, rfl⟩ : ∃ e, d = e + 1 := ⟨d - 1, by omega⟩
  have hdp : 7 ≤ d := by omega
  unfold f_X9_alike at hf
  refine Cr_of (by decide +kernel) rfl (Nat.le_of_ble_eq_true rfl) (lv0 := [(0, .ref (ad a0)), (1, .int x1)]) rfl ?_
  refine j_iload_n (pc := 0) 1 dX9_alike_0 rfl rfl ?_
  refine j_callSi (pc := 1) (d := d) (As := [.int x1]) (st := []) dX9_alike_1 s1115 rfl rfl (by decide) (Nat.le_of_ble_eq_true rfl) (fun q hq => t_X9_isHouse (by omega)  hq) hf (fun q1 hf => ?_)
  refine j_if_ne (pc := 4) (tgt := 10) dX9_alike_4 (by decide) hf (fun _ hf => ?_) (fun _ hf => ?_)
  · refine j_aload_n (pc := 10) 0 dX9_alike_10 rfl rfl ?_
    refine j_aload_n (pc := 11) 0 dX9_alike_11 rfl rfl ?_
    refine j_callVi (pc := 12) (d := d) (As := []) (st := [.ref (ad a0)]) dX9_alike_12 s1079 k0 (by decide) rfl rfl (by decide) (Nat.le_of_ble_eq_true rfl) (fun q hq => t_X9_wayNow k0 hq) hf (fun q2 hf => ?_)
    refine j_iload_n (pc := 15) 1 dX9_alike_15 rfl rfl ?_
    refine j_callVi (pc := 16) (d := d) (As := [.int q2.1, .int x1]) (st := []) dX9_alike_16 s1118 k0 (by decide) rfl rfl (by decide) (Nat.le_of_ble_eq_true rfl) (fun q hq => t_X9_houses (by omega) k0 hq) hf (fun q3 hf => ?_)
    refine j_if_ne (pc := 19) (tgt := 25) dX9_alike_19 (by decide) hf (fun _ hf => ?_) (fun _ hf => ?_)
    · refine j_aload_n (pc := 25) 0 dX9_alike_25 rfl rfl ?_
      refine j_callVv (pc := 26) (d := d) (As := []) (st := []) dX9_alike_26 s1190 k0 (by decide) rfl rfl (by decide) (Nat.le_of_ble_eq_true rfl) (fun q hq => t_X9_holdsHouse k0 hq) hf (fun q4 hf => ?_)
      refine j_iconst (pc := 29) dX9_alike_29 (v := 0) (by decide) ?_
      refine j_istore_n (pc := 30) (lv' := [(2, .int 0), (0, .ref (ad a0)), (1, .int x1)]) dX9_alike_30 rfl (by decide) rfl ?_
      refine j_iconst (pc := 31) dX9_alike_31 (v := 0) (by decide) ?_
      refine j_istore_n (pc := 32) (lv' := [(3, .int 0), (2, .int 0), (0, .ref (ad a0)), (1, .int x1)]) dX9_alike_32 rfl (by decide) rfl ?_
      refine j_sub [2, 3, 1, 0] rfl ?_
      exact t_X9_alike_33 hdp  1000 k0 hf
    · refine j_bipush (pc := 22) dX9_alike_22 (v := -3) (by decide) ?_
      exact j_iret (pc := 24) dX9_alike_24 rfl hf
  · refine j_bipush (pc := 7) dX9_alike_7 (v := -2) (by decide) ?_
    exact j_iret (pc := 9) dX9_alike_9 rfl hf
def f_X9_differ (a0 : Nat) (x1 : Int32) (x2 : Int32) (x3 : Int32) (h : Hp) : Option (Int32 × Hp) := (f_X9_within (Int32.toInt64 x2) 0 6 h).bind (fun q1 => if q1.1 = 0 then (some ((-1), q1.2)) else ((f_X9_within (Int32.toInt64 x3) 0 6 q1.2).bind (fun q2 => if q2.1 = 0 then (some ((-1), q2.2)) else ((f_X9_isHouse x1 q2.2).bind (fun q3 => if q3.1 = 0 then (some ((-2), q3.2)) else ((f_X9_houses a0 x2 x1 q3.2).bind (fun q4 => if q4.1 = 0 then (some ((-3), q4.2)) else ((f_X9_holdsHouse a0 q4.2).bind (fun q5 => (f_X9_houses a0 x3 x1 q5.2).bind (fun q6 => if q6.1 = 0 then (some ((-3), q6.2)) else ((f_X9_differs a0 q6.2).bind (fun q7 => some (q7.1, q7.2)))))))))))))
set_option maxHeartbeats 4000000 in
set_option maxRecDepth 100000 in
theorem t_X9_differ {l : Launch} {D : va_G} {ad : Nat → Nat} {cA : Nat → ClassId} {d : Nat} (hdp : 8 ≤ d) {a0 : Nat} {x1 : Int32} {x2 : Int32} {x3 : Int32} (k0 : kd a0 = 9) {h : Hp} {o : Int32 × Hp} (hf : f_X9_differ a0 x1 x2 x3 h = some o) : Cr l D ad cA d yX9_differ cX9_differ 4 (some .int) [.ref (ad a0), .int x1, .int x2, .int x3] h (some (.int o.1)) o.2 := by
  obtain ⟨d, rfl⟩ : ∃ e, d = e + 1 := ⟨d - 1, by omega⟩
  have hdp : 7 ≤ d := by omega
  unfold f_X9_differ at hf
  refine Cr_of (by decide +kernel) rfl (Nat.le_of_ble_eq_true rfl) (lv0 := [(0, .ref (ad a0)), (1, .int x1), (2, .int x2), (3, .int x3)]) rfl ?_
  refine j_iload_n (pc := 0) 2 dX9_differ_0 rfl rfl ?_
  refine j_i2l (pc := 1) dX9_differ_1  ?_
  refine j_lconst (pc := 2) dX9_differ_2 (v := 0) rfl ?_
  refine j_ldc2_w (pc := 3) dX9_differ_3 (v := 6) w_c1037 ?_
  refine j_callSi (pc := 6) (d := d) (As := [.long (Int32.toInt64 x2), .long 0, .long 6]) (st := []) dX9_differ_6 s982 rfl rfl (by decide) (Nat.le_of_ble_eq_true rfl) (fun q hq => t_X9_within  hq) hf (fun q1 hf => ?_)
  refine j_if_eq (pc := 9) (tgt := 24) dX9_differ_9 (by decide) hf (fun _ hf => ?_) (fun _ hf => ?_)
  · refine j_iconst (pc := 24) dX9_differ_24 (v := -1) (by decide) ?_
    exact j_iret (pc := 25) dX9_differ_25 rfl hf
  · refine j_iload_n (pc := 12) 3 dX9_differ_12 rfl rfl ?_
    refine j_i2l (pc := 13) dX9_differ_13  ?_
    refine j_lconst (pc := 14) dX9_differ_14 (v := 0) rfl ?_
    refine j_ldc2_w (pc := 15) dX9_differ_15 (v := 6) w_c1037 ?_
    refine j_callSi (pc := 18) (d := d) (As := [.long (Int32.toInt64 x3), .long 0, .long 6]) (st := []) dX9_differ_18 s982 rfl rfl (by decide) (Nat.le_of_ble_eq_true rfl) (fun q hq => t_X9_within  hq) hf (fun q2 hf => ?_)
    refine j_if_ne (pc := 21) (tgt := 26) dX9_differ_21 (by decide) hf (fun _ hf => ?_) (fun _ hf => ?_)
    · refine j_iload_n (pc := 26) 1 dX9_differ_26 rfl rfl ?_
      refine j_callSi (pc := 27) (d := d) (As := [.int x1]) (st := []) dX9_differ_27 s1115 rfl rfl (by decide) (Nat.le_of_ble_eq_true rfl) (fun q hq => t_X9_isHouse (by omega)  hq) hf (fun q3 hf => ?_)
      refine j_if_ne (pc := 30) (tgt := 36) dX9_differ_30 (by decide) hf (fun _ hf => ?_) (fun _ hf => ?_)
      · refine j_aload_n (pc := 36) 0 dX9_differ_36 rfl rfl ?_
        refine j_iload_n (pc := 37) 2 dX9_differ_37 rfl rfl ?_
        refine j_iload_n (pc := 38) 1 dX9_differ_38 rfl rfl ?_
        refine j_callVi (pc := 39) (d := d) (As := [.int x2, .int x1]) (st := []) dX9_differ_39 s1118 k0 (by decide) rfl rfl (by decide) (Nat.le_of_ble_eq_true rfl) (fun q hq => t_X9_houses (by omega) k0 hq) hf (fun q4 hf => ?_)
        refine j_if_ne (pc := 42) (tgt := 48) dX9_differ_42 (by decide) hf (fun _ hf => ?_) (fun _ hf => ?_)
        · refine j_aload_n (pc := 48) 0 dX9_differ_48 rfl rfl ?_
          refine j_callVv (pc := 49) (d := d) (As := []) (st := []) dX9_differ_49 s1190 k0 (by decide) rfl rfl (by decide) (Nat.le_of_ble_eq_true rfl) (fun q hq => t_X9_holdsHouse k0 hq) hf (fun q5 hf => ?_)
          refine j_aload_n (pc := 52) 0 dX9_differ_52 rfl rfl ?_
          refine j_iload_n (pc := 53) 3 dX9_differ_53 rfl rfl ?_
          refine j_iload_n (pc := 54) 1 dX9_differ_54 rfl rfl ?_
          refine j_callVi (pc := 55) (d := d) (As := [.int x3, .int x1]) (st := []) dX9_differ_55 s1118 k0 (by decide) rfl rfl (by decide) (Nat.le_of_ble_eq_true rfl) (fun q hq => t_X9_houses (by omega) k0 hq) hf (fun q6 hf => ?_)
          refine j_if_eq (pc := 58) (tgt := 68) dX9_differ_58 (by decide) hf (fun _ hf => ?_) (fun _ hf => ?_)
          · refine j_bipush (pc := 68) dX9_differ_68 (v := -3) (by decide) ?_
            exact j_iret (pc := 70) dX9_differ_70 rfl hf
          · refine j_aload_n (pc := 61) 0 dX9_differ_61 rfl rfl ?_
            refine j_callVi (pc := 62) (d := d) (As := []) (st := []) dX9_differ_62 s1194 k0 (by decide) rfl rfl (by decide) (Nat.le_of_ble_eq_true rfl) (fun q hq => t_X9_differs (by omega) k0 hq) hf (fun q7 hf => ?_)
            refine j_goto (pc := 65) (tgt := 70) dX9_differ_65 (by decide) ?_
            exact j_iret (pc := 70) dX9_differ_70 rfl hf
        · refine j_bipush (pc := 45) dX9_differ_45 (v := -3) (by decide) ?_
          exact j_iret (pc := 47) dX9_differ_47 rfl hf
      · refine j_bipush (pc := 33) dX9_differ_33 (v := -2) (by decide) ?_
        exact j_iret (pc := 35) dX9_differ_35 rfl hf
    · refine j_iconst (pc := 24) dX9_differ_24 (v := -1) (by decide) ?_
      exact j_iret (pc := 25) dX9_differ_25 rfl hf
def f_X9_house (a0 : Nat) (x1 : Int32) (x2 : Int32) (h : Hp) : Option (Int32 × Hp) := (f_X9_isParty x2 h).bind (fun q1 => if q1.1 = 0 then (some ((-1), q1.2)) else ((f_X9_isHouse x1 q1.2).bind (fun q2 => if q2.1 = 0 then (some ((-2), q2.2)) else ((f_X9_wayNow a0 q2.2).bind (fun q3 => (f_X9_houses a0 q3.1 x1 q3.2).bind (fun q4 => if q4.1 = 0 then (some ((-3), q4.2)) else (if ix x2 6 = true then (some (q4.2.1 (a0 + 16) (Int32.toNatClampNeg x2), q4.2)) else none)))))))
set_option maxHeartbeats 4000000 in
set_option maxRecDepth 100000 in
theorem t_X9_house {l : Launch} {D : va_G} {ad : Nat → Nat} {cA : Nat → ClassId} {d : Nat} (hdp : 8 ≤ d) {a0 : Nat} {x1 : Int32} {x2 : Int32} (k0 : kd a0 = 9) {h : Hp} {o : Int32 × Hp} (hf : f_X9_house a0 x1 x2 h = some o) : Cr l D ad cA d yX9_house cX9_house 3 (some .int) [.ref (ad a0), .int x1, .int x2] h (some (.int o.1)) o.2 := by
  obtain ⟨d, rfl⟩ : ∃ e, d = e + 1 := ⟨d - 1, by omega⟩
  have hdp : 7 ≤ d := by omega
  unfold f_X9_house at hf
  refine Cr_of (by decide +kernel) rfl (Nat.le_of_ble_eq_true rfl) (lv0 := [(0, .ref (ad a0)), (1, .int x1), (2, .int x2)]) rfl ?_
  refine j_iload_n (pc := 0) 2 dX9_house_0 rfl rfl ?_
  refine j_callSi (pc := 1) (d := d) (As := [.int x2]) (st := []) dX9_house_1 s985 rfl rfl (by decide) (Nat.le_of_ble_eq_true rfl) (fun q hq => t_X9_isParty (by omega)  hq) hf (fun q1 hf => ?_)
  refine j_if_ne (pc := 4) (tgt := 9) dX9_house_4 (by decide) hf (fun _ hf => ?_) (fun _ hf => ?_)
  · refine j_iload_n (pc := 9) 1 dX9_house_9 rfl rfl ?_
    refine j_callSi (pc := 10) (d := d) (As := [.int x1]) (st := []) dX9_house_10 s1115 rfl rfl (by decide) (Nat.le_of_ble_eq_true rfl) (fun q hq => t_X9_isHouse (by omega)  hq) hf (fun q2 hf => ?_)
    refine j_if_ne (pc := 13) (tgt := 19) dX9_house_13 (by decide) hf (fun _ hf => ?_) (fun _ hf => ?_)
    · refine j_aload_n (pc := 19) 0 dX9_house_19 rfl rfl ?_
      refine j_aload_n (pc := 20) 0 dX9_house_20 rfl rfl ?_
      refine j_callVi (pc := 21) (d := d) (As := []) (st := [.ref (ad a0)]) dX9_house_21 s1079 k0 (by decide) rfl rfl (by decide) (Nat.le_of_ble_eq_true rfl) (fun q hq => t_X9_wayNow k0 hq) hf (fun q3 hf => ?_)
      refine j_iload_n (pc := 24) 1 dX9_house_24 rfl rfl ?_
      refine j_callVi (pc := 25) (d := d) (As := [.int q3.1, .int x1]) (st := []) dX9_house_25 s1118 k0 (by decide) rfl rfl (by decide) (Nat.le_of_ble_eq_true rfl) (fun q hq => t_X9_houses (by omega) k0 hq) hf (fun q4 hf => ?_)
      refine j_if_eq (pc := 28) (tgt := 40) dX9_house_28 (by decide) hf (fun _ hf => ?_) (fun _ hf => ?_)
      · refine j_bipush (pc := 40) dX9_house_40 (v := -3) (by decide) ?_
        exact j_iret (pc := 42) dX9_house_42 rfl hf
      · refine j_aload_n (pc := 31) 0 dX9_house_31 rfl rfl ?_
        refine j_getR (pc := 32) (n := 16) dX9_house_32 fl868 k0 (by decide) rfl ?_
        refine j_iload_n (pc := 35) 2 dX9_house_35 rfl rfl ?_
        refine j_iaload (pc := 36) dX9_house_36 (lk_9_22 k0) (ll_9_22 k0) hf (fun _ hf => ?_)
        refine j_goto (pc := 37) (tgt := 42) dX9_house_37 (by decide) ?_
        exact j_iret (pc := 42) dX9_house_42 rfl hf
    · refine j_bipush (pc := 16) dX9_house_16 (v := -2) (by decide) ?_
      exact j_iret (pc := 18) dX9_house_18 rfl hf
  · refine j_iconst (pc := 7) dX9_house_7 (v := -1) (by decide) ?_
    exact j_iret (pc := 8) dX9_house_8 rfl hf
def f_X9_list (a0 : Nat) (x1 : Int32) (x2 : Int32) (h : Hp) : Option (Int32 × Hp) := (f_X9_isParty x2 h).bind (fun q1 => if q1.1 = 0 then (some ((-1), q1.2)) else ((f_X9_isHouse x1 q1.2).bind (fun q2 => if q2.1 = 0 then (some ((-2), q2.2)) else ((f_X9_wayNow a0 q2.2).bind (fun q3 => (f_X9_houses a0 q3.1 x1 q3.2).bind (fun q4 => if q4.1 = 0 then (some ((-3), q4.2)) else (if ix x2 6 = true then (some (q4.2.1 (a0 + 15) (Int32.toNatClampNeg x2), q4.2)) else none)))))))
set_option maxHeartbeats 4000000 in
set_option maxRecDepth 100000 in
theorem t_X9_list {l : Launch} {D : va_G} {ad : Nat → Nat} {cA : Nat → ClassId} {d : Nat} (hdp : 8 ≤ d) {a0 : Nat} {x1 : Int32} {x2 : Int32} (k0 : kd a0 = 9) {h : Hp} {o : Int32 × Hp} (hf : f_X9_list a0 x1 x2 h = some o) : Cr l D ad cA d yX9_list cX9_list 3 (some .int) [.ref (ad a0), .int x1, .int x2] h (some (.int o.1)) o.2 := by
  obtain ⟨d, rfl⟩ : ∃ e, d = e + 1 := ⟨d - 1, by omega⟩
  have hdp : 7 ≤ d := by omega
  unfold f_X9_list at hf
  refine Cr_of (by decide +kernel) rfl (Nat.le_of_ble_eq_true rfl) (lv0 := [(0, .ref (ad a0)), (1, .int x1), (2, .int x2)]) rfl ?_
  refine j_iload_n (pc := 0) 2 dX9_list_0 rfl rfl ?_
  refine j_callSi (pc := 1) (d := d) (As := [.int x2]) (st := []) dX9_list_1 s985 rfl rfl (by decide) (Nat.le_of_ble_eq_true rfl) (fun q hq => t_X9_isParty (by omega)  hq) hf (fun q1 hf => ?_)
  refine j_if_ne (pc := 4) (tgt := 9) dX9_list_4 (by decide) hf (fun _ hf => ?_) (fun _ hf => ?_)
  · refine j_iload_n (pc := 9) 1 dX9_list_9 rfl rfl ?_
    refine j_callSi (pc := 10) (d := d) (As := [.int x1]) (st := []) dX9_list_10 s1115 rfl rfl (by decide) (Nat.le_of_ble_eq_true rfl) (fun q hq => t_X9_isHouse (by omega)  hq) hf (fun q2 hf => ?_)
    refine j_if_ne (pc := 13) (tgt := 19) dX9_list_13 (by decide) hf (fun _ hf => ?_) (fun _ hf => ?_)
    · refine j_aload_n (pc := 19) 0 dX9_list_19 rfl rfl ?_
      refine j_aload_n (pc := 20) 0 dX9_list_20 rfl rfl ?_
      refine j_callVi (pc := 21) (d := d) (As := []) (st := [.ref (ad a0)]) dX9_list_21 s1079 k0 (by decide) rfl rfl (by decide) (Nat.le_of_ble_eq_true rfl) (fun q hq => t_X9_wayNow k0 hq) hf (fun q3 hf => ?_)
      refine j_iload_n (pc := 24) 1 dX9_list_24 rfl rfl ?_
      refine j_callVi (pc := 25) (d := d) (As := [.int q3.1, .int x1]) (st := []) dX9_list_25 s1118 k0 (by decide) rfl rfl (by decide) (Nat.le_of_ble_eq_true rfl) (fun q hq => t_X9_houses (by omega) k0 hq) hf (fun q4 hf => ?_)
      refine j_if_eq (pc := 28) (tgt := 40) dX9_list_28 (by decide) hf (fun _ hf => ?_) (fun _ hf => ?_)
      · refine j_bipush (pc := 40) dX9_list_40 (v := -3) (by decide) ?_
        exact j_iret (pc := 42) dX9_list_42 rfl hf
      · refine j_aload_n (pc := 31) 0 dX9_list_31 rfl rfl ?_
        refine j_getR (pc := 32) (n := 15) dX9_list_32 fl867 k0 (by decide) rfl ?_
        refine j_iload_n (pc := 35) 2 dX9_list_35 rfl rfl ?_
        refine j_iaload (pc := 36) dX9_list_36 (lk_9_21 k0) (ll_9_21 k0) hf (fun _ hf => ?_)
        refine j_goto (pc := 37) (tgt := 42) dX9_list_37 (by decide) ?_
        exact j_iret (pc := 42) dX9_list_42 rfl hf
    · refine j_bipush (pc := 16) dX9_list_16 (v := -2) (by decide) ?_
      exact j_iret (pc := 18) dX9_list_18 rfl hf
  · refine j_iconst (pc := 7) dX9_list_7 (v := -1) (by decide) ?_
    exact j_iret (pc := 8) dX9_list_8 rfl hf
def f_X9_losesAt_38 (k38 : Nat → Int32 → Hp → Option (Int32 × Hp)) (a0 : Nat) (x2 : Int32) (h : Hp) : Option (Int32 × Hp) := if 6 ≤ x2 then (some ((-5), h)) else (if ix x2 6 = true then (if ix x2 6 = true then (if (h.1 (a0 + 18) (Int32.toNatClampNeg x2)) ≤ (h.1 (a0 + 16) (Int32.toNatClampNeg x2)) then (lt (x2 + 1) (fun v6 => k38 a0 v6 h)) else (some (x2, h))) else none) else none)
set_option maxHeartbeats 4000000 in
set_option maxRecDepth 100000 in
theorem t_X9_losesAt_38 {l : Launch} {D : va_G} {ad : Nat → Nat} {cA : Nat → ClassId} {d : Nat} (hdp : 7 ≤ d) {o : Int32 × Hp}  : ∀ (n : Nat) {a0 : Nat} {x2 : Int32} (k0 : kd a0 = 9) {h : Hp}, lp (F := Nat → Int32 → Hp → Option (Int32 × Hp)) (fun _ _ _ => none) (f_X9_losesAt_38) n a0 x2 h = some o → J l D ad cA (fun _ => True) (rmd (d + 1)) (0, 0) (mQ D ad cA (some (.int o.1)) o.2) cX9_losesAt RX9 3 (some .int) 38 [(0, .ref (ad a0)), (2, .int x2)] [] h := by
  intro n
  induction n with
  | zero =>
    intro a0 x2 k0 h hf
    have hf : (none : Option (Int32 × Hp)) = some o := hf
    cases hf
  | succ n hk38 =>
    intro a0 x2 k0 h hf
    have hf : f_X9_losesAt_38  (lp (F := Nat → Int32 → Hp → Option (Int32 × Hp)) (fun _ _ _ => none) (f_X9_losesAt_38) n) a0 x2 h = some o := hf
    unfold f_X9_losesAt_38 at hf
    refine j_iload_n (pc := 38) 1 dX9_losesAt_38 rfl rfl ?_
    refine j_bipush (pc := 39) dX9_losesAt_39 (v := 6) (by decide) ?_
    refine j_icmp_ge (pc := 41) (tgt := 67) dX9_losesAt_41 (by decide) hf (fun _ hf => ?_) (fun _ hf => ?_)
    · refine j_bipush (pc := 67) dX9_losesAt_67 (v := -5) (by decide) ?_
      exact j_iret (pc := 69) dX9_losesAt_69 rfl hf
    · refine j_aload_n (pc := 44) 0 dX9_losesAt_44 rfl rfl ?_
      refine j_getR (pc := 45) (n := 16) dX9_losesAt_45 fl868 k0 (by decide) rfl ?_
      refine j_iload_n (pc := 48) 1 dX9_losesAt_48 rfl rfl ?_
      refine j_iaload (pc := 49) dX9_losesAt_49 (lk_9_22 k0) (ll_9_22 k0) hf (fun _ hf => ?_)
      refine j_aload_n (pc := 50) 0 dX9_losesAt_50 rfl rfl ?_
      refine j_getR (pc := 51) (n := 18) dX9_losesAt_51 fl872 k0 (by decide) rfl ?_
      refine j_iload_n (pc := 54) 1 dX9_losesAt_54 rfl rfl ?_
      refine j_iaload (pc := 55) dX9_losesAt_55 (lk_9_26 k0) (ll_9_26 k0) hf (fun _ hf => ?_)
      refine j_icmp_ge (pc := 56) (tgt := 61) dX9_losesAt_56 (by decide) hf (fun _ hf => ?_) (fun _ hf => ?_)
      · refine j_iinc (pc := 61) 1 (c := 1) (lv' := fun v6 => [(2, .int v6), (0, .ref (ad a0))]) dX9_losesAt_61 rfl (by decide) (by decide) (fun _ => rfl) hf (fun v6 hf => ?_)
        refine j_goto (pc := 64) (tgt := 38) dX9_losesAt_64 (by decide) ?_
        refine j_sub [1, 0] rfl ?_
        exact hk38 k0 hf
      · refine j_iload_n (pc := 59) 1 dX9_losesAt_59 rfl rfl ?_
        exact j_iret (pc := 60) dX9_losesAt_60 rfl hf
def f_X9_losesAt (a0 : Nat) (x1 : Int32) (h : Hp) : Option (Int32 × Hp) := (f_X9_wayNow a0 h).bind (fun q1 => (f_X9_houses a0 q1.1 (x1 - 1) q1.2).bind (fun q2 => if q2.1 = 0 then (some ((-5), q2.2)) else ((f_X9_holdsHouse a0 q2.2).bind (fun q3 => (f_X9_wayNow a0 q3.2).bind (fun q4 => (f_X9_houses a0 q4.1 x1 q4.2).bind (fun q5 => if q5.1 = 0 then (some ((-5), q5.2)) else (lp (F := Nat → Int32 → Hp → Option (Int32 × Hp)) (fun _ _ _ => none) (f_X9_losesAt_38) 1000 a0 0 q5.2)))))))
set_option maxHeartbeats 4000000 in
set_option maxRecDepth 100000 in
theorem t_X9_losesAt {l : Launch} {D : va_G} {ad : Nat → Nat} {cA : Nat → ClassId} {d : Nat} (hdp : 8 ≤ d) {a0 : Nat} {x1 : Int32} (k0 : kd a0 = 9) {h : Hp} {o : Int32 × Hp} (hf : f_X9_losesAt a0 x1 h = some o) : Cr l D ad cA d yX9_losesAt cX9_losesAt 3 (some .int) [.ref (ad a0), .int x1] h (some (.int o.1)) o.2 := by
  obtain ⟨d, rfl⟩ : ∃ e, d = e + 1 := ⟨d - 1, by omega⟩
  have hdp : 7 ≤ d := by omega
  unfold f_X9_losesAt at hf
  refine Cr_of (by decide +kernel) rfl (Nat.le_of_ble_eq_true rfl) (lv0 := [(0, .ref (ad a0)), (1, .int x1)]) rfl ?_
  refine j_aload_n (pc := 0) 0 dX9_losesAt_0 rfl rfl ?_
  refine j_aload_n (pc := 1) 0 dX9_losesAt_1 rfl rfl ?_
  refine j_callVi (pc := 2) (d := d) (As := []) (st := [.ref (ad a0)]) dX9_losesAt_2 s1079 k0 (by decide) rfl rfl (by decide) (Nat.le_of_ble_eq_true rfl) (fun q hq => t_X9_wayNow k0 hq) hf (fun q1 hf => ?_)
  refine j_iload_n (pc := 5) 1 dX9_losesAt_5 rfl rfl ?_
  refine j_iconst (pc := 6) dX9_losesAt_6 (v := 1) (by decide) ?_
  refine j_isub (pc := 7) dX9_losesAt_7  ?_
  refine j_callVi (pc := 8) (d := d) (As := [.int q1.1, .int (x1 - 1)]) (st := []) dX9_losesAt_8 s1118 k0 (by decide) rfl rfl (by decide) (Nat.le_of_ble_eq_true rfl) (fun q hq => t_X9_houses (by omega) k0 hq) hf (fun q2 hf => ?_)
  refine j_if_ne (pc := 11) (tgt := 17) dX9_losesAt_11 (by decide) hf (fun _ hf => ?_) (fun _ hf => ?_)
  · refine j_aload_n (pc := 17) 0 dX9_losesAt_17 rfl rfl ?_
    refine j_callVv (pc := 18) (d := d) (As := []) (st := []) dX9_losesAt_18 s1190 k0 (by decide) rfl rfl (by decide) (Nat.le_of_ble_eq_true rfl) (fun q hq => t_X9_holdsHouse k0 hq) hf (fun q3 hf => ?_)
    refine j_aload_n (pc := 21) 0 dX9_losesAt_21 rfl rfl ?_
    refine j_aload_n (pc := 22) 0 dX9_losesAt_22 rfl rfl ?_
    refine j_callVi (pc := 23) (d := d) (As := []) (st := [.ref (ad a0)]) dX9_losesAt_23 s1079 k0 (by decide) rfl rfl (by decide) (Nat.le_of_ble_eq_true rfl) (fun q hq => t_X9_wayNow k0 hq) hf (fun q4 hf => ?_)
    refine j_iload_n (pc := 26) 1 dX9_losesAt_26 rfl rfl ?_
    refine j_callVi (pc := 27) (d := d) (As := [.int q4.1, .int x1]) (st := []) dX9_losesAt_27 s1118 k0 (by decide) rfl rfl (by decide) (Nat.le_of_ble_eq_true rfl) (fun q hq => t_X9_houses (by omega) k0 hq) hf (fun q5 hf => ?_)
    refine j_if_ne (pc := 30) (tgt := 36) dX9_losesAt_30 (by decide) hf (fun _ hf => ?_) (fun _ hf => ?_)
    · refine j_iconst (pc := 36) dX9_losesAt_36 (v := 0) (by decide) ?_
      refine j_istore_n (pc := 37) (lv' := [(2, .int 0), (0, .ref (ad a0)), (1, .int x1)]) dX9_losesAt_37 rfl (by decide) rfl ?_
      refine j_sub [1, 0] rfl ?_
      exact t_X9_losesAt_38 hdp  1000 k0 hf
    · refine j_bipush (pc := 33) dX9_losesAt_33 (v := -5) (by decide) ?_
      exact j_iret (pc := 35) dX9_losesAt_35 rfl hf
  · refine j_bipush (pc := 14) dX9_losesAt_14 (v := -5) (by decide) ?_
    exact j_iret (pc := 16) dX9_losesAt_16 rfl hf
def f_X9_orderRefusal_31   (h : Hp) : Option (Int32 × Hp) := some ((-3), h)
set_option maxHeartbeats 4000000 in
set_option maxRecDepth 100000 in
theorem t_X9_orderRefusal_31 {l : Launch} {D : va_G} {ad : Nat → Nat} {cA : Nat → ClassId} {d : Nat} (hdp : 7 ≤ d) {o : Int32 × Hp}    {h : Hp} (hf : f_X9_orderRefusal_31   h = some o) : J l D ad cA (fun _ => True) (rmd (d + 1)) (0, 0) (mQ D ad cA (some (.int o.1)) o.2) cX9_orderRefusal RX9 2 (some .int) 31 [] [] h := by
  unfold f_X9_orderRefusal_31 at hf
  refine j_bipush (pc := 31) dX9_orderRefusal_31 (v := -3) (by decide) ?_
  refine j_goto (pc := 33) (tgt := 37) dX9_orderRefusal_33 (by decide) ?_
  exact j_iret (pc := 37) dX9_orderRefusal_37 rfl hf
def f_X9_orderRefusal (a0 : Nat) (x1 : Int32) (h : Hp) : Option (Int32 × Hp) := (f_X9_isHouse x1 h).bind (fun q1 => if q1.1 = 0 then (some ((-2), q1.2)) else ((f_X9_wayNow a0 q1.2).bind (fun q2 => if q2.1 = 6 then (f_X9_orderRefusal_31   q2.2) else ((f_X9_wayNow a0 q2.2).bind (fun q3 => (f_X9_houses a0 q3.1 x1 q3.2).bind (fun q4 => if q4.1 = 0 then (f_X9_orderRefusal_31   q4.2) else (some (0, q4.2))))))))
set_option maxHeartbeats 4000000 in
set_option maxRecDepth 100000 in
theorem t_X9_orderRefusal {l : Launch} {D : va_G} {ad : Nat → Nat} {cA : Nat → ClassId} {d : Nat} (hdp : 8 ≤ d) {a0 : Nat} {x1 : Int32} (k0 : kd a0 = 9) {h : Hp} {o : Int32 × Hp} (hf : f_X9_orderRefusal a0 x1 h = some o) : Cr l D ad cA d yX9_orderRefusal cX9_orderRefusal 2 (some .int) [.ref (ad a0), .int x1] h (some (.int o.1)) o.2 := by
  obtain ⟨d, rfl⟩ : ∃ e, d = e + 1 := ⟨d - 1, by omega⟩
  have hdp : 7 ≤ d := by omega
  unfold f_X9_orderRefusal at hf
  refine Cr_of (by decide +kernel) rfl (Nat.le_of_ble_eq_true rfl) (lv0 := [(0, .ref (ad a0)), (1, .int x1)]) rfl ?_
  refine j_iload_n (pc := 0) 1 dX9_orderRefusal_0 rfl rfl ?_
  refine j_callSi (pc := 1) (d := d) (As := [.int x1]) (st := []) dX9_orderRefusal_1 s1115 rfl rfl (by decide) (Nat.le_of_ble_eq_true rfl) (fun q hq => t_X9_isHouse (by omega)  hq) hf (fun q1 hf => ?_)
  refine j_if_ne (pc := 4) (tgt := 10) dX9_orderRefusal_4 (by decide) hf (fun _ hf => ?_) (fun _ hf => ?_)
  · refine j_aload_n (pc := 10) 0 dX9_orderRefusal_10 rfl rfl ?_
    refine j_callVi (pc := 11) (d := d) (As := []) (st := []) dX9_orderRefusal_11 s1079 k0 (by decide) rfl rfl (by decide) (Nat.le_of_ble_eq_true rfl) (fun q hq => t_X9_wayNow k0 hq) hf (fun q2 hf => ?_)
    refine j_bipush (pc := 14) dX9_orderRefusal_14 (v := 6) (by decide) ?_
    refine j_icmp_eq (pc := 16) (tgt := 31) dX9_orderRefusal_16 (by decide) hf (fun _ hf => ?_) (fun _ hf => ?_)
    · refine j_sub [] rfl ?_
      exact t_X9_orderRefusal_31 hdp   hf
    · refine j_aload_n (pc := 19) 0 dX9_orderRefusal_19 rfl rfl ?_
      refine j_aload_n (pc := 20) 0 dX9_orderRefusal_20 rfl rfl ?_
      refine j_callVi (pc := 21) (d := d) (As := []) (st := [.ref (ad a0)]) dX9_orderRefusal_21 s1079 k0 (by decide) rfl rfl (by decide) (Nat.le_of_ble_eq_true rfl) (fun q hq => t_X9_wayNow k0 hq) hf (fun q3 hf => ?_)
      refine j_iload_n (pc := 24) 1 dX9_orderRefusal_24 rfl rfl ?_
      refine j_callVi (pc := 25) (d := d) (As := [.int q3.1, .int x1]) (st := []) dX9_orderRefusal_25 s1118 k0 (by decide) rfl rfl (by decide) (Nat.le_of_ble_eq_true rfl) (fun q hq => t_X9_houses (by omega) k0 hq) hf (fun q4 hf => ?_)
      refine j_if_ne (pc := 28) (tgt := 36) dX9_orderRefusal_28 (by decide) hf (fun _ hf => ?_) (fun _ hf => ?_)
      · refine j_iconst (pc := 36) dX9_orderRefusal_36 (v := 0) (by decide) ?_
        exact j_iret (pc := 37) dX9_orderRefusal_37 rfl hf
      · refine j_sub [] rfl ?_
        exact t_X9_orderRefusal_31 hdp   hf
  · refine j_bipush (pc := 7) dX9_orderRefusal_7 (v := -2) (by decide) ?_
    exact j_iret (pc := 9) dX9_orderRefusal_9 rfl hf
def f_X9_plans_161 (k115 : Nat → Int32 → Hp → Option (Int32 × Hp)) (a0 : Nat) (x2 : Int32) (h : Hp) : Option (Int32 × Hp) := lt (x2 + 1) (fun v18 => k115 a0 v18 h)
set_option maxHeartbeats 4000000 in
set_option maxRecDepth 100000 in
theorem t_X9_plans_161 {l : Launch} {D : va_G} {ad : Nat → Nat} {cA : Nat → ClassId} {d : Nat} (hdp : 7 ≤ d) {o : Int32 × Hp} {k115 : Nat → Int32 → Hp → Option (Int32 × Hp)} (hk115 : ∀ {a0 : Nat} {x2 : Int32} (k0 : kd a0 = 9) {h : Hp}, k115 a0 x2 h = some o → J l D ad cA (fun _ => True) (rmd (d + 1)) (0, 0) (mQ D ad cA (some (.int o.1)) o.2) cX9_plans RX9 3 (some .boolean) 115 [(0, .ref (ad a0)), (2, .int x2)] [] h) {a0 : Nat} {x2 : Int32} (k0 : kd a0 = 9) {h : Hp} (hf : f_X9_plans_161 k115 a0 x2 h = some o) : J l D ad cA (fun _ => True) (rmd (d + 1)) (0, 0) (mQ D ad cA (some (.int o.1)) o.2) cX9_plans RX9 3 (some .boolean) 161 [(0, .ref (ad a0)), (2, .int x2)] [] h := by
  unfold f_X9_plans_161 at hf
  refine j_iinc (pc := 161) 1 (c := 1) (lv' := fun v18 => [(2, .int v18), (0, .ref (ad a0))]) dX9_plans_161 rfl (by decide) (by decide) (fun _ => rfl) hf (fun v18 hf => ?_)
  refine j_goto (pc := 164) (tgt := 115) dX9_plans_164 (by decide) ?_
  refine j_sub [1, 0] rfl ?_
  exact hk115 k0 hf
def f_X9_plans_115 (k115 : Nat → Int32 → Hp → Option (Int32 × Hp)) (a0 : Nat) (x2 : Int32) (h : Hp) : Option (Int32 × Hp) := if 6 ≤ x2 then (if isB 1 = true then some (1, h) else none) else (if ix x2 6 = true then (if ix x2 6 = true then (lt (sI h (a0 + 22) (Int32.toNatClampNeg x2) (h.1 (a0 + 16) (Int32.toNatClampNeg x2))) (fun m14 => (f_X9_isIn a0 x2 m14).bind (fun q15 => if q15.1 = 0 then (f_X9_plans_161 k115 a0 x2 q15.2) else (if ix (q15.2.1 a0 32) 6 = true then (lt (sI q15.2 (a0 + 21) (Int32.toNatClampNeg (q15.2.1 a0 32)) x2) (fun m16 => lt (sI m16 a0 32 ((m16.1 a0 32) + 1)) (fun m17 => f_X9_plans_161 k115 a0 x2 m17))) else none)))) else none) else none)
set_option maxHeartbeats 4000000 in
set_option maxRecDepth 100000 in
theorem t_X9_plans_115 {l : Launch} {D : va_G} {ad : Nat → Nat} {cA : Nat → ClassId} {d : Nat} (hdp : 7 ≤ d) {o : Int32 × Hp}  : ∀ (n : Nat) {a0 : Nat} {x2 : Int32} (k0 : kd a0 = 9) {h : Hp}, lp (F := Nat → Int32 → Hp → Option (Int32 × Hp)) (fun _ _ _ => none) (f_X9_plans_115) n a0 x2 h = some o → J l D ad cA (fun _ => True) (rmd (d + 1)) (0, 0) (mQ D ad cA (some (.int o.1)) o.2) cX9_plans RX9 3 (some .boolean) 115 [(0, .ref (ad a0)), (2, .int x2)] [] h := by
  intro n
  induction n with
  | zero =>
    intro a0 x2 k0 h hf
    have hf : (none : Option (Int32 × Hp)) = some o := hf
    cases hf
  | succ n hk115 =>
    intro a0 x2 k0 h hf
    have hf : f_X9_plans_115  (lp (F := Nat → Int32 → Hp → Option (Int32 × Hp)) (fun _ _ _ => none) (f_X9_plans_115) n) a0 x2 h = some o := hf
    unfold f_X9_plans_115 at hf
    refine j_iload_n (pc := 115) 1 dX9_plans_115 rfl rfl ?_
    refine j_bipush (pc := 116) dX9_plans_116 (v := 6) (by decide) ?_
    refine j_icmp_ge (pc := 118) (tgt := 167) dX9_plans_118 (by decide) hf (fun _ hf => ?_) (fun _ hf => ?_)
    · refine j_iconst (pc := 167) dX9_plans_167 (v := 1) (by decide) ?_
      exact j_zret (pc := 168) dX9_plans_168 rfl hf
    · refine j_aload_n (pc := 121) 0 dX9_plans_121 rfl rfl ?_
      refine j_getR (pc := 122) (n := 22) dX9_plans_122 fl879 k0 (by decide) rfl ?_
      refine j_iload_n (pc := 125) 1 dX9_plans_125 rfl rfl ?_
      refine j_aload_n (pc := 126) 0 dX9_plans_126 rfl rfl ?_
      refine j_getR (pc := 127) (n := 16) dX9_plans_127 fl868 k0 (by decide) rfl ?_
      refine j_iload_n (pc := 130) 1 dX9_plans_130 rfl rfl ?_
      refine j_iaload (pc := 131) dX9_plans_131 (lk_9_22 k0) (ll_9_22 k0) hf (fun _ hf => ?_)
      refine j_iastore (pc := 132) dX9_plans_132 (lk_9_33 k0) (ll_9_33 k0) hf (fun m14 hf => ?_)
      refine j_aload_n (pc := 133) 0 dX9_plans_133 rfl rfl ?_
      refine j_iload_n (pc := 134) 1 dX9_plans_134 rfl rfl ?_
      refine j_callVi (pc := 135) (d := d) (As := [.int x2]) (st := []) dX9_plans_135 s1106 k0 (by decide) rfl rfl (by decide) (Nat.le_of_ble_eq_true rfl) (fun q hq => t_X9_isIn (by omega) k0 hq) hf (fun q15 hf => ?_)
      refine j_if_eq (pc := 138) (tgt := 161) dX9_plans_138 (by decide) hf (fun _ hf => ?_) (fun _ hf => ?_)
      · refine j_sub [0, 1] rfl ?_
        exact t_X9_plans_161 hdp hk115 k0 hf
      · refine j_aload_n (pc := 141) 0 dX9_plans_141 rfl rfl ?_
        refine j_getR (pc := 142) (n := 21) dX9_plans_142 fl876 k0 (by decide) rfl ?_
        refine j_aload_n (pc := 145) 0 dX9_plans_145 rfl rfl ?_
        refine j_getI (pc := 146) dX9_plans_146 fl878 k0 (by decide) rfl ?_
        refine j_iload_n (pc := 149) 1 dX9_plans_149 rfl rfl ?_
        refine j_iastore (pc := 150) dX9_plans_150 (lk_9_30 k0) (ll_9_30 k0) hf (fun m16 hf => ?_)
        refine j_aload_n (pc := 151) 0 dX9_plans_151 rfl rfl ?_
        refine j_dup (pc := 152) dX9_plans_152 rfl ?_
        refine j_getI (pc := 153) dX9_plans_153 fl878 k0 (by decide) rfl ?_
        refine j_iconst (pc := 156) dX9_plans_156 (v := 1) (by decide) ?_
        refine j_iadd (pc := 157) dX9_plans_157  ?_
        refine j_putI (pc := 158) dX9_plans_158 fl878 fp9_32 k0 (by decide) rfl hf (fun m17 hf => ?_)
        refine j_sub [0, 1] rfl ?_
        exact t_X9_plans_161 hdp hk115 k0 hf
def f_X9_plans_107 (k74 : Nat → Int32 → Hp → Option (Int32 × Hp)) (a0 : Nat) (x2 : Int32) (h : Hp) : Option (Int32 × Hp) := lt (x2 + 1) (fun v19 => k74 a0 v19 h)
set_option maxHeartbeats 4000000 in
set_option maxRecDepth 100000 in
theorem t_X9_plans_107 {l : Launch} {D : va_G} {ad : Nat → Nat} {cA : Nat → ClassId} {d : Nat} (hdp : 7 ≤ d) {o : Int32 × Hp} {k74 : Nat → Int32 → Hp → Option (Int32 × Hp)} (hk74 : ∀ {a0 : Nat} {x2 : Int32} (k0 : kd a0 = 9) {h : Hp}, k74 a0 x2 h = some o → J l D ad cA (fun _ => True) (rmd (d + 1)) (0, 0) (mQ D ad cA (some (.int o.1)) o.2) cX9_plans RX9 3 (some .boolean) 74 [(0, .ref (ad a0)), (2, .int x2)] [] h) {a0 : Nat} {x2 : Int32} (k0 : kd a0 = 9) {h : Hp} (hf : f_X9_plans_107 k74 a0 x2 h = some o) : J l D ad cA (fun _ => True) (rmd (d + 1)) (0, 0) (mQ D ad cA (some (.int o.1)) o.2) cX9_plans RX9 3 (some .boolean) 107 [(0, .ref (ad a0)), (2, .int x2)] [] h := by
  unfold f_X9_plans_107 at hf
  refine j_iinc (pc := 107) 1 (c := 1) (lv' := fun v19 => [(2, .int v19), (0, .ref (ad a0))]) dX9_plans_107 rfl (by decide) (by decide) (fun _ => rfl) hf (fun v19 hf => ?_)
  refine j_goto (pc := 110) (tgt := 74) dX9_plans_110 (by decide) ?_
  refine j_sub [1, 0] rfl ?_
  exact hk74 k0 hf
def f_X9_plans_74 (k74 : Nat → Int32 → Hp → Option (Int32 × Hp)) (a0 : Nat) (x2 : Int32) (h : Hp) : Option (Int32 × Hp) := if 4 ≤ x2 then (lp (F := Nat → Int32 → Hp → Option (Int32 × Hp)) (fun _ _ _ => none) (f_X9_plans_115) 1000 a0 0 h) else ((f_X9_seatsOf a0 x2 h).bind (fun q11 => if q11.1 ≤ 0 then (f_X9_plans_107 k74 a0 x2 q11.2) else (if ix (q11.2.1 a0 31) 4 = true then (lt (sI q11.2 (a0 + 20) (Int32.toNatClampNeg (q11.2.1 a0 31)) x2) (fun m12 => lt (sI m12 a0 31 ((m12.1 a0 31) + 1)) (fun m13 => f_X9_plans_107 k74 a0 x2 m13))) else none)))
set_option maxHeartbeats 4000000 in
set_option maxRecDepth 100000 in
theorem t_X9_plans_74 {l : Launch} {D : va_G} {ad : Nat → Nat} {cA : Nat → ClassId} {d : Nat} (hdp : 7 ≤ d) {o : Int32 × Hp}  : ∀ (n : Nat) {a0 : Nat} {x2 : Int32} (k0 : kd a0 = 9) {h : Hp}, lp (F := Nat → Int32 → Hp → Option (Int32 × Hp)) (fun _ _ _ => none) (f_X9_plans_74) n a0 x2 h = some o → J l D ad cA (fun _ => True) (rmd (d + 1)) (0, 0) (mQ D ad cA (some (.int o.1)) o.2) cX9_plans RX9 3 (some .boolean) 74 [(0, .ref (ad a0)), (2, .int x2)] [] h := by
  intro n
  induction n with
  | zero =>
    intro a0 x2 k0 h hf
    have hf : (none : Option (Int32 × Hp)) = some o := hf
    cases hf
  | succ n hk74 =>
    intro a0 x2 k0 h hf
    have hf : f_X9_plans_74  (lp (F := Nat → Int32 → Hp → Option (Int32 × Hp)) (fun _ _ _ => none) (f_X9_plans_74) n) a0 x2 h = some o := hf
    unfold f_X9_plans_74 at hf
    refine j_iload_n (pc := 74) 1 dX9_plans_74 rfl rfl ?_
    refine j_iconst (pc := 75) dX9_plans_75 (v := 4) (by decide) ?_
    refine j_icmp_ge (pc := 76) (tgt := 113) dX9_plans_76 (by decide) hf (fun _ hf => ?_) (fun _ hf => ?_)
    · refine j_iconst (pc := 113) dX9_plans_113 (v := 0) (by decide) ?_
      refine j_istore_n (pc := 114) (lv' := [(2, .int 0), (0, .ref (ad a0))]) dX9_plans_114 rfl (by decide) rfl ?_
      refine j_sub [1, 0] rfl ?_
      exact t_X9_plans_115 hdp  1000 k0 hf
    · refine j_aload_n (pc := 79) 0 dX9_plans_79 rfl rfl ?_
      refine j_iload_n (pc := 80) 1 dX9_plans_80 rfl rfl ?_
      refine j_callVi (pc := 81) (d := d) (As := [.int x2]) (st := []) dX9_plans_81 s1275 k0 (by decide) rfl rfl (by decide) (Nat.le_of_ble_eq_true rfl) (fun q hq => t_X9_seatsOf k0 hq) hf (fun q11 hf => ?_)
      refine j_if_le (pc := 84) (tgt := 107) dX9_plans_84 (by decide) hf (fun _ hf => ?_) (fun _ hf => ?_)
      · refine j_sub [0, 1] rfl ?_
        exact t_X9_plans_107 hdp hk74 k0 hf
      · refine j_aload_n (pc := 87) 0 dX9_plans_87 rfl rfl ?_
        refine j_getR (pc := 88) (n := 20) dX9_plans_88 fl875 k0 (by decide) rfl ?_
        refine j_aload_n (pc := 91) 0 dX9_plans_91 rfl rfl ?_
        refine j_getI (pc := 92) dX9_plans_92 fl877 k0 (by decide) rfl ?_
        refine j_iload_n (pc := 95) 1 dX9_plans_95 rfl rfl ?_
        refine j_iastore (pc := 96) dX9_plans_96 (lk_9_29 k0) (ll_9_29 k0) hf (fun m12 hf => ?_)
        refine j_aload_n (pc := 97) 0 dX9_plans_97 rfl rfl ?_
        refine j_dup (pc := 98) dX9_plans_98 rfl ?_
        refine j_getI (pc := 99) dX9_plans_99 fl877 k0 (by decide) rfl ?_
        refine j_iconst (pc := 102) dX9_plans_102 (v := 1) (by decide) ?_
        refine j_iadd (pc := 103) dX9_plans_103  ?_
        refine j_putI (pc := 104) dX9_plans_104 fl877 fp9_31 k0 (by decide) rfl hf (fun m13 hf => ?_)
        refine j_sub [0, 1] rfl ?_
        exact t_X9_plans_107 hdp hk74 k0 hf
def f_X9_plans_48  (a0 : Nat) (x1 : Int32) (h : Hp) : Option (Int32 × Hp) := (f_X9_wayNow a0 h).bind (fun q7 => (f_X9_houses a0 q7.1 x1 q7.2).bind (fun q8 => if q8.1 = 0 then (if isB 0 = true then some (0, q8.2) else none) else (lt (sI q8.2 a0 31 0) (fun m9 => lt (sI m9 a0 32 0) (fun m10 => lp (F := Nat → Int32 → Hp → Option (Int32 × Hp)) (fun _ _ _ => none) (f_X9_plans_74) 1000 a0 0 m10)))))
set_option maxHeartbeats 4000000 in
set_option maxRecDepth 100000 in
theorem t_X9_plans_48 {l : Launch} {D : va_G} {ad : Nat → Nat} {cA : Nat → ClassId} {d : Nat} (hdp : 7 ≤ d) {o : Int32 × Hp}  {a0 : Nat} {x1 : Int32} (k0 : kd a0 = 9) {h : Hp} (hf : f_X9_plans_48  a0 x1 h = some o) : J l D ad cA (fun _ => True) (rmd (d + 1)) (0, 0) (mQ D ad cA (some (.int o.1)) o.2) cX9_plans RX9 3 (some .boolean) 48 [(0, .ref (ad a0)), (1, .int x1)] [] h := by
  unfold f_X9_plans_48 at hf
  refine j_aload_n (pc := 48) 0 dX9_plans_48 rfl rfl ?_
  refine j_aload_n (pc := 49) 0 dX9_plans_49 rfl rfl ?_
  refine j_callVi (pc := 50) (d := d) (As := []) (st := [.ref (ad a0)]) dX9_plans_50 s1079 k0 (by decide) rfl rfl (by decide) (Nat.le_of_ble_eq_true rfl) (fun q hq => t_X9_wayNow k0 hq) hf (fun q7 hf => ?_)
  refine j_iload_n (pc := 53) 1 dX9_plans_53 rfl rfl ?_
  refine j_callVi (pc := 54) (d := d) (As := [.int q7.1, .int x1]) (st := []) dX9_plans_54 s1118 k0 (by decide) rfl rfl (by decide) (Nat.le_of_ble_eq_true rfl) (fun q hq => t_X9_houses (by omega) k0 hq) hf (fun q8 hf => ?_)
  refine j_if_ne (pc := 57) (tgt := 62) dX9_plans_57 (by decide) hf (fun _ hf => ?_) (fun _ hf => ?_)
  · refine j_aload_n (pc := 62) 0 dX9_plans_62 rfl rfl ?_
    refine j_iconst (pc := 63) dX9_plans_63 (v := 0) (by decide) ?_
    refine j_putI (pc := 64) dX9_plans_64 fl877 fp9_31 k0 (by decide) rfl hf (fun m9 hf => ?_)
    refine j_aload_n (pc := 67) 0 dX9_plans_67 rfl rfl ?_
    refine j_iconst (pc := 68) dX9_plans_68 (v := 0) (by decide) ?_
    refine j_putI (pc := 69) dX9_plans_69 fl878 fp9_32 k0 (by decide) rfl hf (fun m10 hf => ?_)
    refine j_iconst (pc := 72) dX9_plans_72 (v := 0) (by decide) ?_
    refine j_istore_n (pc := 73) (lv' := [(2, .int 0), (0, .ref (ad a0)), (1, .int x1)]) dX9_plans_73 rfl (by decide) rfl ?_
    refine j_sub [1, 0] rfl ?_
    exact t_X9_plans_74 hdp  1000 k0 hf
  · refine j_iconst (pc := 60) dX9_plans_60 (v := 0) (by decide) ?_
    exact j_zret (pc := 61) dX9_plans_61 rfl hf
def f_X9_plans (a0 : Nat) (h : Hp) : Option (Int32 × Hp) := (f_X9_allSeats a0 h).bind (fun q1 => (f_X9_within (Int32.toInt64 q1.1) 1 60 q1.2).bind (fun q2 => if q2.1 = 0 then (if isB 0 = true then some (0, q2.2) else none) else ((f_X9_wayNow a0 q2.2).bind (fun q3 => if q3.1 = 0 then (f_X9_plans_48  a0 q1.1 q3.2) else ((f_X9_wayNow a0 q3.2).bind (fun q4 => if q4.1 = 1 then (f_X9_plans_48  a0 q1.1 q4.2) else ((f_X9_wayNow a0 q4.2).bind (fun q5 => if q5.1 = 2 then (f_X9_plans_48  a0 q1.1 q5.2) else ((f_X9_wayNow a0 q5.2).bind (fun q6 => if q6.1 = 5 then (f_X9_plans_48  a0 q1.1 q6.2) else (if isB 0 = true then some (0, q6.2) else none)))))))))))
set_option maxHeartbeats 4000000 in
set_option maxRecDepth 100000 in
theorem t_X9_plans {l : Launch} {D : va_G} {ad : Nat → Nat} {cA : Nat → ClassId} {d : Nat} (hdp : 8 ≤ d) {a0 : Nat} (k0 : kd a0 = 9) {h : Hp} {o : Int32 × Hp} (hf : f_X9_plans a0 h = some o) : Cr l D ad cA d yX9_plans cX9_plans 3 (some .boolean) [.ref (ad a0)] h (some (.int o.1)) o.2 := by
  obtain ⟨d, rfl⟩ : ∃ e, d = e + 1 := ⟨d - 1, by omega⟩
  have hdp : 7 ≤ d := by omega
  unfold f_X9_plans at hf
  refine Cr_of (by decide +kernel) rfl (Nat.le_of_ble_eq_true rfl) (lv0 := [(0, .ref (ad a0))]) rfl ?_
  refine j_aload_n (pc := 0) 0 dX9_plans_0 rfl rfl ?_
  refine j_callVi (pc := 1) (d := d) (As := []) (st := []) dX9_plans_1 s1271 k0 (by decide) rfl rfl (by decide) (Nat.le_of_ble_eq_true rfl) (fun q hq => t_X9_allSeats (by omega) k0 hq) hf (fun q1 hf => ?_)
  refine j_istore_n (pc := 4) (lv' := [(1, .int q1.1), (0, .ref (ad a0))]) dX9_plans_4 rfl (by decide) rfl ?_
  refine j_iload_n (pc := 5) 0 dX9_plans_5 rfl rfl ?_
  refine j_i2l (pc := 6) dX9_plans_6  ?_
  refine j_lconst (pc := 7) dX9_plans_7 (v := 1) rfl ?_
  refine j_ldc2_w (pc := 8) dX9_plans_8 (v := 60) w_c1075 ?_
  refine j_callSi (pc := 11) (d := d) (As := [.long (Int32.toInt64 q1.1), .long 1, .long 60]) (st := []) dX9_plans_11 s982 rfl rfl (by decide) (Nat.le_of_ble_eq_true rfl) (fun q hq => t_X9_within  hq) hf (fun q2 hf => ?_)
  refine j_if_eq (pc := 14) (tgt := 60) dX9_plans_14 (by decide) hf (fun _ hf => ?_) (fun _ hf => ?_)
  · refine j_iconst (pc := 60) dX9_plans_60 (v := 0) (by decide) ?_
    exact j_zret (pc := 61) dX9_plans_61 rfl hf
  · refine j_aload_n (pc := 17) 1 dX9_plans_17 rfl rfl ?_
    refine j_callVi (pc := 18) (d := d) (As := []) (st := []) dX9_plans_18 s1079 k0 (by decide) rfl rfl (by decide) (Nat.le_of_ble_eq_true rfl) (fun q hq => t_X9_wayNow k0 hq) hf (fun q3 hf => ?_)
    refine j_if_eq (pc := 21) (tgt := 48) dX9_plans_21 (by decide) hf (fun _ hf => ?_) (fun _ hf => ?_)
    · refine j_sub [1, 0] rfl ?_
      exact t_X9_plans_48 hdp  k0 hf
    · refine j_aload_n (pc := 24) 1 dX9_plans_24 rfl rfl ?_
      refine j_callVi (pc := 25) (d := d) (As := []) (st := []) dX9_plans_25 s1079 k0 (by decide) rfl rfl (by decide) (Nat.le_of_ble_eq_true rfl) (fun q hq => t_X9_wayNow k0 hq) hf (fun q4 hf => ?_)
      refine j_iconst (pc := 28) dX9_plans_28 (v := 1) (by decide) ?_
      refine j_icmp_eq (pc := 29) (tgt := 48) dX9_plans_29 (by decide) hf (fun _ hf => ?_) (fun _ hf => ?_)
      · refine j_sub [1, 0] rfl ?_
        exact t_X9_plans_48 hdp  k0 hf
      · refine j_aload_n (pc := 32) 1 dX9_plans_32 rfl rfl ?_
        refine j_callVi (pc := 33) (d := d) (As := []) (st := []) dX9_plans_33 s1079 k0 (by decide) rfl rfl (by decide) (Nat.le_of_ble_eq_true rfl) (fun q hq => t_X9_wayNow k0 hq) hf (fun q5 hf => ?_)
        refine j_iconst (pc := 36) dX9_plans_36 (v := 2) (by decide) ?_
        refine j_icmp_eq (pc := 37) (tgt := 48) dX9_plans_37 (by decide) hf (fun _ hf => ?_) (fun _ hf => ?_)
        · refine j_sub [1, 0] rfl ?_
          exact t_X9_plans_48 hdp  k0 hf
        · refine j_aload_n (pc := 40) 1 dX9_plans_40 rfl rfl ?_
          refine j_callVi (pc := 41) (d := d) (As := []) (st := []) dX9_plans_41 s1079 k0 (by decide) rfl rfl (by decide) (Nat.le_of_ble_eq_true rfl) (fun q hq => t_X9_wayNow k0 hq) hf (fun q6 hf => ?_)
          refine j_iconst (pc := 44) dX9_plans_44 (v := 5) (by decide) ?_
          refine j_icmp_ne (pc := 45) (tgt := 60) dX9_plans_45 (by decide) hf (fun _ hf => ?_) (fun _ hf => ?_)
          · refine j_iconst (pc := 60) dX9_plans_60 (v := 0) (by decide) ?_
            exact j_zret (pc := 61) dX9_plans_61 rfl hf
          · refine j_sub [1, 0] rfl ?_
            exact t_X9_plans_48 hdp  k0 hf
def f_X9_quota_166 (k72 : Nat → Int32 → Int64 → Int32 → Int32 → Hp → Option (Int32 × Hp)) (a0 : Nat) (x1 : Int32) (x2 : Int64) (x4 : Int32) (x5 : Int32) (h : Hp) : Option (Int32 × Hp) := lt (x5 + 1) (fun v10 => k72 a0 x1 x2 x4 v10 h)
set_option maxHeartbeats 4000000 in
set_option maxRecDepth 100000 in
theorem t_X9_quota_166 {l : Launch} {D : va_G} {ad : Nat → Nat} {cA : Nat → ClassId} {d : Nat} (hdp : 7 ≤ d) {o : Int32 × Hp} {k72 : Nat → Int32 → Int64 → Int32 → Int32 → Hp → Option (Int32 × Hp)} (hk72 : ∀ {a0 : Nat} {x1 : Int32} {x2 : Int64} {x4 : Int32} {x5 : Int32} (k0 : kd a0 = 9) {h : Hp}, k72 a0 x1 x2 x4 x5 h = some o → J l D ad cA (fun _ => True) (rmd (d + 1)) (0, 0) (mQ D ad cA (some (.int o.1)) o.2) cX9_quota RX9 12 (some .int) 72 [(0, .ref (ad a0)), (1, .int x1), (2, .long x2), (4, .int x4), (5, .int x5)] [] h) {a0 : Nat} {x1 : Int32} {x2 : Int64} {x4 : Int32} {x5 : Int32} (k0 : kd a0 = 9) {h : Hp} (hf : f_X9_quota_166 k72 a0 x1 x2 x4 x5 h = some o) : J l D ad cA (fun _ => True) (rmd (d + 1)) (0, 0) (mQ D ad cA (some (.int o.1)) o.2) cX9_quota RX9 12 (some .int) 166 [(0, .ref (ad a0)), (1, .int x1), (2, .long x2), (4, .int x4), (5, .int x5)] [] h := by
  unfold f_X9_quota_166 at hf
  refine j_iinc (pc := 166) 4 (c := 1) (lv' := fun v10 => [(5, .int v10), (0, .ref (ad a0)), (1, .int x1), (2, .long x2), (4, .int x4)]) dX9_quota_166 rfl (by decide) (by decide) (fun _ => rfl) hf (fun v10 hf => ?_)
  refine j_goto (pc := 169) (tgt := 72) dX9_quota_169 (by decide) ?_
  refine j_sub [1, 2, 3, 4, 0] rfl ?_
  exact hk72 k0 hf
def f_X9_quota_163 (k72 : Nat → Int32 → Int64 → Int32 → Int32 → Hp → Option (Int32 × Hp)) (a0 : Nat) (x1 : Int32) (x2 : Int64) (x5 : Int32) (y0 : Int32) (y1 : Int32) (h : Hp) : Option (Int32 × Hp) := lt (y1 ||| y0) (fun v13 => f_X9_quota_166 k72 a0 x1 x2 v13 x5 h)
set_option maxHeartbeats 4000000 in
set_option maxRecDepth 100000 in
theorem t_X9_quota_163 {l : Launch} {D : va_G} {ad : Nat → Nat} {cA : Nat → ClassId} {d : Nat} (hdp : 7 ≤ d) {o : Int32 × Hp} {k72 : Nat → Int32 → Int64 → Int32 → Int32 → Hp → Option (Int32 × Hp)} (hk72 : ∀ {a0 : Nat} {x1 : Int32} {x2 : Int64} {x4 : Int32} {x5 : Int32} (k0 : kd a0 = 9) {h : Hp}, k72 a0 x1 x2 x4 x5 h = some o → J l D ad cA (fun _ => True) (rmd (d + 1)) (0, 0) (mQ D ad cA (some (.int o.1)) o.2) cX9_quota RX9 12 (some .int) 72 [(0, .ref (ad a0)), (1, .int x1), (2, .long x2), (4, .int x4), (5, .int x5)] [] h) {a0 : Nat} {x1 : Int32} {x2 : Int64} {x5 : Int32} {y0 : Int32} {y1 : Int32} (k0 : kd a0 = 9) {h : Hp} (hf : f_X9_quota_163 k72 a0 x1 x2 x5 y0 y1 h = some o) : J l D ad cA (fun _ => True) (rmd (d + 1)) (0, 0) (mQ D ad cA (some (.int o.1)) o.2) cX9_quota RX9 12 (some .int) 163 [(0, .ref (ad a0)), (1, .int x1), (2, .long x2), (5, .int x5)] [.int y0, .int y1] h := by
  unfold f_X9_quota_163 at hf
  refine j_ior (pc := 163) dX9_quota_163  ?_
  refine j_istoreN (pc := 164) (lv' := fun v13 => [(4, .int v13), (0, .ref (ad a0)), (1, .int x1), (2, .long x2), (5, .int x5)]) dX9_quota_164 (by decide) (fun _ => rfl) hf (fun v13 hf => ?_)
  refine j_sub [1, 2, 3, 0, 4] rfl ?_
  exact t_X9_quota_166 hdp hk72 k0 hf
def f_X9_quota_131 (k72 : Nat → Int32 → Int64 → Int32 → Int32 → Hp → Option (Int32 × Hp)) (a0 : Nat) (x1 : Int32) (x2 : Int64) (x4 : Int32) (x5 : Int32) (x8 : Int64) (y0 : Int32) (y1 : Int64) (h : Hp) : Option (Int32 × Hp) := lt (y1 + (Int32.toInt64 y0)) (fun v11 => if ix x5 6 = true then ((f_X9_within (Int32.toInt64 (h.1 (a0 + 16) (Int32.toNatClampNeg x5))) x8 v11 h).bind (fun q12 => if q12.1 = 0 then (f_X9_quota_163 k72 a0 x1 x2 x5 (1 <<< (x5 &&& 31)) x4 q12.2) else (f_X9_quota_163 k72 a0 x1 x2 x5 0 x4 q12.2))) else none)
set_option maxHeartbeats 4000000 in
set_option maxRecDepth 100000 in
theorem t_X9_quota_131 {l : Launch} {D : va_G} {ad : Nat → Nat} {cA : Nat → ClassId} {d : Nat} (hdp : 7 ≤ d) {o : Int32 × Hp} {k72 : Nat → Int32 → Int64 → Int32 → Int32 → Hp → Option (Int32 × Hp)} (hk72 : ∀ {a0 : Nat} {x1 : Int32} {x2 : Int64} {x4 : Int32} {x5 : Int32} (k0 : kd a0 = 9) {h : Hp}, k72 a0 x1 x2 x4 x5 h = some o → J l D ad cA (fun _ => True) (rmd (d + 1)) (0, 0) (mQ D ad cA (some (.int o.1)) o.2) cX9_quota RX9 12 (some .int) 72 [(0, .ref (ad a0)), (1, .int x1), (2, .long x2), (4, .int x4), (5, .int x5)] [] h) {a0 : Nat} {x1 : Int32} {x2 : Int64} {x4 : Int32} {x5 : Int32} {x8 : Int64} {y0 : Int32} {y1 : Int64} (k0 : kd a0 = 9) {h : Hp} (hf : f_X9_quota_131 k72 a0 x1 x2 x4 x5 x8 y0 y1 h = some o) : J l D ad cA (fun _ => True) (rmd (d + 1)) (0, 0) (mQ D ad cA (some (.int o.1)) o.2) cX9_quota RX9 12 (some .int) 131 [(0, .ref (ad a0)), (1, .int x1), (2, .long x2), (4, .int x4), (5, .int x5), (8, .long x8)] [.int y0, .long y1] h := by
  unfold f_X9_quota_131 at hf
  refine j_i2l (pc := 131) dX9_quota_131  ?_
  refine j_ladd (pc := 132) dX9_quota_132  ?_
  refine j_lstoreN (pc := 133) (lv' := fun v11 => [(10, .long v11), (0, .ref (ad a0)), (1, .int x1), (2, .long x2), (4, .int x4), (5, .int x5), (8, .long x8)]) dX9_quota_133 (by decide) (fun _ => rfl) hf (fun v11 hf => ?_)
  refine j_iload (pc := 135) 4 dX9_quota_135 rfl ?_
  refine j_aload_n (pc := 137) 1 dX9_quota_137 rfl rfl ?_
  refine j_getR (pc := 138) (n := 16) dX9_quota_138 fl868 k0 (by decide) rfl ?_
  refine j_iload (pc := 141) 5 dX9_quota_141 rfl ?_
  refine j_iaload (pc := 143) dX9_quota_143 (lk_9_22 k0) (ll_9_22 k0) hf (fun _ hf => ?_)
  refine j_i2l (pc := 144) dX9_quota_144  ?_
  refine j_lload (pc := 145) 6 dX9_quota_145 rfl ?_
  refine j_lload (pc := 147) 0 dX9_quota_147 rfl ?_
  refine j_callSi (pc := 149) (d := d) (As := [.long (Int32.toInt64 (h.1 (a0 + 16) (Int32.toNatClampNeg x5))), .long x8, .long v11]) (st := [.int x4]) dX9_quota_149 s982 rfl rfl (by decide) (Nat.le_of_ble_eq_true rfl) (fun q hq => t_X9_within  hq) hf (fun q12 hf => ?_)
  refine j_if_eq (pc := 152) (tgt := 159) dX9_quota_152 (by decide) hf (fun _ hf => ?_) (fun _ hf => ?_)
  · refine j_iconst (pc := 159) dX9_quota_159 (v := 1) (by decide) ?_
    refine j_iload (pc := 160) 5 dX9_quota_160 rfl ?_
    refine j_ishl (pc := 162) dX9_quota_162  ?_
    refine j_sub [1, 2, 3, 5] rfl ?_
    exact t_X9_quota_163 hdp hk72 k0 hf
  · refine j_iconst (pc := 155) dX9_quota_155 (v := 0) (by decide) ?_
    refine j_goto (pc := 156) (tgt := 163) dX9_quota_156 (by decide) ?_
    refine j_sub [1, 2, 3, 5] rfl ?_
    exact t_X9_quota_163 hdp hk72 k0 hf
def f_X9_quota_72 (k72 : Nat → Int32 → Int64 → Int32 → Int32 → Hp → Option (Int32 × Hp)) (a0 : Nat) (x1 : Int32) (x2 : Int64) (x4 : Int32) (x5 : Int32) (h : Hp) : Option (Int32 × Hp) := if 6 ≤ x5 then (some (x4, h)) else (if (lg_cmp x2 0) ≤ 0 then (some (x4, h)) else ((f_X9_isIn a0 x5 h).bind (fun q6 => if q6.1 = 0 then (f_X9_quota_166 k72 a0 x1 x2 x4 x5 q6.2) else ((f_X9_total a0 x5 q6.2).bind (fun q7 => lt ((Int32.toInt64 q7.1) * (Int32.toInt64 x1)) (fun v8 => if x2 = 0 then none else (lt (v8 / x2) (fun v9 => if x2 = 0 then none else (if (lg_cmp (v8 - v8 / x2 * x2) 0) ≤ 0 then (f_X9_quota_131 k72 a0 x1 x2 x4 x5 v9 0 v9 q7.2) else (f_X9_quota_131 k72 a0 x1 x2 x4 x5 v9 1 v9 q7.2))))))))))
set_option maxHeartbeats 4000000 in
set_option maxRecDepth 100000 in
theorem t_X9_quota_72 {l : Launch} {D : va_G} {ad : Nat → Nat} {cA : Nat → ClassId} {d : Nat} (hdp : 7 ≤ d) {o : Int32 × Hp}  : ∀ (n : Nat) {a0 : Nat} {x1 : Int32} {x2 : Int64} {x4 : Int32} {x5 : Int32} (k0 : kd a0 = 9) {h : Hp}, lp (F := Nat → Int32 → Int64 → Int32 → Int32 → Hp → Option (Int32 × Hp)) (fun _ _ _ _ _ _ => none) (f_X9_quota_72) n a0 x1 x2 x4 x5 h = some o → J l D ad cA (fun _ => True) (rmd (d + 1)) (0, 0) (mQ D ad cA (some (.int o.1)) o.2) cX9_quota RX9 12 (some .int) 72 [(0, .ref (ad a0)), (1, .int x1), (2, .long x2), (4, .int x4), (5, .int x5)] [] h := by
  intro n
  induction n with
  | zero =>
    intro a0 x1 x2 x4 x5 k0 h hf
    have hf : (none : Option (Int32 × Hp)) = some o := hf
    cases hf
  | succ n hk72 =>
    intro a0 x1 x2 x4 x5 k0 h hf
    have hf : f_X9_quota_72  (lp (F := Nat → Int32 → Int64 → Int32 → Int32 → Hp → Option (Int32 × Hp)) (fun _ _ _ _ _ _ => none) (f_X9_quota_72) n) a0 x1 x2 x4 x5 h = some o := hf
    unfold f_X9_quota_72 at hf
    refine j_iload (pc := 72) 4 dX9_quota_72 rfl ?_
    refine j_bipush (pc := 74) dX9_quota_74 (v := 6) (by decide) ?_
    refine j_icmp_ge (pc := 76) (tgt := 172) dX9_quota_76 (by decide) hf (fun _ hf => ?_) (fun _ hf => ?_)
    · refine j_iload (pc := 172) 3 dX9_quota_172 rfl ?_
      exact j_iret (pc := 174) dX9_quota_174 rfl hf
    · refine j_lload_n (pc := 79) 2 dX9_quota_79 rfl rfl ?_
      refine j_lconst (pc := 80) dX9_quota_80 (v := 0) rfl ?_
      refine j_lcmp (pc := 81) dX9_quota_81  ?_
      refine j_if_le (pc := 82) (tgt := 172) dX9_quota_82 (by decide) hf (fun _ hf => ?_) (fun _ hf => ?_)
      · refine j_iload (pc := 172) 3 dX9_quota_172 rfl ?_
        exact j_iret (pc := 174) dX9_quota_174 rfl hf
      · refine j_aload_n (pc := 85) 0 dX9_quota_85 rfl rfl ?_
        refine j_iload (pc := 86) 4 dX9_quota_86 rfl ?_
        refine j_callVi (pc := 88) (d := d) (As := [.int x5]) (st := []) dX9_quota_88 s1106 k0 (by decide) rfl rfl (by decide) (Nat.le_of_ble_eq_true rfl) (fun q hq => t_X9_isIn (by omega) k0 hq) hf (fun q6 hf => ?_)
        refine j_if_ne (pc := 91) (tgt := 97) dX9_quota_91 (by decide) hf (fun _ hf => ?_) (fun _ hf => ?_)
        · refine j_aload_n (pc := 97) 0 dX9_quota_97 rfl rfl ?_
          refine j_iload (pc := 98) 4 dX9_quota_98 rfl ?_
          refine j_callVi (pc := 100) (d := d) (As := [.int x5]) (st := []) dX9_quota_100 s1010 k0 (by decide) rfl rfl (by decide) (Nat.le_of_ble_eq_true rfl) (fun q hq => t_X9_total (by omega) k0 hq) hf (fun q7 hf => ?_)
          refine j_i2l (pc := 103) dX9_quota_103  ?_
          refine j_iload_n (pc := 104) 1 dX9_quota_104 rfl rfl ?_
          refine j_i2l (pc := 105) dX9_quota_105  ?_
          refine j_lmul (pc := 106) dX9_quota_106  ?_
          refine j_lstoreN (pc := 107) (lv' := fun v8 => [(6, .long v8), (0, .ref (ad a0)), (1, .int x1), (2, .long x2), (4, .int x4), (5, .int x5)]) dX9_quota_107 (by decide) (fun _ => rfl) hf (fun v8 hf => ?_)
          refine j_lload (pc := 109) 0 dX9_quota_109 rfl ?_
          refine j_lload_n (pc := 111) 3 dX9_quota_111 rfl rfl ?_
          refine j_ldiv (pc := 112) dX9_quota_112 hf (fun hf => ?_)
          refine j_lstoreN (pc := 113) (lv' := fun v9 => [(8, .long v9), (6, .long v8), (0, .ref (ad a0)), (1, .int x1), (2, .long x2), (4, .int x4), (5, .int x5)]) dX9_quota_113 (by decide) (fun _ => rfl) hf (fun v9 hf => ?_)
          refine j_lload (pc := 115) 0 dX9_quota_115 rfl ?_
          refine j_lload (pc := 117) 1 dX9_quota_117 rfl ?_
          refine j_lload_n (pc := 119) 4 dX9_quota_119 rfl rfl ?_
          refine j_lrem (pc := 120) dX9_quota_120 hf (fun hf => ?_)
          refine j_lconst (pc := 121) dX9_quota_121 (v := 0) rfl ?_
          refine j_lcmp (pc := 122) dX9_quota_122  ?_
          refine j_if_le (pc := 123) (tgt := 130) dX9_quota_123 (by decide) hf (fun _ hf => ?_) (fun _ hf => ?_)
          · refine j_iconst (pc := 130) dX9_quota_130 (v := 0) (by decide) ?_
            refine j_sub [2, 3, 4, 5, 6, 0] rfl ?_
            exact t_X9_quota_131 hdp hk72 k0 hf
          · refine j_iconst (pc := 126) dX9_quota_126 (v := 1) (by decide) ?_
            refine j_goto (pc := 127) (tgt := 131) dX9_quota_127 (by decide) ?_
            refine j_sub [2, 3, 4, 5, 6, 0] rfl ?_
            exact t_X9_quota_131 hdp hk72 k0 hf
        · refine j_goto (pc := 94) (tgt := 166) dX9_quota_94 (by decide) ?_
          refine j_sub [0, 1, 2, 3, 4] rfl ?_
          exact t_X9_quota_166 hdp hk72 k0 hf
def f_X9_quota_58 (k30 : Nat → Int32 → Int64 → Int32 → Hp → Option (Int32 × Hp)) (a0 : Nat) (x1 : Int32) (x4 : Int32) (y0 : Int64) (y1 : Int64) (h : Hp) : Option (Int32 × Hp) := lt (y1 + y0) (fun v14 => lt (x4 + 1) (fun v15 => k30 a0 x1 v14 v15 h))
set_option maxHeartbeats 4000000 in
set_option maxRecDepth 100000 in
theorem t_X9_quota_58 {l : Launch} {D : va_G} {ad : Nat → Nat} {cA : Nat → ClassId} {d : Nat} (hdp : 7 ≤ d) {o : Int32 × Hp} {k30 : Nat → Int32 → Int64 → Int32 → Hp → Option (Int32 × Hp)} (hk30 : ∀ {a0 : Nat} {x1 : Int32} {x2 : Int64} {x4 : Int32} (k0 : kd a0 = 9) {h : Hp}, k30 a0 x1 x2 x4 h = some o → J l D ad cA (fun _ => True) (rmd (d + 1)) (0, 0) (mQ D ad cA (some (.int o.1)) o.2) cX9_quota RX9 12 (some .int) 30 [(0, .ref (ad a0)), (1, .int x1), (2, .long x2), (4, .int x4)] [] h) {a0 : Nat} {x1 : Int32} {x4 : Int32} {y0 : Int64} {y1 : Int64} (k0 : kd a0 = 9) {h : Hp} (hf : f_X9_quota_58 k30 a0 x1 x4 y0 y1 h = some o) : J l D ad cA (fun _ => True) (rmd (d + 1)) (0, 0) (mQ D ad cA (some (.int o.1)) o.2) cX9_quota RX9 12 (some .int) 58 [(0, .ref (ad a0)), (1, .int x1), (4, .int x4)] [.long y0, .long y1] h := by
  unfold f_X9_quota_58 at hf
  refine j_ladd (pc := 58) dX9_quota_58  ?_
  refine j_lstore_nN (pc := 59) (lv' := fun v14 => [(2, .long v14), (0, .ref (ad a0)), (1, .int x1), (4, .int x4)]) dX9_quota_59 rfl (by decide) (fun _ => rfl) hf (fun v14 hf => ?_)
  refine j_iinc (pc := 60) 3 (c := 1) (lv' := fun v15 => [(4, .int v15), (2, .long v14), (0, .ref (ad a0)), (1, .int x1)]) dX9_quota_60 rfl (by decide) (by decide) (fun _ => rfl) hf (fun v15 hf => ?_)
  refine j_goto (pc := 63) (tgt := 30) dX9_quota_63 (by decide) ?_
  refine j_sub [2, 3, 1, 0] rfl ?_
  exact hk30 k0 hf
def f_X9_quota_30 (k30 : Nat → Int32 → Int64 → Int32 → Hp → Option (Int32 × Hp)) (a0 : Nat) (x1 : Int32) (x2 : Int64) (x4 : Int32) (h : Hp) : Option (Int32 × Hp) := if 6 ≤ x4 then (lp (F := Nat → Int32 → Int64 → Int32 → Int32 → Hp → Option (Int32 × Hp)) (fun _ _ _ _ _ _ => none) (f_X9_quota_72) 1000 a0 x1 x2 0 0 h) else ((f_X9_isIn a0 x4 h).bind (fun q4 => if q4.1 = 0 then (f_X9_quota_58 k30 a0 x1 x4 0 x2 q4.2) else ((f_X9_total a0 x4 q4.2).bind (fun q5 => f_X9_quota_58 k30 a0 x1 x4 (Int32.toInt64 q5.1) x2 q5.2))))
set_option maxHeartbeats 4000000 in
set_option maxRecDepth 100000 in
theorem t_X9_quota_30 {l : Launch} {D : va_G} {ad : Nat → Nat} {cA : Nat → ClassId} {d : Nat} (hdp : 7 ≤ d) {o : Int32 × Hp}  : ∀ (n : Nat) {a0 : Nat} {x1 : Int32} {x2 : Int64} {x4 : Int32} (k0 : kd a0 = 9) {h : Hp}, lp (F := Nat → Int32 → Int64 → Int32 → Hp → Option (Int32 × Hp)) (fun _ _ _ _ _ => none) (f_X9_quota_30) n a0 x1 x2 x4 h = some o → J l D ad cA (fun _ => True) (rmd (d + 1)) (0, 0) (mQ D ad cA (some (.int o.1)) o.2) cX9_quota RX9 12 (some .int) 30 [(0, .ref (ad a0)), (1, .int x1), (2, .long x2), (4, .int x4)] [] h := by
  intro n
  induction n with
  | zero =>
    intro a0 x1 x2 x4 k0 h hf
    have hf : (none : Option (Int32 × Hp)) = some o := hf
    cases hf
  | succ n hk30 =>
    intro a0 x1 x2 x4 k0 h hf
    have hf : f_X9_quota_30  (lp (F := Nat → Int32 → Int64 → Int32 → Hp → Option (Int32 × Hp)) (fun _ _ _ _ _ => none) (f_X9_quota_30) n) a0 x1 x2 x4 h = some o := hf
    unfold f_X9_quota_30 at hf
    refine j_iload (pc := 30) 3 dX9_quota_30 rfl ?_
    refine j_bipush (pc := 32) dX9_quota_32 (v := 6) (by decide) ?_
    refine j_icmp_ge (pc := 34) (tgt := 66) dX9_quota_34 (by decide) hf (fun _ hf => ?_) (fun _ hf => ?_)
    · refine j_iconst (pc := 66) dX9_quota_66 (v := 0) (by decide) ?_
      refine j_istore (pc := 67) (lv' := [(4, .int 0), (0, .ref (ad a0)), (1, .int x1), (2, .long x2)]) dX9_quota_67 (by decide) rfl ?_
      refine j_iconst (pc := 69) dX9_quota_69 (v := 0) (by decide) ?_
      refine j_istore (pc := 70) (lv' := [(5, .int 0), (4, .int 0), (0, .ref (ad a0)), (1, .int x1), (2, .long x2)]) dX9_quota_70 (by decide) rfl ?_
      refine j_sub [2, 3, 4, 1, 0] rfl ?_
      exact t_X9_quota_72 hdp  1000 k0 hf
    · refine j_lload_n (pc := 37) 2 dX9_quota_37 rfl rfl ?_
      refine j_aload_n (pc := 38) 0 dX9_quota_38 rfl rfl ?_
      refine j_iload (pc := 39) 3 dX9_quota_39 rfl ?_
      refine j_callVi (pc := 41) (d := d) (As := [.int x4]) (st := [.long x2]) dX9_quota_41 s1106 k0 (by decide) rfl rfl (by decide) (Nat.le_of_ble_eq_true rfl) (fun q hq => t_X9_isIn (by omega) k0 hq) hf (fun q4 hf => ?_)
      refine j_if_eq (pc := 44) (tgt := 57) dX9_quota_44 (by decide) hf (fun _ hf => ?_) (fun _ hf => ?_)
      · refine j_lconst (pc := 57) dX9_quota_57 (v := 0) rfl ?_
        refine j_sub [0, 1, 3] rfl ?_
        exact t_X9_quota_58 hdp hk30 k0 hf
      · refine j_aload_n (pc := 47) 0 dX9_quota_47 rfl rfl ?_
        refine j_iload (pc := 48) 3 dX9_quota_48 rfl ?_
        refine j_callVi (pc := 50) (d := d) (As := [.int x4]) (st := [.long x2]) dX9_quota_50 s1010 k0 (by decide) rfl rfl (by decide) (Nat.le_of_ble_eq_true rfl) (fun q hq => t_X9_total (by omega) k0 hq) hf (fun q5 hf => ?_)
        refine j_i2l (pc := 53) dX9_quota_53  ?_
        refine j_goto (pc := 54) (tgt := 58) dX9_quota_54 (by decide) ?_
        refine j_sub [0, 1, 3] rfl ?_
        exact t_X9_quota_58 hdp hk30 k0 hf
def f_X9_quota (a0 : Nat) (x1 : Int32) (h : Hp) : Option (Int32 × Hp) := (f_X9_isHouse x1 h).bind (fun q1 => if q1.1 = 0 then (some ((-2), q1.2)) else ((f_X9_wayNow a0 q1.2).bind (fun q2 => (f_X9_houses a0 q2.1 x1 q2.2).bind (fun q3 => if q3.1 = 0 then (some ((-3), q3.2)) else (lp (F := Nat → Int32 → Int64 → Int32 → Hp → Option (Int32 × Hp)) (fun _ _ _ _ _ => none) (f_X9_quota_30) 1000 a0 x1 0 0 q3.2)))))
set_option maxHeartbeats 4000000 in
set_option maxRecDepth 100000 in
theorem t_X9_quota {l : Launch} {D : va_G} {ad : Nat → Nat} {cA : Nat → ClassId} {d : Nat} (hdp : 8 ≤ d) {a0 : Nat} {x1 : Int32} (k0 : kd a0 = 9) {h : Hp} {o : Int32 × Hp} (hf : f_X9_quota a0 x1 h = some o) : Cr l D ad cA d yX9_quota cX9_quota 12 (some .int) [.ref (ad a0), .int x1] h (some (.int o.1)) o.2 := by
  obtain ⟨d, rfl⟩ : ∃ e, d = e + 1 := ⟨d - 1, by omega⟩
  have hdp : 7 ≤ d := by omega
  unfold f_X9_quota at hf
  refine Cr_of (by decide +kernel) rfl (Nat.le_of_ble_eq_true rfl) (lv0 := [(0, .ref (ad a0)), (1, .int x1)]) rfl ?_
  refine j_iload_n (pc := 0) 1 dX9_quota_0 rfl rfl ?_
  refine j_callSi (pc := 1) (d := d) (As := [.int x1]) (st := []) dX9_quota_1 s1115 rfl rfl (by decide) (Nat.le_of_ble_eq_true rfl) (fun q hq => t_X9_isHouse (by omega)  hq) hf (fun q1 hf => ?_)
  refine j_if_ne (pc := 4) (tgt := 10) dX9_quota_4 (by decide) hf (fun _ hf => ?_) (fun _ hf => ?_)
  · refine j_aload_n (pc := 10) 0 dX9_quota_10 rfl rfl ?_
    refine j_aload_n (pc := 11) 0 dX9_quota_11 rfl rfl ?_
    refine j_callVi (pc := 12) (d := d) (As := []) (st := [.ref (ad a0)]) dX9_quota_12 s1079 k0 (by decide) rfl rfl (by decide) (Nat.le_of_ble_eq_true rfl) (fun q hq => t_X9_wayNow k0 hq) hf (fun q2 hf => ?_)
    refine j_iload_n (pc := 15) 1 dX9_quota_15 rfl rfl ?_
    refine j_callVi (pc := 16) (d := d) (As := [.int q2.1, .int x1]) (st := []) dX9_quota_16 s1118 k0 (by decide) rfl rfl (by decide) (Nat.le_of_ble_eq_true rfl) (fun q hq => t_X9_houses (by omega) k0 hq) hf (fun q3 hf => ?_)
    refine j_if_ne (pc := 19) (tgt := 25) dX9_quota_19 (by decide) hf (fun _ hf => ?_) (fun _ hf => ?_)
    · refine j_lconst (pc := 25) dX9_quota_25 (v := 0) rfl ?_
      refine j_lstore_n (pc := 26) (lv' := [(2, .long 0), (0, .ref (ad a0)), (1, .int x1)]) dX9_quota_26 rfl (by decide) rfl ?_
      refine j_iconst (pc := 27) dX9_quota_27 (v := 0) (by decide) ?_
      refine j_istore (pc := 28) (lv' := [(4, .int 0), (2, .long 0), (0, .ref (ad a0)), (1, .int x1)]) dX9_quota_28 (by decide) rfl ?_
      refine j_sub [2, 3, 1, 0] rfl ?_
      exact t_X9_quota_30 hdp  1000 k0 hf
    · refine j_bipush (pc := 22) dX9_quota_22 (v := -3) (by decide) ?_
      exact j_iret (pc := 24) dX9_quota_24 rfl hf
  · refine j_bipush (pc := 7) dX9_quota_7 (v := -2) (by decide) ?_
    exact j_iret (pc := 9) dX9_quota_9 rfl hf
def f_X9_span (a0 : Nat) (x1 : Int32) (x2 : Int32) (x3 : Int32) (h : Hp) : Option (Int64 × Hp) := (f_X9_isHouse x1 h).bind (fun q1 => if q1.1 = 0 then (some ((-9223372036854775808), q1.2)) else ((f_X9_isPart x2 q1.2).bind (fun q2 => if q2.1 = 0 then (some ((-9223372036854775808), q2.2)) else ((f_X9_isPart x3 q2.2).bind (fun q3 => if q3.1 = 0 then (some ((-9223372036854775808), q3.2)) else ((f_X9_wayNow a0 q3.2).bind (fun q4 => if q4.1 = 3 then (some ((-9223372036854775808), q4.2)) else ((f_X9_wayNow a0 q4.2).bind (fun q5 => if q5.1 = 6 then (some ((-9223372036854775808), q5.2)) else ((f_X9_wayNow a0 q5.2).bind (fun q6 => (f_X9_houses a0 q6.1 x1 q6.2).bind (fun q7 => if q7.1 = 0 then (some ((-9223372036854775808), q7.2)) else ((f_X9_edge a0 x2 q7.2).bind (fun q8 => if q8.1 = ((-1)) then (some ((-9223372036854775808), q8.2)) else (if ix q8.1 6 = true then (lt (((q8.2.1 (a0 + 15) (Int32.toNatClampNeg q8.1)) + 1) - x2) (fun v9 => (f_X9_wayNow a0 q8.2).bind (fun q10 => (f_X9_above a0 q10.1 v9 q10.2).bind (fun q11 => if q11.1 = 0 then (some ((-9223372036854775808), q11.2)) else ((f_X9_wayNow a0 q11.2).bind (fun q12 => if ix q8.1 6 = true then ((f_X9_top a0 q12.1 (Int32.toInt64 (q12.2.1 (a0 + 13) (Int32.toNatClampNeg q8.1))) v9 q12.2).bind (fun q13 => (f_X9_lowest q13.1 (Int32.toInt64 q11.1) x3 q13.2).bind (fun q14 => some (q14.1, q14.2)))) else none)))))) else none)))))))))))))))
set_option maxHeartbeats 4000000 in
set_option maxRecDepth 100000 in
theorem t_X9_span {l : Launch} {D : va_G} {ad : Nat → Nat} {cA : Nat → ClassId} {d : Nat} (hdp : 8 ≤ d) {a0 : Nat} {x1 : Int32} {x2 : Int32} {x3 : Int32} (k0 : kd a0 = 9) {h : Hp} {o : Int64 × Hp} (hf : f_X9_span a0 x1 x2 x3 h = some o) : Cr l D ad cA d yX9_span cX9_span 7 (some .long) [.ref (ad a0), .int x1, .int x2, .int x3] h (some (.long o.1)) o.2 := by
  obtain ⟨d, rfl⟩ : ∃ e, d = e + 1 := ⟨d - 1, by omega⟩
  have hdp : 7 ≤ d := by omega
  unfold f_X9_span at hf
  refine Cr_of (by decide +kernel) rfl (Nat.le_of_ble_eq_true rfl) (lv0 := [(0, .ref (ad a0)), (1, .int x1), (2, .int x2), (3, .int x3)]) rfl ?_
  refine j_iload_n (pc := 0) 1 dX9_span_0 rfl rfl ?_
  refine j_callSi (pc := 1) (d := d) (As := [.int x1]) (st := []) dX9_span_1 s1115 rfl rfl (by decide) (Nat.le_of_ble_eq_true rfl) (fun q hq => t_X9_isHouse (by omega)  hq) hf (fun q1 hf => ?_)
  refine j_if_eq (pc := 4) (tgt := 50) dX9_span_4 (by decide) hf (fun _ hf => ?_) (fun _ hf => ?_)
  · refine j_ldc2_w (pc := 50) dX9_span_50 (v := -9223372036854775808) w_c1087 ?_
    exact j_lret (pc := 53) dX9_span_53 rfl hf
  · refine j_iload_n (pc := 7) 2 dX9_span_7 rfl rfl ?_
    refine j_callSi (pc := 8) (d := d) (As := [.int x2]) (st := []) dX9_span_8 s1076 rfl rfl (by decide) (Nat.le_of_ble_eq_true rfl) (fun q hq => t_X9_isPart  hq) hf (fun q2 hf => ?_)
    refine j_if_eq (pc := 11) (tgt := 50) dX9_span_11 (by decide) hf (fun _ hf => ?_) (fun _ hf => ?_)
    · refine j_ldc2_w (pc := 50) dX9_span_50 (v := -9223372036854775808) w_c1087 ?_
      exact j_lret (pc := 53) dX9_span_53 rfl hf
    · refine j_iload_n (pc := 14) 3 dX9_span_14 rfl rfl ?_
      refine j_callSi (pc := 15) (d := d) (As := [.int x3]) (st := []) dX9_span_15 s1076 rfl rfl (by decide) (Nat.le_of_ble_eq_true rfl) (fun q hq => t_X9_isPart  hq) hf (fun q3 hf => ?_)
      refine j_if_eq (pc := 18) (tgt := 50) dX9_span_18 (by decide) hf (fun _ hf => ?_) (fun _ hf => ?_)
      · refine j_ldc2_w (pc := 50) dX9_span_50 (v := -9223372036854775808) w_c1087 ?_
        exact j_lret (pc := 53) dX9_span_53 rfl hf
      · refine j_aload_n (pc := 21) 0 dX9_span_21 rfl rfl ?_
        refine j_callVi (pc := 22) (d := d) (As := []) (st := []) dX9_span_22 s1079 k0 (by decide) rfl rfl (by decide) (Nat.le_of_ble_eq_true rfl) (fun q hq => t_X9_wayNow k0 hq) hf (fun q4 hf => ?_)
        refine j_iconst (pc := 25) dX9_span_25 (v := 3) (by decide) ?_
        refine j_icmp_eq (pc := 26) (tgt := 50) dX9_span_26 (by decide) hf (fun _ hf => ?_) (fun _ hf => ?_)
        · refine j_ldc2_w (pc := 50) dX9_span_50 (v := -9223372036854775808) w_c1087 ?_
          exact j_lret (pc := 53) dX9_span_53 rfl hf
        · refine j_aload_n (pc := 29) 0 dX9_span_29 rfl rfl ?_
          refine j_callVi (pc := 30) (d := d) (As := []) (st := []) dX9_span_30 s1079 k0 (by decide) rfl rfl (by decide) (Nat.le_of_ble_eq_true rfl) (fun q hq => t_X9_wayNow k0 hq) hf (fun q5 hf => ?_)
          refine j_bipush (pc := 33) dX9_span_33 (v := 6) (by decide) ?_
          refine j_icmp_eq (pc := 35) (tgt := 50) dX9_span_35 (by decide) hf (fun _ hf => ?_) (fun _ hf => ?_)
          · refine j_ldc2_w (pc := 50) dX9_span_50 (v := -9223372036854775808) w_c1087 ?_
            exact j_lret (pc := 53) dX9_span_53 rfl hf
          · refine j_aload_n (pc := 38) 0 dX9_span_38 rfl rfl ?_
            refine j_aload_n (pc := 39) 0 dX9_span_39 rfl rfl ?_
            refine j_callVi (pc := 40) (d := d) (As := []) (st := [.ref (ad a0)]) dX9_span_40 s1079 k0 (by decide) rfl rfl (by decide) (Nat.le_of_ble_eq_true rfl) (fun q hq => t_X9_wayNow k0 hq) hf (fun q6 hf => ?_)
            refine j_iload_n (pc := 43) 1 dX9_span_43 rfl rfl ?_
            refine j_callVi (pc := 44) (d := d) (As := [.int q6.1, .int x1]) (st := []) dX9_span_44 s1118 k0 (by decide) rfl rfl (by decide) (Nat.le_of_ble_eq_true rfl) (fun q hq => t_X9_houses (by omega) k0 hq) hf (fun q7 hf => ?_)
            refine j_if_ne (pc := 47) (tgt := 54) dX9_span_47 (by decide) hf (fun _ hf => ?_) (fun _ hf => ?_)
            · refine j_aload_n (pc := 54) 0 dX9_span_54 rfl rfl ?_
              refine j_iload_n (pc := 55) 2 dX9_span_55 rfl rfl ?_
              refine j_callVi (pc := 56) (d := d) (As := [.int x2]) (st := []) dX9_span_56 s1215 k0 (by decide) rfl rfl (by decide) (Nat.le_of_ble_eq_true rfl) (fun q hq => t_X9_edge (by omega) k0 hq) hf (fun q8 hf => ?_)
              refine j_istore (pc := 59) (lv' := [(4, .int q8.1), (0, .ref (ad a0)), (1, .int x1), (2, .int x2), (3, .int x3)]) dX9_span_59 (by decide) rfl ?_
              refine j_iload (pc := 61) 0 dX9_span_61 rfl ?_
              refine j_iconst (pc := 63) dX9_span_63 (v := -1) (by decide) ?_
              refine j_icmp_ne (pc := 64) (tgt := 71) dX9_span_64 (by decide) hf (fun _ hf => ?_) (fun _ hf => ?_)
              · refine j_aload_n (pc := 71) 1 dX9_span_71 rfl rfl ?_
                refine j_getR (pc := 72) (n := 15) dX9_span_72 fl867 k0 (by decide) rfl ?_
                refine j_iload (pc := 75) 0 dX9_span_75 rfl ?_
                refine j_iaload (pc := 77) dX9_span_77 (lk_9_21 k0) (ll_9_21 k0) hf (fun _ hf => ?_)
                refine j_iconst (pc := 78) dX9_span_78 (v := 1) (by decide) ?_
                refine j_iadd (pc := 79) dX9_span_79  ?_
                refine j_iload_n (pc := 80) 3 dX9_span_80 rfl rfl ?_
                refine j_isub (pc := 81) dX9_span_81  ?_
                refine j_istoreN (pc := 82) (lv' := fun v9 => [(5, .int v9), (4, .int q8.1), (0, .ref (ad a0)), (1, .int x1), (2, .int x2), (3, .int x3)]) dX9_span_82 (by decide) (fun _ => rfl) hf (fun v9 hf => ?_)
                refine j_aload_n (pc := 84) 2 dX9_span_84 rfl rfl ?_
                refine j_aload_n (pc := 85) 2 dX9_span_85 rfl rfl ?_
                refine j_callVi (pc := 86) (d := d) (As := []) (st := [.ref (ad a0)]) dX9_span_86 s1079 k0 (by decide) rfl rfl (by decide) (Nat.le_of_ble_eq_true rfl) (fun q hq => t_X9_wayNow k0 hq) hf (fun q10 hf => ?_)
                refine j_iload (pc := 89) 0 dX9_span_89 rfl ?_
                refine j_callVi (pc := 91) (d := d) (As := [.int q10.1, .int v9]) (st := []) dX9_span_91 s1083 k0 (by decide) rfl rfl (by decide) (Nat.le_of_ble_eq_true rfl) (fun q hq => t_X9_above k0 hq) hf (fun q11 hf => ?_)
                refine j_istore (pc := 94) (lv' := [(6, .int q11.1), (5, .int v9), (4, .int q8.1), (0, .ref (ad a0)), (1, .int x1), (2, .int x2), (3, .int x3)]) dX9_span_94 (by decide) rfl ?_
                refine j_iload (pc := 96) 0 dX9_span_96 rfl ?_
                refine j_if_ne (pc := 98) (tgt := 107) dX9_span_98 (by decide) hf (fun _ hf => ?_) (fun _ hf => ?_)
                · refine j_aload_n (pc := 107) 3 dX9_span_107 rfl rfl ?_
                  refine j_aload_n (pc := 108) 3 dX9_span_108 rfl rfl ?_
                  refine j_callVi (pc := 109) (d := d) (As := []) (st := [.ref (ad a0)]) dX9_span_109 s1079 k0 (by decide) rfl rfl (by decide) (Nat.le_of_ble_eq_true rfl) (fun q hq => t_X9_wayNow k0 hq) hf (fun q12 hf => ?_)
                  refine j_aload_n (pc := 112) 3 dX9_span_112 rfl rfl ?_
                  refine j_getR (pc := 113) (n := 13) dX9_span_113 fl865 k0 (by decide) rfl ?_
                  refine j_iload (pc := 116) 2 dX9_span_116 rfl ?_
                  refine j_iaload (pc := 118) dX9_span_118 (lk_9_19 k0) (ll_9_19 k0) hf (fun _ hf => ?_)
                  refine j_i2l (pc := 119) dX9_span_119  ?_
                  refine j_iload (pc := 120) 1 dX9_span_120 rfl ?_
                  refine j_callVl (pc := 122) (d := d) (As := [.int q12.1, .long (Int32.toInt64 (q12.2.1 (a0 + 13) (Int32.toNatClampNeg q8.1))), .int v9]) (st := []) dX9_span_122 s1088 k0 (by decide) rfl rfl (by decide) (Nat.le_of_ble_eq_true rfl) (fun q hq => t_X9_top (by omega) k0 hq) hf (fun q13 hf => ?_)
                  refine j_iload (pc := 125) 0 dX9_span_125 rfl ?_
                  refine j_i2l (pc := 127) dX9_span_127  ?_
                  refine j_iload_n (pc := 128) 6 dX9_span_128 rfl rfl ?_
                  refine j_callSl (pc := 129) (d := d) (As := [.long q13.1, .long (Int32.toInt64 q11.1), .int x3]) (st := []) dX9_span_129 s1096 rfl rfl (by decide) (Nat.le_of_ble_eq_true rfl) (fun q hq => t_X9_lowest (by omega)  hq) hf (fun q14 hf => ?_)
                  exact j_lret (pc := 132) dX9_span_132 rfl hf
                · refine j_ldc2_w (pc := 101) dX9_span_101 (v := -9223372036854775808) w_c1087 ?_
                  refine j_goto (pc := 104) (tgt := 132) dX9_span_104 (by decide) ?_
                  exact j_lret (pc := 132) dX9_span_132 rfl hf
              · refine j_ldc2_w (pc := 67) dX9_span_67 (v := -9223372036854775808) w_c1087 ?_
                exact j_lret (pc := 70) dX9_span_70 rfl hf
            · refine j_ldc2_w (pc := 50) dX9_span_50 (v := -9223372036854775808) w_c1087 ?_
              exact j_lret (pc := 53) dX9_span_53 rfl hf
def f_X9_spell_48 (k32 : Nat → Int32 → Hp → Option (Int32 × Hp)) (a0 : Nat) (x2 : Int32) (h : Hp) : Option (Int32 × Hp) := if ix x2 6 = true then ((f_X9_writesNumber a0 (h.1 (a0 + 16) (Int32.toNatClampNeg x2)) h).bind (fun q6 => lt (x2 + 1) (fun v7 => k32 a0 v7 q6.2))) else none
set_option maxHeartbeats 4000000 in
set_option maxRecDepth 100000 in
theorem t_X9_spell_48 {l : Launch} {D : va_G} {ad : Nat → Nat} {cA : Nat → ClassId} {d : Nat} (hdp : 7 ≤ d) {o : Int32 × Hp} {k32 : Nat → Int32 → Hp → Option (Int32 × Hp)} (hk32 : ∀ {a0 : Nat} {x2 : Int32} (k0 : kd a0 = 9) {h : Hp}, k32 a0 x2 h = some o → J l D ad cA (fun _ => True) (rmd (d + 1)) (0, 0) (mQ D ad cA (some (.int o.1)) o.2) cX9_spell RX9 3 (some .int) 32 [(0, .ref (ad a0)), (2, .int x2)] [] h) {a0 : Nat} {x2 : Int32} (k0 : kd a0 = 9) {h : Hp} (hf : f_X9_spell_48 k32 a0 x2 h = some o) : J l D ad cA (fun _ => True) (rmd (d + 1)) (0, 0) (mQ D ad cA (some (.int o.1)) o.2) cX9_spell RX9 3 (some .int) 48 [(0, .ref (ad a0)), (2, .int x2)] [] h := by
  unfold f_X9_spell_48 at hf
  refine j_aload_n (pc := 48) 0 dX9_spell_48 rfl rfl ?_
  refine j_aload_n (pc := 49) 0 dX9_spell_49 rfl rfl ?_
  refine j_getR (pc := 50) (n := 16) dX9_spell_50 fl868 k0 (by decide) rfl ?_
  refine j_iload_n (pc := 53) 1 dX9_spell_53 rfl rfl ?_
  refine j_iaload (pc := 54) dX9_spell_54 (lk_9_22 k0) (ll_9_22 k0) hf (fun _ hf => ?_)
  refine j_callVv (pc := 55) (d := d) (As := [.int (h.1 (a0 + 16) (Int32.toNatClampNeg x2))]) (st := []) dX9_spell_55 s1247 k0 (by decide) rfl rfl (by decide) (Nat.le_of_ble_eq_true rfl) (fun q hq => t_X9_writesNumber (by omega) k0 hq) hf (fun q6 hf => ?_)
  refine j_iinc (pc := 58) 1 (c := 1) (lv' := fun v7 => [(2, .int v7), (0, .ref (ad a0))]) dX9_spell_58 rfl (by decide) (by decide) (fun _ => rfl) hf (fun v7 hf => ?_)
  refine j_goto (pc := 61) (tgt := 32) dX9_spell_61 (by decide) ?_
  refine j_sub [1, 0] rfl ?_
  exact hk32 k0 hf
def f_X9_spell_32 (k32 : Nat → Int32 → Hp → Option (Int32 × Hp)) (a0 : Nat) (x2 : Int32) (h : Hp) : Option (Int32 × Hp) := if 6 ≤ x2 then (some (h.1 a0 28, h)) else (if x2 ≤ 0 then (f_X9_spell_48 k32 a0 x2 h) else ((f_X9_writes a0 44 h).bind (fun q5 => f_X9_spell_48 k32 a0 x2 q5.2)))
set_option maxHeartbeats 4000000 in
set_option maxRecDepth 100000 in
theorem t_X9_spell_32 {l : Launch} {D : va_G} {ad : Nat → Nat} {cA : Nat → ClassId} {d : Nat} (hdp : 7 ≤ d) {o : Int32 × Hp}  : ∀ (n : Nat) {a0 : Nat} {x2 : Int32} (k0 : kd a0 = 9) {h : Hp}, lp (F := Nat → Int32 → Hp → Option (Int32 × Hp)) (fun _ _ _ => none) (f_X9_spell_32) n a0 x2 h = some o → J l D ad cA (fun _ => True) (rmd (d + 1)) (0, 0) (mQ D ad cA (some (.int o.1)) o.2) cX9_spell RX9 3 (some .int) 32 [(0, .ref (ad a0)), (2, .int x2)] [] h := by
  intro n
  induction n with
  | zero =>
    intro a0 x2 k0 h hf
    have hf : (none : Option (Int32 × Hp)) = some o := hf
    cases hf
  | succ n hk32 =>
    intro a0 x2 k0 h hf
    have hf : f_X9_spell_32  (lp (F := Nat → Int32 → Hp → Option (Int32 × Hp)) (fun _ _ _ => none) (f_X9_spell_32) n) a0 x2 h = some o := hf
    unfold f_X9_spell_32 at hf
    refine j_iload_n (pc := 32) 1 dX9_spell_32 rfl rfl ?_
    refine j_bipush (pc := 33) dX9_spell_33 (v := 6) (by decide) ?_
    refine j_icmp_ge (pc := 35) (tgt := 64) dX9_spell_35 (by decide) hf (fun _ hf => ?_) (fun _ hf => ?_)
    · refine j_aload_n (pc := 64) 0 dX9_spell_64 rfl rfl ?_
      refine j_getI (pc := 65) dX9_spell_65 fl874 k0 (by decide) rfl ?_
      exact j_iret (pc := 68) dX9_spell_68 rfl hf
    · refine j_iload_n (pc := 38) 1 dX9_spell_38 rfl rfl ?_
      refine j_if_le (pc := 39) (tgt := 48) dX9_spell_39 (by decide) hf (fun _ hf => ?_) (fun _ hf => ?_)
      · refine j_sub [0, 1] rfl ?_
        exact t_X9_spell_48 hdp hk32 k0 hf
      · refine j_aload_n (pc := 42) 0 dX9_spell_42 rfl rfl ?_
        refine j_bipush (pc := 43) dX9_spell_43 (v := 44) (by decide) ?_
        refine j_callVv (pc := 45) (d := d) (As := [.int 44]) (st := []) dX9_spell_45 s1243 k0 (by decide) rfl rfl (by decide) (Nat.le_of_ble_eq_true rfl) (fun q hq => t_X9_writes k0 hq) hf (fun q5 hf => ?_)
        refine j_sub [0, 1] rfl ?_
        exact t_X9_spell_48 hdp hk32 k0 hf
def f_X9_spell (a0 : Nat) (x1 : Int32) (h : Hp) : Option (Int32 × Hp) := (f_X9_isHouse x1 h).bind (fun q1 => if q1.1 = 0 then (some ((-2), q1.2)) else ((f_X9_wayNow a0 q1.2).bind (fun q2 => (f_X9_houses a0 q2.1 x1 q2.2).bind (fun q3 => if q3.1 = 0 then (some ((-3), q3.2)) else (lt (sI q3.2 a0 28 0) (fun m4 => lp (F := Nat → Int32 → Hp → Option (Int32 × Hp)) (fun _ _ _ => none) (f_X9_spell_32) 1000 a0 0 m4))))))
set_option maxHeartbeats 4000000 in
set_option maxRecDepth 100000 in
theorem t_X9_spell {l : Launch} {D : va_G} {ad : Nat → Nat} {cA : Nat → ClassId} {d : Nat} (hdp : 8 ≤ d) {a0 : Nat} {x1 : Int32} (k0 : kd a0 = 9) {h : Hp} {o : Int32 × Hp} (hf : f_X9_spell a0 x1 h = some o) : Cr l D ad cA d yX9_spell cX9_spell 3 (some .int) [.ref (ad a0), .int x1] h (some (.int o.1)) o.2 := by
  obtain ⟨d, rfl⟩ : ∃ e, d = e + 1 := ⟨d - 1, by omega⟩
  have hdp : 7 ≤ d := by omega
  unfold f_X9_spell at hf
  refine Cr_of (by decide +kernel) rfl (Nat.le_of_ble_eq_true rfl) (lv0 := [(0, .ref (ad a0)), (1, .int x1)]) rfl ?_
  refine j_iload_n (pc := 0) 1 dX9_spell_0 rfl rfl ?_
  refine j_callSi (pc := 1) (d := d) (As := [.int x1]) (st := []) dX9_spell_1 s1115 rfl rfl (by decide) (Nat.le_of_ble_eq_true rfl) (fun q hq => t_X9_isHouse (by omega)  hq) hf (fun q1 hf => ?_)
  refine j_if_ne (pc := 4) (tgt := 10) dX9_spell_4 (by decide) hf (fun _ hf => ?_) (fun _ hf => ?_)
  · refine j_aload_n (pc := 10) 0 dX9_spell_10 rfl rfl ?_
    refine j_aload_n (pc := 11) 0 dX9_spell_11 rfl rfl ?_
    refine j_callVi (pc := 12) (d := d) (As := []) (st := [.ref (ad a0)]) dX9_spell_12 s1079 k0 (by decide) rfl rfl (by decide) (Nat.le_of_ble_eq_true rfl) (fun q hq => t_X9_wayNow k0 hq) hf (fun q2 hf => ?_)
    refine j_iload_n (pc := 15) 1 dX9_spell_15 rfl rfl ?_
    refine j_callVi (pc := 16) (d := d) (As := [.int q2.1, .int x1]) (st := []) dX9_spell_16 s1118 k0 (by decide) rfl rfl (by decide) (Nat.le_of_ble_eq_true rfl) (fun q hq => t_X9_houses (by omega) k0 hq) hf (fun q3 hf => ?_)
    refine j_if_ne (pc := 19) (tgt := 25) dX9_spell_19 (by decide) hf (fun _ hf => ?_) (fun _ hf => ?_)
    · refine j_aload_n (pc := 25) 0 dX9_spell_25 rfl rfl ?_
      refine j_iconst (pc := 26) dX9_spell_26 (v := 0) (by decide) ?_
      refine j_putI (pc := 27) dX9_spell_27 fl874 fp9_28 k0 (by decide) rfl hf (fun m4 hf => ?_)
      refine j_iconst (pc := 30) dX9_spell_30 (v := 0) (by decide) ?_
      refine j_istore_n (pc := 31) (lv' := [(2, .int 0), (0, .ref (ad a0)), (1, .int x1)]) dX9_spell_31 rfl (by decide) rfl ?_
      refine j_sub [1, 0] rfl ?_
      exact t_X9_spell_32 hdp  1000 k0 hf
    · refine j_bipush (pc := 22) dX9_spell_22 (v := -3) (by decide) ?_
      exact j_iret (pc := 24) dX9_spell_24 rfl hf
  · refine j_bipush (pc := 7) dX9_spell_7 (v := -2) (by decide) ?_
    exact j_iret (pc := 9) dX9_spell_9 rfl hf
