def f_X8_row (a0 : Nat) (x1 : Int32) (x2 : Int32) (h : Hp) : Option (Int32 × Hp) := (f_X8_within x1 3 h).bind (fun q1 => if q1.1 = 0 then (some ((-1), q1.2)) else (if x2 ≤ 40 then (if 0 ≤ x2 then ((f_X6_makeRow (a0 + 100) x1 x2 q1.2).bind (fun q2 => some (1, q2.2))) else (some ((-14), q1.2))) else (some ((-2), q1.2))))
set_option maxHeartbeats 4000000 in
set_option maxRecDepth 100000 in
theorem t_X8_row {l : Launch} {D : va_G} {ad : Nat → Nat} {cA : Nat → ClassId} {d : Nat} (hdp : 2 ≤ d) {a0 : Nat} {x1 : Int32} {x2 : Int32} (k0 : kd a0 = 8) {h : Hp} {o : Int32 × Hp} (hf : f_X8_row a0 x1 x2 h = some o) : Cr l D ad cA d yX8_row cX8_row 3 (some .int) [.ref (ad a0), .int x1, .int x2] h (some (.int o.1)) o.2 := by
  obtain ⟨d, rfl⟩ : ∃ e, d = e + 1 := ⟨d - 1, by omega⟩
  have hdp : 1 ≤ d := by omega
  unfold f_X8_row at hf
  refine Cr_of (by decide +kernel) rfl (Nat.le_of_ble_eq_true rfl) (lv0 := [(0, .ref (ad a0)), (1, .int x1), (2, .int x2)]) rfl ?_
  refine j_iload_n (pc := 0) 1 dX8_row_0 rfl rfl ?_
  refine j_iconst (pc := 1) dX8_row_1 (v := 3) (by decide) ?_
  refine j_callSi (pc := 2) (d := d) (As := [.int x1, .int 3]) (st := []) dX8_row_2 s370 rfl rfl (by decide) (Nat.le_of_ble_eq_true rfl) (fun q hq => t_X8_within  hq) hf (fun q1 hf => ?_)
  refine j_if_ne (pc := 5) (tgt := 10) dX8_row_5 (by decide) hf (fun _ hf => ?_) (fun _ hf => ?_)
  · refine j_iload_n (pc := 10) 2 dX8_row_10 rfl rfl ?_
    refine j_bipush (pc := 11) dX8_row_11 (v := 40) (by decide) ?_
    refine j_icmp_le (pc := 13) (tgt := 19) dX8_row_13 (by decide) hf (fun _ hf => ?_) (fun _ hf => ?_)
    · refine j_iload_n (pc := 19) 2 dX8_row_19 rfl rfl ?_
      refine j_if_ge (pc := 20) (tgt := 26) dX8_row_20 (by decide) hf (fun _ hf => ?_) (fun _ hf => ?_)
      · refine j_aload_n (pc := 26) 0 dX8_row_26 rfl rfl ?_
        refine j_getR (pc := 27) (n := 100) dX8_row_27 fl340 k0 (by decide) rfl ?_
        refine j_iload_n (pc := 30) 1 dX8_row_30 rfl rfl ?_
        refine j_iload_n (pc := 31) 2 dX8_row_31 rfl rfl ?_
        refine j_callVv (pc := 32) (d := d) (As := [.int x1, .int x2]) (st := []) dX8_row_32 s798 (lk_8_8 k0) (by decide) rfl rfl (by decide) (Nat.le_of_ble_eq_true rfl) (fun q hq => t_X6_makeRow (by omega) (lk_8_8 k0) hq) hf (fun q2 hf => ?_)
        refine j_iconst (pc := 35) dX8_row_35 (v := 1) (by decide) ?_
        exact j_iret (pc := 36) dX8_row_36 rfl hf
      · refine j_bipush (pc := 23) dX8_row_23 (v := -14) (by decide) ?_
        exact j_iret (pc := 25) dX8_row_25 rfl hf
    · refine j_bipush (pc := 16) dX8_row_16 (v := -2) (by decide) ?_
      exact j_iret (pc := 18) dX8_row_18 rfl hf
  · refine j_iconst (pc := 8) dX8_row_8 (v := -1) (by decide) ?_
    exact j_iret (pc := 9) dX8_row_9 rfl hf
def f_X8_set (a0 : Nat) (x1 : Int32) (x2 : Int32) (x3 : Int32) (h : Hp) : Option (Int32 × Hp) := (f_X8_within x1 3 h).bind (fun q1 => if q1.1 = 0 then (some ((-1), q1.2)) else ((f_X6_isThere (a0 + 100) x1 q1.2).bind (fun q2 => if q2.1 = 0 then (some ((-11), q2.2)) else ((f_X6_put (a0 + 100) x1 x2 x3 q2.2).bind (fun q3 => if q3.1 = 0 then (some ((-13), q3.2)) else (some (1, q3.2)))))))
set_option maxHeartbeats 4000000 in
set_option maxRecDepth 100000 in
theorem t_X8_set {l : Launch} {D : va_G} {ad : Nat → Nat} {cA : Nat → ClassId} {d : Nat} (hdp : 2 ≤ d) {a0 : Nat} {x1 : Int32} {x2 : Int32} {x3 : Int32} (k0 : kd a0 = 8) {h : Hp} {o : Int32 × Hp} (hf : f_X8_set a0 x1 x2 x3 h = some o) : Cr l D ad cA d yX8_set cX8_set 4 (some .int) [.ref (ad a0), .int x1, .int x2, .int x3] h (some (.int o.1)) o.2 := by
  obtain ⟨d, rfl⟩ : ∃ e, d = e + 1 := ⟨d - 1, by omega⟩
  have hdp : 1 ≤ d := by omega
  unfold f_X8_set at hf
  refine Cr_of (by decide +kernel) rfl (Nat.le_of_ble_eq_true rfl) (lv0 := [(0, .ref (ad a0)), (1, .int x1), (2, .int x2), (3, .int x3)]) rfl ?_
  refine j_iload_n (pc := 0) 1 dX8_set_0 rfl rfl ?_
  refine j_iconst (pc := 1) dX8_set_1 (v := 3) (by decide) ?_
  refine j_callSi (pc := 2) (d := d) (As := [.int x1, .int 3]) (st := []) dX8_set_2 s370 rfl rfl (by decide) (Nat.le_of_ble_eq_true rfl) (fun q hq => t_X8_within  hq) hf (fun q1 hf => ?_)
  refine j_if_ne (pc := 5) (tgt := 10) dX8_set_5 (by decide) hf (fun _ hf => ?_) (fun _ hf => ?_)
  · refine j_aload_n (pc := 10) 0 dX8_set_10 rfl rfl ?_
    refine j_getR (pc := 11) (n := 100) dX8_set_11 fl340 k0 (by decide) rfl ?_
    refine j_iload_n (pc := 14) 1 dX8_set_14 rfl rfl ?_
    refine j_callVi (pc := 15) (d := d) (As := [.int x1]) (st := []) dX8_set_15 s806 (lk_8_8 k0) (by decide) rfl rfl (by decide) (Nat.le_of_ble_eq_true rfl) (fun q hq => t_X6_isThere (lk_8_8 k0) hq) hf (fun q2 hf => ?_)
    refine j_if_ne (pc := 18) (tgt := 24) dX8_set_18 (by decide) hf (fun _ hf => ?_) (fun _ hf => ?_)
    · refine j_aload_n (pc := 24) 0 dX8_set_24 rfl rfl ?_
      refine j_getR (pc := 25) (n := 100) dX8_set_25 fl340 k0 (by decide) rfl ?_
      refine j_iload_n (pc := 28) 1 dX8_set_28 rfl rfl ?_
      refine j_iload_n (pc := 29) 2 dX8_set_29 rfl rfl ?_
      refine j_iload_n (pc := 30) 3 dX8_set_30 rfl rfl ?_
      refine j_callVi (pc := 31) (d := d) (As := [.int x1, .int x2, .int x3]) (st := []) dX8_set_31 s810 (lk_8_8 k0) (by decide) rfl rfl (by decide) (Nat.le_of_ble_eq_true rfl) (fun q hq => t_X6_put (by omega) (lk_8_8 k0) hq) hf (fun q3 hf => ?_)
      refine j_if_eq (pc := 34) (tgt := 41) dX8_set_34 (by decide) hf (fun _ hf => ?_) (fun _ hf => ?_)
      · refine j_bipush (pc := 41) dX8_set_41 (v := -13) (by decide) ?_
        exact j_iret (pc := 43) dX8_set_43 rfl hf
      · refine j_iconst (pc := 37) dX8_set_37 (v := 1) (by decide) ?_
        refine j_goto (pc := 38) (tgt := 43) dX8_set_38 (by decide) ?_
        exact j_iret (pc := 43) dX8_set_43 rfl hf
    · refine j_bipush (pc := 21) dX8_set_21 (v := -11) (by decide) ?_
      exact j_iret (pc := 23) dX8_set_23 rfl hf
  · refine j_iconst (pc := 8) dX8_set_8 (v := -1) (by decide) ?_
    exact j_iret (pc := 9) dX8_set_9 rfl hf
def f_X8_undo (a0 : Nat) (h : Hp) : Option (Int32 × Hp) := if (h.1 a0 10) = 0 then (some ((-3), h)) else ((f_X3_copyFrom (a0 + 1) (a0 + 6) h).bind (fun q1 => (f_X2_forget (a0 + 56) q1.2).bind (fun q2 => (f_X3_sumOfAll (a0 + 1) q2.2).bind (fun q3 => some (q3.1, q3.2)))))
set_option maxHeartbeats 4000000 in
set_option maxRecDepth 100000 in
theorem t_X8_undo {l : Launch} {D : va_G} {ad : Nat → Nat} {cA : Nat → ClassId} {d : Nat} (hdp : 2 ≤ d) {a0 : Nat} (k0 : kd a0 = 8) {h : Hp} {o : Int32 × Hp} (hf : f_X8_undo a0 h = some o) : Cr l D ad cA d yX8_undo cX8_undo 1 (some .int) [.ref (ad a0)] h (some (.int o.1)) o.2 := by
  obtain ⟨d, rfl⟩ : ∃ e, d = e + 1 := ⟨d - 1, by omega⟩
  have hdp : 1 ≤ d := by omega
  unfold f_X8_undo at hf
  refine Cr_of (by decide +kernel) rfl (Nat.le_of_ble_eq_true rfl) (lv0 := [(0, .ref (ad a0))]) rfl ?_
  refine j_aload_n (pc := 0) 0 dX8_undo_0 rfl rfl ?_
  refine j_getI (pc := 1) dX8_undo_1 fl342 k0 (by decide) rfl ?_
  refine j_if_ne (pc := 4) (tgt := 10) dX8_undo_4 (by decide) hf (fun _ hf => ?_) (fun _ hf => ?_)
  · refine j_aload_n (pc := 10) 0 dX8_undo_10 rfl rfl ?_
    refine j_getR (pc := 11) (n := 1) dX8_undo_11 fl332 k0 (by decide) rfl ?_
    refine j_aload_n (pc := 14) 0 dX8_undo_14 rfl rfl ?_
    refine j_getR (pc := 15) (n := 6) dX8_undo_15 fl333 k0 (by decide) rfl ?_
    refine j_callVv (pc := 18) (d := d) (As := [.ref (ad (a0 + 6))]) (st := []) dX8_undo_18 s462 (lk_8_0 k0) (by decide) rfl rfl (by decide) (Nat.le_of_ble_eq_true rfl) (fun q hq => t_X3_copyFrom (by omega) (lk_8_0 k0) (lk_8_1 k0) hq) hf (fun q1 hf => ?_)
    refine j_aload_n (pc := 21) 0 dX8_undo_21 rfl rfl ?_
    refine j_getR (pc := 22) (n := 56) dX8_undo_22 fl337 k0 (by decide) rfl ?_
    refine j_callVv (pc := 25) (d := d) (As := []) (st := []) dX8_undo_25 s377 (lk_8_5 k0) (by decide) rfl rfl (by decide) (Nat.le_of_ble_eq_true rfl) (fun q hq => t_X2_forget (lk_8_5 k0) hq) hf (fun q2 hf => ?_)
    refine j_aload_n (pc := 28) 0 dX8_undo_28 rfl rfl ?_
    refine j_getR (pc := 29) (n := 1) dX8_undo_29 fl332 k0 (by decide) rfl ?_
    refine j_callVi (pc := 32) (d := d) (As := []) (st := []) dX8_undo_32 s385 (lk_8_0 k0) (by decide) rfl rfl (by decide) (Nat.le_of_ble_eq_true rfl) (fun q hq => t_X3_sumOfAll (lk_8_0 k0) hq) hf (fun q3 hf => ?_)
    exact j_iret (pc := 35) dX8_undo_35 rfl hf
  · refine j_bipush (pc := 7) dX8_undo_7 (v := -3) (by decide) ?_
    exact j_iret (pc := 9) dX8_undo_9 rfl hf
def f_X8_votes (a0 : Nat) (x1 : Int32) (x2 : Int32) (h : Hp) : Option (Int32 × Hp) := if x1 < ((-1)) then (some ((-1), h)) else (if 4 ≤ x1 then (some ((-1), h)) else (if x2 < ((-1)) then (some ((-1), h)) else (if x2 < 6 then (if x1 = ((-1)) then (if x2 = ((-1)) then ((f_X3_sumOfAll (a0 + 1) h).bind (fun q4 => some (q4.1, q4.2))) else ((f_X3_totalOf (a0 + 1) x2 h).bind (fun q3 => some (q3.1, q3.2)))) else (if x2 = ((-1)) then ((f_X3_sumOfWard (a0 + 1) x1 h).bind (fun q2 => some (q2.1, q2.2))) else ((f_X8_cellOf x1 x2 h).bind (fun q1 => if ix q1.1 24 = true then (some (q1.2.1 (a0 + 1 + 1) (Int32.toNatClampNeg q1.1), q1.2)) else none)))) else (some ((-1), h)))))
set_option maxHeartbeats 4000000 in
set_option maxRecDepth 100000 in
theorem t_X8_votes {l : Launch} {D : va_G} {ad : Nat → Nat} {cA : Nat → ClassId} {d : Nat} (hdp : 2 ≤ d) {a0 : Nat} {x1 : Int32} {x2 : Int32} (k0 : kd a0 = 8) {h : Hp} {o : Int32 × Hp} (hf : f_X8_votes a0 x1 x2 h = some o) : Cr l D ad cA d yX8_votes cX8_votes 3 (some .int) [.ref (ad a0), .int x1, .int x2] h (some (.int o.1)) o.2 := by
  obtain ⟨d, rfl⟩ : ∃ e, d = e + 1 := ⟨d - 1, by omega⟩
  have hdp : 1 ≤ d := by omega
  unfold f_X8_votes at hf
  refine Cr_of (by decide +kernel) rfl (Nat.le_of_ble_eq_true rfl) (lv0 := [(0, .ref (ad a0)), (1, .int x1), (2, .int x2)]) rfl ?_
  refine j_iload_n (pc := 0) 1 dX8_votes_0 rfl rfl ?_
  refine j_iconst (pc := 1) dX8_votes_1 (v := -1) (by decide) ?_
  refine j_icmp_lt (pc := 2) (tgt := 21) dX8_votes_2 (by decide) hf (fun _ hf => ?_) (fun _ hf => ?_)
  · refine j_iconst (pc := 21) dX8_votes_21 (v := -1) (by decide) ?_
    exact j_iret (pc := 22) dX8_votes_22 rfl hf
  · refine j_iload_n (pc := 5) 1 dX8_votes_5 rfl rfl ?_
    refine j_iconst (pc := 6) dX8_votes_6 (v := 4) (by decide) ?_
    refine j_icmp_ge (pc := 7) (tgt := 21) dX8_votes_7 (by decide) hf (fun _ hf => ?_) (fun _ hf => ?_)
    · refine j_iconst (pc := 21) dX8_votes_21 (v := -1) (by decide) ?_
      exact j_iret (pc := 22) dX8_votes_22 rfl hf
    · refine j_iload_n (pc := 10) 2 dX8_votes_10 rfl rfl ?_
      refine j_iconst (pc := 11) dX8_votes_11 (v := -1) (by decide) ?_
      refine j_icmp_lt (pc := 12) (tgt := 21) dX8_votes_12 (by decide) hf (fun _ hf => ?_) (fun _ hf => ?_)
      · refine j_iconst (pc := 21) dX8_votes_21 (v := -1) (by decide) ?_
        exact j_iret (pc := 22) dX8_votes_22 rfl hf
      · refine j_iload_n (pc := 15) 2 dX8_votes_15 rfl rfl ?_
        refine j_bipush (pc := 16) dX8_votes_16 (v := 6) (by decide) ?_
        refine j_icmp_lt (pc := 18) (tgt := 23) dX8_votes_18 (by decide) hf (fun _ hf => ?_) (fun _ hf => ?_)
        · refine j_iload_n (pc := 23) 1 dX8_votes_23 rfl rfl ?_
          refine j_iconst (pc := 24) dX8_votes_24 (v := -1) (by decide) ?_
          refine j_icmp_ne (pc := 25) (tgt := 52) dX8_votes_25 (by decide) hf (fun _ hf => ?_) (fun _ hf => ?_)
          · refine j_iload_n (pc := 52) 2 dX8_votes_52 rfl rfl ?_
            refine j_iconst (pc := 53) dX8_votes_53 (v := -1) (by decide) ?_
            refine j_icmp_ne (pc := 54) (tgt := 68) dX8_votes_54 (by decide) hf (fun _ hf => ?_) (fun _ hf => ?_)
            · refine j_aload_n (pc := 68) 0 dX8_votes_68 rfl rfl ?_
              refine j_getR (pc := 69) (n := 1) dX8_votes_69 fl332 k0 (by decide) rfl ?_
              refine j_getR (pc := 72) (n := 1) dX8_votes_72 fl99 (lk_8_0 k0) (by decide) rfl ?_
              refine j_iload_n (pc := 75) 1 dX8_votes_75 rfl rfl ?_
              refine j_iload_n (pc := 76) 2 dX8_votes_76 rfl rfl ?_
              refine j_callSi (pc := 77) (d := d) (As := [.int x1, .int x2]) (st := [.ref (ad (a0 + 1 + 1))]) dX8_votes_77 s374 rfl rfl (by decide) (Nat.le_of_ble_eq_true rfl) (fun q hq => t_X8_cellOf  hq) hf (fun q1 hf => ?_)
              refine j_iaload (pc := 80) dX8_votes_80 (lk_3_0 (lk_8_0 k0)) (ll_3_0 (lk_8_0 k0)) hf (fun _ hf => ?_)
              exact j_iret (pc := 81) dX8_votes_81 rfl hf
            · refine j_aload_n (pc := 57) 0 dX8_votes_57 rfl rfl ?_
              refine j_getR (pc := 58) (n := 1) dX8_votes_58 fl332 k0 (by decide) rfl ?_
              refine j_iload_n (pc := 61) 1 dX8_votes_61 rfl rfl ?_
              refine j_callVi (pc := 62) (d := d) (As := [.int x1]) (st := []) dX8_votes_62 s394 (lk_8_0 k0) (by decide) rfl rfl (by decide) (Nat.le_of_ble_eq_true rfl) (fun q hq => t_X3_sumOfWard (by omega) (lk_8_0 k0) hq) hf (fun q2 hf => ?_)
              refine j_goto (pc := 65) (tgt := 81) dX8_votes_65 (by decide) ?_
              exact j_iret (pc := 81) dX8_votes_81 rfl hf
          · refine j_iload_n (pc := 28) 2 dX8_votes_28 rfl rfl ?_
            refine j_iconst (pc := 29) dX8_votes_29 (v := -1) (by decide) ?_
            refine j_icmp_ne (pc := 30) (tgt := 43) dX8_votes_30 (by decide) hf (fun _ hf => ?_) (fun _ hf => ?_)
            · refine j_aload_n (pc := 43) 0 dX8_votes_43 rfl rfl ?_
              refine j_getR (pc := 44) (n := 1) dX8_votes_44 fl332 k0 (by decide) rfl ?_
              refine j_iload_n (pc := 47) 2 dX8_votes_47 rfl rfl ?_
              refine j_callVi (pc := 48) (d := d) (As := [.int x2]) (st := []) dX8_votes_48 s389 (lk_8_0 k0) (by decide) rfl rfl (by decide) (Nat.le_of_ble_eq_true rfl) (fun q hq => t_X3_totalOf (by omega) (lk_8_0 k0) hq) hf (fun q3 hf => ?_)
              exact j_iret (pc := 51) dX8_votes_51 rfl hf
            · refine j_aload_n (pc := 33) 0 dX8_votes_33 rfl rfl ?_
              refine j_getR (pc := 34) (n := 1) dX8_votes_34 fl332 k0 (by decide) rfl ?_
              refine j_callVi (pc := 37) (d := d) (As := []) (st := []) dX8_votes_37 s385 (lk_8_0 k0) (by decide) rfl rfl (by decide) (Nat.le_of_ble_eq_true rfl) (fun q hq => t_X3_sumOfAll (lk_8_0 k0) hq) hf (fun q4 hf => ?_)
              refine j_goto (pc := 40) (tgt := 51) dX8_votes_40 (by decide) ?_
              exact j_iret (pc := 51) dX8_votes_51 rfl hf
        · refine j_iconst (pc := 21) dX8_votes_21 (v := -1) (by decide) ?_
          exact j_iret (pc := 22) dX8_votes_22 rfl hf
def f_X9_all_4 (k4 : Nat → Int32 → Int32 → Hp → Option (Int32 × Hp)) (a0 : Nat) (x1 : Int32) (x2 : Int32) (h : Hp) : Option (Int32 × Hp) := if 4 ≤ x2 then (some (x1, h)) else ((f_X9_ofWard a0 x2 h).bind (fun q1 => lt (x1 + q1.1) (fun v2 => lt (x2 + 1) (fun v3 => k4 a0 v2 v3 q1.2))))
set_option maxHeartbeats 4000000 in
set_option maxRecDepth 100000 in
theorem t_X9_all_4 {l : Launch} {D : va_G} {ad : Nat → Nat} {cA : Nat → ClassId} {d : Nat} (hdp : 1 ≤ d) {o : Int32 × Hp}  : ∀ (n : Nat) {a0 : Nat} {x1 : Int32} {x2 : Int32} (k0 : kd a0 = 9) {h : Hp}, lp (F := Nat → Int32 → Int32 → Hp → Option (Int32 × Hp)) (fun _ _ _ _ => none) (f_X9_all_4) n a0 x1 x2 h = some o → J l D ad cA (fun _ => True) (rmd (d + 1)) (0, 0) (mQ D ad cA (some (.int o.1)) o.2) cX9_all RX9 3 (some .int) 4 [(0, .ref (ad a0)), (1, .int x1), (2, .int x2)] [] h := by
  intro n
  induction n with
  | zero =>
    intro a0 x1 x2 k0 h hf
    have hf : (none : Option (Int32 × Hp)) = some o := hf
    cases hf
  | succ n hk4 =>
    intro a0 x1 x2 k0 h hf
    have hf : f_X9_all_4  (lp (F := Nat → Int32 → Int32 → Hp → Option (Int32 × Hp)) (fun _ _ _ _ => none) (f_X9_all_4) n) a0 x1 x2 h = some o := hf
    unfold f_X9_all_4 at hf
    refine j_iload_n (pc := 4) 2 dX9_all_4 rfl rfl ?_
    refine j_iconst (pc := 5) dX9_all_5 (v := 4) (by decide) ?_
    refine j_icmp_ge (pc := 6) (tgt := 23) dX9_all_6 (by decide) hf (fun _ hf => ?_) (fun _ hf => ?_)
    · refine j_iload_n (pc := 23) 1 dX9_all_23 rfl rfl ?_
      exact j_iret (pc := 24) dX9_all_24 rfl hf
    · refine j_iload_n (pc := 9) 1 dX9_all_9 rfl rfl ?_
      refine j_aload_n (pc := 10) 0 dX9_all_10 rfl rfl ?_
      refine j_iload_n (pc := 11) 2 dX9_all_11 rfl rfl ?_
      refine j_callVi (pc := 12) (d := d) (As := [.int x2]) (st := [.int x1]) dX9_all_12 s1002 k0 (by decide) rfl rfl (by decide) (Nat.le_of_ble_eq_true rfl) (fun q hq => t_X9_ofWard (by omega) k0 hq) hf (fun q1 hf => ?_)
      refine j_iadd (pc := 15) dX9_all_15  ?_
      refine j_istore_nN (pc := 16) (lv' := fun v2 => [(1, .int v2), (0, .ref (ad a0)), (2, .int x2)]) dX9_all_16 rfl (by decide) (fun _ => rfl) hf (fun v2 hf => ?_)
      refine j_iinc (pc := 17) 2 (c := 1) (lv' := fun v3 => [(2, .int v3), (1, .int v2), (0, .ref (ad a0))]) dX9_all_17 rfl (by decide) (by decide) (fun _ => rfl) hf (fun v3 hf => ?_)
      refine j_goto (pc := 20) (tgt := 4) dX9_all_20 (by decide) ?_
      refine j_sub [2, 1, 0] rfl ?_
      exact hk4 k0 hf
def f_X9_all (a0 : Nat) (h : Hp) : Option (Int32 × Hp) := lp (F := Nat → Int32 → Int32 → Hp → Option (Int32 × Hp)) (fun _ _ _ _ => none) (f_X9_all_4) 1000 a0 0 0 h
set_option maxHeartbeats 4000000 in
set_option maxRecDepth 100000 in
theorem t_X9_all {l : Launch} {D : va_G} {ad : Nat → Nat} {cA : Nat → ClassId} {d : Nat} (hdp : 2 ≤ d) {a0 : Nat} (k0 : kd a0 = 9) {h : Hp} {o : Int32 × Hp} (hf : f_X9_all a0 h = some o) : Cr l D ad cA d yX9_all cX9_all 3 (some .int) [.ref (ad a0)] h (some (.int o.1)) o.2 := by
  obtain ⟨d, rfl⟩ : ∃ e, d = e + 1 := ⟨d - 1, by omega⟩
  have hdp : 1 ≤ d := by omega
  unfold f_X9_all at hf
  refine Cr_of (by decide +kernel) rfl (Nat.le_of_ble_eq_true rfl) (lv0 := [(0, .ref (ad a0))]) rfl ?_
  refine j_iconst (pc := 0) dX9_all_0 (v := 0) (by decide) ?_
  refine j_istore_n (pc := 1) (lv' := [(1, .int 0), (0, .ref (ad a0))]) dX9_all_1 rfl (by decide) rfl ?_
  refine j_iconst (pc := 2) dX9_all_2 (v := 0) (by decide) ?_
  refine j_istore_n (pc := 3) (lv' := [(2, .int 0), (1, .int 0), (0, .ref (ad a0))]) dX9_all_3 rfl (by decide) rfl ?_
  refine j_sub [2, 1, 0] rfl ?_
  exact t_X9_all_4 hdp  1000 k0 hf
def f_X9_dearer_95  (x10 : Int64) (y0 : Int64) (h : Hp) : Option (Int32 × Hp) := if (lg_cmp x10 y0) ≤ 0 then (if 0 ≤ (lg_cmp x10 y0) then (some (0, h)) else (some ((-1), h))) else (some (1, h))
set_option maxHeartbeats 4000000 in
set_option maxRecDepth 100000 in
theorem t_X9_dearer_95 {l : Launch} {D : va_G} {ad : Nat → Nat} {cA : Nat → ClassId} {d : Nat} (hdp : 1 ≤ d) {o : Int32 × Hp}  {x10 : Int64} {y0 : Int64}  {h : Hp} (hf : f_X9_dearer_95  x10 y0 h = some o) : J l D ad cA (fun _ => True) (rmd (d + 1)) (0, 0) (mQ D ad cA (some (.int o.1)) o.2) cX9_dearer RX9 14 (some .int) 95 [(10, .long x10)] [.long y0] h := by
  unfold f_X9_dearer_95 at hf
  refine j_lstore (pc := 95) (lv' := [(12, .long y0), (10, .long x10)]) dX9_dearer_95 (by decide) rfl ?_
  refine j_lload (pc := 97) 1 dX9_dearer_97 rfl ?_
  refine j_lload (pc := 99) 0 dX9_dearer_99 rfl ?_
  refine j_lcmp (pc := 101) dX9_dearer_101  ?_
  refine j_if_le (pc := 102) (tgt := 109) dX9_dearer_102 (by decide) hf (fun _ hf => ?_) (fun _ hf => ?_)
  · refine j_lload (pc := 109) 1 dX9_dearer_109 rfl ?_
    refine j_lload (pc := 111) 0 dX9_dearer_111 rfl ?_
    refine j_lcmp (pc := 113) dX9_dearer_113  ?_
    refine j_if_ge (pc := 114) (tgt := 121) dX9_dearer_114 (by decide) hf (fun _ hf => ?_) (fun _ hf => ?_)
    · refine j_iconst (pc := 121) dX9_dearer_121 (v := 0) (by decide) ?_
      exact j_iret (pc := 122) dX9_dearer_122 rfl hf
    · refine j_iconst (pc := 117) dX9_dearer_117 (v := -1) (by decide) ?_
      refine j_goto (pc := 118) (tgt := 122) dX9_dearer_118 (by decide) ?_
      exact j_iret (pc := 122) dX9_dearer_122 rfl hf
  · refine j_iconst (pc := 105) dX9_dearer_105 (v := 1) (by decide) ?_
    refine j_goto (pc := 106) (tgt := 122) dX9_dearer_106 (by decide) ?_
    exact j_iret (pc := 122) dX9_dearer_122 rfl hf
def f_X9_dearer_70  (a0 : Nat) (x1 : Int32) (x5 : Int64) (x7 : Int32) (x8 : Int32) (y0 : Int64) (h : Hp) : Option (Int32 × Hp) := if x8 = 0 then (f_X9_dearer_95  y0 x5 h) else ((f_X9_top a0 x1 x5 x7 h).bind (fun q4 => f_X9_dearer_95  y0 (q4.1 * (Int32.toInt64 x8)) q4.2))
set_option maxHeartbeats 4000000 in
set_option maxRecDepth 100000 in
theorem t_X9_dearer_70 {l : Launch} {D : va_G} {ad : Nat → Nat} {cA : Nat → ClassId} {d : Nat} (hdp : 1 ≤ d) {o : Int32 × Hp}  {a0 : Nat} {x1 : Int32} {x5 : Int64} {x7 : Int32} {x8 : Int32} {y0 : Int64} (k0 : kd a0 = 9) {h : Hp} (hf : f_X9_dearer_70  a0 x1 x5 x7 x8 y0 h = some o) : J l D ad cA (fun _ => True) (rmd (d + 1)) (0, 0) (mQ D ad cA (some (.int o.1)) o.2) cX9_dearer RX9 14 (some .int) 70 [(0, .ref (ad a0)), (1, .int x1), (5, .long x5), (7, .int x7), (8, .int x8)] [.long y0] h := by
  unfold f_X9_dearer_70 at hf
  refine j_lstore (pc := 70) (lv' := [(10, .long y0), (0, .ref (ad a0)), (1, .int x1), (5, .long x5), (7, .int x7), (8, .int x8)]) dX9_dearer_70 (by decide) rfl ?_
  refine j_iload (pc := 72) 5 dX9_dearer_72 rfl ?_
  refine j_if_ne (pc := 74) (tgt := 82) dX9_dearer_74 (by decide) hf (fun _ hf => ?_) (fun _ hf => ?_)
  · refine j_aload_n (pc := 82) 1 dX9_dearer_82 rfl rfl ?_
    refine j_iload_n (pc := 83) 2 dX9_dearer_83 rfl rfl ?_
    refine j_lload (pc := 84) 3 dX9_dearer_84 rfl ?_
    refine j_iload (pc := 86) 4 dX9_dearer_86 rfl ?_
    refine j_callVl (pc := 88) (d := d) (As := [.int x1, .long x5, .int x7]) (st := []) dX9_dearer_88 s1088 k0 (by decide) rfl rfl (by decide) (Nat.le_of_ble_eq_true rfl) (fun q hq => t_X9_top (by omega) k0 hq) hf (fun q4 hf => ?_)
    refine j_iload (pc := 91) 5 dX9_dearer_91 rfl ?_
    refine j_i2l (pc := 93) dX9_dearer_93  ?_
    refine j_lmul (pc := 94) dX9_dearer_94  ?_
    refine j_sub [0] rfl ?_
    exact t_X9_dearer_95 hdp   hf
  · refine j_lload (pc := 77) 3 dX9_dearer_77 rfl ?_
    refine j_goto (pc := 79) (tgt := 95) dX9_dearer_79 (by decide) ?_
    refine j_sub [0] rfl ?_
    exact t_X9_dearer_95 hdp   hf
def f_X9_dearer_49  (a0 : Nat) (x1 : Int32) (x2 : Int64) (x4 : Int32) (x5 : Int64) (x7 : Int32) (x8 : Int32) (x9 : Int32) (h : Hp) : Option (Int32 × Hp) := if x8 = 0 then (f_X9_dearer_70  a0 x1 x5 x7 x8 x2 h) else ((f_X9_top a0 x1 x2 x4 h).bind (fun q3 => f_X9_dearer_70  a0 x1 x5 x7 x8 (q3.1 * (Int32.toInt64 x9)) q3.2))
set_option maxHeartbeats 4000000 in
set_option maxRecDepth 100000 in
theorem t_X9_dearer_49 {l : Launch} {D : va_G} {ad : Nat → Nat} {cA : Nat → ClassId} {d : Nat} (hdp : 1 ≤ d) {o : Int32 × Hp}  {a0 : Nat} {x1 : Int32} {x2 : Int64} {x4 : Int32} {x5 : Int64} {x7 : Int32} {x8 : Int32} {x9 : Int32} (k0 : kd a0 = 9) {h : Hp} (hf : f_X9_dearer_49  a0 x1 x2 x4 x5 x7 x8 x9 h = some o) : J l D ad cA (fun _ => True) (rmd (d + 1)) (0, 0) (mQ D ad cA (some (.int o.1)) o.2) cX9_dearer RX9 14 (some .int) 49 [(0, .ref (ad a0)), (1, .int x1), (2, .long x2), (4, .int x4), (5, .long x5), (7, .int x7), (8, .int x8), (9, .int x9)] [] h := by
  unfold f_X9_dearer_49 at hf
  refine j_iload (pc := 49) 6 dX9_dearer_49 rfl ?_
  refine j_if_ne (pc := 51) (tgt := 58) dX9_dearer_51 (by decide) hf (fun _ hf => ?_) (fun _ hf => ?_)
  · refine j_aload_n (pc := 58) 0 dX9_dearer_58 rfl rfl ?_
    refine j_iload_n (pc := 59) 1 dX9_dearer_59 rfl rfl ?_
    refine j_lload_n (pc := 60) 2 dX9_dearer_60 rfl rfl ?_
    refine j_iload (pc := 61) 3 dX9_dearer_61 rfl ?_
    refine j_callVl (pc := 63) (d := d) (As := [.int x1, .long x2, .int x4]) (st := []) dX9_dearer_63 s1088 k0 (by decide) rfl rfl (by decide) (Nat.le_of_ble_eq_true rfl) (fun q hq => t_X9_top (by omega) k0 hq) hf (fun q3 hf => ?_)
    refine j_iload (pc := 66) 7 dX9_dearer_66 rfl ?_
    refine j_i2l (pc := 68) dX9_dearer_68  ?_
    refine j_lmul (pc := 69) dX9_dearer_69  ?_
    refine j_sub [0, 1, 4, 5, 6] rfl ?_
    exact t_X9_dearer_70 hdp  k0 hf
  · refine j_lload_n (pc := 54) 2 dX9_dearer_54 rfl rfl ?_
    refine j_goto (pc := 55) (tgt := 70) dX9_dearer_55 (by decide) ?_
    refine j_sub [0, 1, 4, 5, 6] rfl ?_
    exact t_X9_dearer_70 hdp  k0 hf
def f_X9_dearer_38  (x8 : Int32) (h : Hp) : Option (Int32 × Hp) := if x8 = 0 then (some (1, h)) else (some ((-1), h))
set_option maxHeartbeats 4000000 in
set_option maxRecDepth 100000 in
theorem t_X9_dearer_38 {l : Launch} {D : va_G} {ad : Nat → Nat} {cA : Nat → ClassId} {d : Nat} (hdp : 1 ≤ d) {o : Int32 × Hp}  {x8 : Int32}  {h : Hp} (hf : f_X9_dearer_38  x8 h = some o) : J l D ad cA (fun _ => True) (rmd (d + 1)) (0, 0) (mQ D ad cA (some (.int o.1)) o.2) cX9_dearer RX9 14 (some .int) 38 [(8, .int x8)] [] h := by
  unfold f_X9_dearer_38 at hf
  refine j_iload (pc := 38) 0 dX9_dearer_38 rfl ?_
  refine j_if_ne (pc := 40) (tgt := 47) dX9_dearer_40 (by decide) hf (fun _ hf => ?_) (fun _ hf => ?_)
  · refine j_iconst (pc := 47) dX9_dearer_47 (v := -1) (by decide) ?_
    exact j_iret (pc := 48) dX9_dearer_48 rfl hf
  · refine j_iconst (pc := 43) dX9_dearer_43 (v := 1) (by decide) ?_
    refine j_goto (pc := 44) (tgt := 48) dX9_dearer_44 (by decide) ?_
    exact j_iret (pc := 48) dX9_dearer_48 rfl hf
def f_X9_dearer_28  (a0 : Nat) (x1 : Int32) (x2 : Int64) (x4 : Int32) (x5 : Int64) (x7 : Int32) (x8 : Int32) (x9 : Int32) (h : Hp) : Option (Int32 × Hp) := if x8 = 0 then (f_X9_dearer_49  a0 x1 x2 x4 x5 x7 x8 x9 h) else (if x9 = 0 then (f_X9_dearer_38  x8 h) else (f_X9_dearer_49  a0 x1 x2 x4 x5 x7 x8 x9 h))
set_option maxHeartbeats 4000000 in
set_option maxRecDepth 100000 in
theorem t_X9_dearer_28 {l : Launch} {D : va_G} {ad : Nat → Nat} {cA : Nat → ClassId} {d : Nat} (hdp : 1 ≤ d) {o : Int32 × Hp}  {a0 : Nat} {x1 : Int32} {x2 : Int64} {x4 : Int32} {x5 : Int64} {x7 : Int32} {x8 : Int32} {x9 : Int32} (k0 : kd a0 = 9) {h : Hp} (hf : f_X9_dearer_28  a0 x1 x2 x4 x5 x7 x8 x9 h = some o) : J l D ad cA (fun _ => True) (rmd (d + 1)) (0, 0) (mQ D ad cA (some (.int o.1)) o.2) cX9_dearer RX9 14 (some .int) 28 [(0, .ref (ad a0)), (1, .int x1), (2, .long x2), (4, .int x4), (5, .long x5), (7, .int x7), (8, .int x8), (9, .int x9)] [] h := by
  unfold f_X9_dearer_28 at hf
  refine j_iload (pc := 28) 6 dX9_dearer_28 rfl ?_
  refine j_if_eq (pc := 30) (tgt := 49) dX9_dearer_30 (by decide) hf (fun _ hf => ?_) (fun _ hf => ?_)
  · refine j_sub [0, 1, 2, 3, 4, 5, 6, 7] rfl ?_
    exact t_X9_dearer_49 hdp  k0 hf
  · refine j_iload (pc := 33) 7 dX9_dearer_33 rfl ?_
    refine j_if_ne (pc := 35) (tgt := 49) dX9_dearer_35 (by decide) hf (fun _ hf => ?_) (fun _ hf => ?_)
    · refine j_sub [0, 1, 2, 3, 4, 5, 6, 7] rfl ?_
      exact t_X9_dearer_49 hdp  k0 hf
    · refine j_sub [6] rfl ?_
      exact t_X9_dearer_38 hdp   hf
def f_X9_dearer (a0 : Nat) (x1 : Int32) (x2 : Int64) (x4 : Int32) (x5 : Int64) (x7 : Int32) (h : Hp) : Option (Int32 × Hp) := (f_X9_above a0 x1 x4 h).bind (fun q1 => (f_X9_above a0 x1 x7 q1.2).bind (fun q2 => if q1.1 = 0 then (if q2.1 = 0 then (f_X9_dearer_28  a0 x1 x2 x4 x5 x7 q1.1 q2.1 q2.2) else (f_X9_dearer_38  q1.1 q2.2)) else (f_X9_dearer_28  a0 x1 x2 x4 x5 x7 q1.1 q2.1 q2.2)))
set_option maxHeartbeats 4000000 in
set_option maxRecDepth 100000 in
theorem t_X9_dearer {l : Launch} {D : va_G} {ad : Nat → Nat} {cA : Nat → ClassId} {d : Nat} (hdp : 2 ≤ d) {a0 : Nat} {x1 : Int32} {x2 : Int64} {x4 : Int32} {x5 : Int64} {x7 : Int32} (k0 : kd a0 = 9) {h : Hp} {o : Int32 × Hp} (hf : f_X9_dearer a0 x1 x2 x4 x5 x7 h = some o) : Cr l D ad cA d yX9_dearer cX9_dearer 14 (some .int) [.ref (ad a0), .int x1, .long x2, .int x4, .long x5, .int x7] h (some (.int o.1)) o.2 := by
  obtain ⟨d, rfl⟩ : ∃ e, d = e + 1 := ⟨d - 1, by omega⟩
  have hdp : 1 ≤ d := by omega
  unfold f_X9_dearer at hf
  refine Cr_of (by decide +kernel) rfl (Nat.le_of_ble_eq_true rfl) (lv0 := [(0, .ref (ad a0)), (1, .int x1), (2, .long x2), (4, .int x4), (5, .long x5), (7, .int x7)]) rfl ?_
  refine j_aload_n (pc := 0) 0 dX9_dearer_0 rfl rfl ?_
  refine j_iload_n (pc := 1) 1 dX9_dearer_1 rfl rfl ?_
  refine j_iload (pc := 2) 3 dX9_dearer_2 rfl ?_
  refine j_callVi (pc := 4) (d := d) (As := [.int x1, .int x4]) (st := []) dX9_dearer_4 s1083 k0 (by decide) rfl rfl (by decide) (Nat.le_of_ble_eq_true rfl) (fun q hq => t_X9_above k0 hq) hf (fun q1 hf => ?_)
  refine j_istore (pc := 7) (lv' := [(8, .int q1.1), (0, .ref (ad a0)), (1, .int x1), (2, .long x2), (4, .int x4), (5, .long x5), (7, .int x7)]) dX9_dearer_7 (by decide) rfl ?_
  refine j_aload_n (pc := 9) 1 dX9_dearer_9 rfl rfl ?_
  refine j_iload_n (pc := 10) 2 dX9_dearer_10 rfl rfl ?_
  refine j_iload (pc := 11) 6 dX9_dearer_11 rfl ?_
  refine j_callVi (pc := 13) (d := d) (As := [.int x1, .int x7]) (st := []) dX9_dearer_13 s1083 k0 (by decide) rfl rfl (by decide) (Nat.le_of_ble_eq_true rfl) (fun q hq => t_X9_above k0 hq) hf (fun q2 hf => ?_)
  refine j_istore (pc := 16) (lv' := [(9, .int q2.1), (8, .int q1.1), (0, .ref (ad a0)), (1, .int x1), (2, .long x2), (4, .int x4), (5, .long x5), (7, .int x7)]) dX9_dearer_16 (by decide) rfl ?_
  refine j_iload (pc := 18) 1 dX9_dearer_18 rfl ?_
  refine j_if_ne (pc := 20) (tgt := 28) dX9_dearer_20 (by decide) hf (fun _ hf => ?_) (fun _ hf => ?_)
  · refine j_sub [2, 3, 4, 5, 6, 7, 1, 0] rfl ?_
    exact t_X9_dearer_28 hdp  k0 hf
  · refine j_iload (pc := 23) 0 dX9_dearer_23 rfl ?_
    refine j_if_ne (pc := 25) (tgt := 38) dX9_dearer_25 (by decide) hf (fun _ hf => ?_) (fun _ hf => ?_)
    · refine j_sub [1] rfl ?_
      exact t_X9_dearer_38 hdp   hf
    · refine j_sub [2, 3, 4, 5, 6, 7, 1, 0] rfl ?_
      exact t_X9_dearer_28 hdp  k0 hf
def f_X9_get (a0 : Nat) (x1 : Int32) (x2 : Int32) (h : Hp) : Option (Int64 × Hp) := (f_X9_isRow x1 h).bind (fun q1 => if q1.1 = 0 then (some ((-9223372036854775808), q1.2)) else (if ix x1 4 = true then ((f_X9_within (Int32.toInt64 x2) 0 (Int32.toInt64 ((q1.2.1 (a0 + 27) (Int32.toNatClampNeg x1)) - 1)) q1.2).bind (fun q2 => if q2.1 = 0 then (some ((-9223372036854775808), q2.2)) else (if ix ((40 * x1) + x2) 160 = true then (some (Int32.toInt64 (q2.2.1 (a0 + 26) (Int32.toNatClampNeg ((40 * x1) + x2))), q2.2)) else none))) else none))
set_option maxHeartbeats 4000000 in
set_option maxRecDepth 100000 in
theorem t_X9_get {l : Launch} {D : va_G} {ad : Nat → Nat} {cA : Nat → ClassId} {d : Nat} (hdp : 2 ≤ d) {a0 : Nat} {x1 : Int32} {x2 : Int32} (k0 : kd a0 = 9) {h : Hp} {o : Int64 × Hp} (hf : f_X9_get a0 x1 x2 h = some o) : Cr l D ad cA d yX9_get cX9_get 3 (some .long) [.ref (ad a0), .int x1, .int x2] h (some (.long o.1)) o.2 := by
  obtain ⟨d, rfl⟩ : ∃ e, d = e + 1 := ⟨d - 1, by omega⟩
  have hdp : 1 ≤ d := by omega
  unfold f_X9_get at hf
  refine Cr_of (by decide +kernel) rfl (Nat.le_of_ble_eq_true rfl) (lv0 := [(0, .ref (ad a0)), (1, .int x1), (2, .int x2)]) rfl ?_
  refine j_iload_n (pc := 0) 1 dX9_get_0 rfl rfl ?_
  refine j_callSi (pc := 1) (d := d) (As := [.int x1]) (st := []) dX9_get_1 s1337 rfl rfl (by decide) (Nat.le_of_ble_eq_true rfl) (fun q hq => t_X9_isRow (by omega)  hq) hf (fun q1 hf => ?_)
  refine j_if_eq (pc := 4) (tgt := 40) dX9_get_4 (by decide) hf (fun _ hf => ?_) (fun _ hf => ?_)
  · refine j_ldc2_w (pc := 40) dX9_get_40 (v := -9223372036854775808) w_c1087 ?_
    exact j_lret (pc := 43) dX9_get_43 rfl hf
  · refine j_iload_n (pc := 7) 2 dX9_get_7 rfl rfl ?_
    refine j_i2l (pc := 8) dX9_get_8  ?_
    refine j_lconst (pc := 9) dX9_get_9 (v := 0) rfl ?_
    refine j_aload_n (pc := 10) 0 dX9_get_10 rfl rfl ?_
    refine j_getR (pc := 11) (n := 27) dX9_get_11 fl886 k0 (by decide) rfl ?_
    refine j_iload_n (pc := 14) 1 dX9_get_14 rfl rfl ?_
    refine j_iaload (pc := 15) dX9_get_15 (lk_9_40 k0) (ll_9_40 k0) hf (fun _ hf => ?_)
    refine j_iconst (pc := 16) dX9_get_16 (v := 1) (by decide) ?_
    refine j_isub (pc := 17) dX9_get_17  ?_
    refine j_i2l (pc := 18) dX9_get_18  ?_
    refine j_callSi (pc := 19) (d := d) (As := [.long (Int32.toInt64 x2), .long 0, .long (Int32.toInt64 ((q1.2.1 (a0 + 27) (Int32.toNatClampNeg x1)) - 1))]) (st := []) dX9_get_19 s982 rfl rfl (by decide) (Nat.le_of_ble_eq_true rfl) (fun q hq => t_X9_within  hq) hf (fun q2 hf => ?_)
    refine j_if_eq (pc := 22) (tgt := 40) dX9_get_22 (by decide) hf (fun _ hf => ?_) (fun _ hf => ?_)
    · refine j_ldc2_w (pc := 40) dX9_get_40 (v := -9223372036854775808) w_c1087 ?_
      exact j_lret (pc := 43) dX9_get_43 rfl hf
    · refine j_aload_n (pc := 25) 0 dX9_get_25 rfl rfl ?_
      refine j_getR (pc := 26) (n := 26) dX9_get_26 fl885 k0 (by decide) rfl ?_
      refine j_bipush (pc := 29) dX9_get_29 (v := 40) (by decide) ?_
      refine j_iload_n (pc := 31) 1 dX9_get_31 rfl rfl ?_
      refine j_imul (pc := 32) dX9_get_32  ?_
      refine j_iload_n (pc := 33) 2 dX9_get_33 rfl rfl ?_
      refine j_iadd (pc := 34) dX9_get_34  ?_
      refine j_iaload (pc := 35) dX9_get_35 (lk_9_39 k0) (ll_9_39 k0) hf (fun _ hf => ?_)
      refine j_i2l (pc := 36) dX9_get_36  ?_
      refine j_goto (pc := 37) (tgt := 43) dX9_get_37 (by decide) ?_
      exact j_lret (pc := 43) dX9_get_43 rfl hf
def f_X9_isBetter (a0 : Nat) (a1 : Nat) (h : Hp) : Option (Int32 × Hp) := (f_X9_product a0 a1 1 h).bind (fun q1 => (f_X9_product a0 a1 0 q1.2).bind (fun q2 => if (q2.2.1 a0 38) = 0 then (if (lg_cmp q1.1 q2.1) ≤ 0 then (if isB 0 = true then some (0, q2.2) else none) else (if isB 1 = true then some (1, q2.2) else none)) else (if isB 0 = true then some (0, q2.2) else none)))
set_option maxHeartbeats 4000000 in
set_option maxRecDepth 100000 in
theorem t_X9_isBetter {l : Launch} {D : va_G} {ad : Nat → Nat} {cA : Nat → ClassId} {d : Nat} (hdp : 2 ≤ d) {a0 : Nat} {a1 : Nat} (k0 : kd a0 = 9) (k1 : kd a1 = 10) {h : Hp} {o : Int32 × Hp} (hf : f_X9_isBetter a0 a1 h = some o) : Cr l D ad cA d yX9_isBetter cX9_isBetter 6 (some .boolean) [.ref (ad a0), .ref (ad a1)] h (some (.int o.1)) o.2 := by
  obtain ⟨d, rfl⟩ : ∃ e, d = e + 1 := ⟨d - 1, by omega⟩
  have hdp : 1 ≤ d := by omega
  unfold f_X9_isBetter at hf
  refine Cr_of (by decide +kernel) rfl (Nat.le_of_ble_eq_true rfl) (lv0 := [(0, .ref (ad a0)), (1, .ref (ad a1))]) rfl ?_
  refine j_aload_n (pc := 0) 0 dX9_isBetter_0 rfl rfl ?_
  refine j_aload_n (pc := 1) 1 dX9_isBetter_1 rfl rfl ?_
  refine j_iconst (pc := 2) dX9_isBetter_2 (v := 1) (by decide) ?_
  refine j_callVl (pc := 3) (d := d) (As := [.ref (ad a1), .int 1]) (st := []) dX9_isBetter_3 s1300 k0 (by decide) rfl rfl (by decide) (Nat.le_of_ble_eq_true rfl) (fun q hq => t_X9_product (by omega) k0 k1 hq) hf (fun q1 hf => ?_)
  refine j_lstore_n (pc := 6) (lv' := [(2, .long q1.1), (0, .ref (ad a0)), (1, .ref (ad a1))]) dX9_isBetter_6 rfl (by decide) rfl ?_
  refine j_aload_n (pc := 7) 1 dX9_isBetter_7 rfl rfl ?_
  refine j_aload_n (pc := 8) 2 dX9_isBetter_8 rfl rfl ?_
  refine j_iconst (pc := 9) dX9_isBetter_9 (v := 0) (by decide) ?_
  refine j_callVl (pc := 10) (d := d) (As := [.ref (ad a1), .int 0]) (st := []) dX9_isBetter_10 s1300 k0 (by decide) rfl rfl (by decide) (Nat.le_of_ble_eq_true rfl) (fun q hq => t_X9_product (by omega) k0 k1 hq) hf (fun q2 hf => ?_)
  refine j_lstore (pc := 13) (lv' := [(4, .long q2.1), (2, .long q1.1), (0, .ref (ad a0)), (1, .ref (ad a1))]) dX9_isBetter_13 (by decide) rfl ?_
  refine j_aload_n (pc := 15) 2 dX9_isBetter_15 rfl rfl ?_
  refine j_getI (pc := 16) dX9_isBetter_16 fl884 k0 (by decide) rfl ?_
  refine j_if_ne (pc := 19) (tgt := 33) dX9_isBetter_19 (by decide) hf (fun _ hf => ?_) (fun _ hf => ?_)
  · refine j_iconst (pc := 33) dX9_isBetter_33 (v := 0) (by decide) ?_
    exact j_zret (pc := 34) dX9_isBetter_34 rfl hf
  · refine j_lload_n (pc := 22) 1 dX9_isBetter_22 rfl rfl ?_
    refine j_lload (pc := 23) 0 dX9_isBetter_23 rfl ?_
    refine j_lcmp (pc := 25) dX9_isBetter_25  ?_
    refine j_if_le (pc := 26) (tgt := 33) dX9_isBetter_26 (by decide) hf (fun _ hf => ?_) (fun _ hf => ?_)
    · refine j_iconst (pc := 33) dX9_isBetter_33 (v := 0) (by decide) ?_
      exact j_zret (pc := 34) dX9_isBetter_34 rfl hf
    · refine j_iconst (pc := 29) dX9_isBetter_29 (v := 1) (by decide) ?_
      refine j_goto (pc := 30) (tgt := 34) dX9_isBetter_30 (by decide) ?_
      exact j_zret (pc := 34) dX9_isBetter_34 rfl hf
def f_X9_join (a0 : Nat) (x1 : Int32) (x2 : Int32) (h : Hp) : Option (Int32 × Hp) := (f_X9_isParty x1 h).bind (fun q1 => if q1.1 = 0 then (some ((-1), q1.2)) else ((f_X9_isParty x2 q1.2).bind (fun q2 => if q2.1 = 0 then (some ((-1), q2.2)) else ((f_X9_tells a0 (34 + x1) x2 q2.2).bind (fun q3 => some (q3.1, q3.2))))))
set_option maxHeartbeats 4000000 in
set_option maxRecDepth 100000 in
theorem t_X9_join {l : Launch} {D : va_G} {ad : Nat → Nat} {cA : Nat → ClassId} {d : Nat} (hdp : 2 ≤ d) {a0 : Nat} {x1 : Int32} {x2 : Int32} (k0 : kd a0 = 9) {h : Hp} {o : Int32 × Hp} (hf : f_X9_join a0 x1 x2 h = some o) : Cr l D ad cA d yX9_join cX9_join 3 (some .int) [.ref (ad a0), .int x1, .int x2] h (some (.int o.1)) o.2 := by
  obtain ⟨d, rfl⟩ : ∃ e, d = e + 1 := ⟨d - 1, by omega⟩
  have hdp : 1 ≤ d := by omega
  unfold f_X9_join at hf
  refine Cr_of (by decide +kernel) rfl (Nat.le_of_ble_eq_true rfl) (lv0 := [(0, .ref (ad a0)), (1, .int x1), (2, .int x2)]) rfl ?_
  refine j_iload_n (pc := 0) 1 dX9_join_0 rfl rfl ?_
  refine j_callSi (pc := 1) (d := d) (As := [.int x1]) (st := []) dX9_join_1 s985 rfl rfl (by decide) (Nat.le_of_ble_eq_true rfl) (fun q hq => t_X9_isParty (by omega)  hq) hf (fun q1 hf => ?_)
  refine j_if_eq (pc := 4) (tgt := 26) dX9_join_4 (by decide) hf (fun _ hf => ?_) (fun _ hf => ?_)
  · refine j_iconst (pc := 26) dX9_join_26 (v := -1) (by decide) ?_
    exact j_iret (pc := 27) dX9_join_27 rfl hf
  · refine j_iload_n (pc := 7) 2 dX9_join_7 rfl rfl ?_
    refine j_callSi (pc := 8) (d := d) (As := [.int x2]) (st := []) dX9_join_8 s985 rfl rfl (by decide) (Nat.le_of_ble_eq_true rfl) (fun q hq => t_X9_isParty (by omega)  hq) hf (fun q2 hf => ?_)
    refine j_if_eq (pc := 11) (tgt := 26) dX9_join_11 (by decide) hf (fun _ hf => ?_) (fun _ hf => ?_)
    · refine j_iconst (pc := 26) dX9_join_26 (v := -1) (by decide) ?_
      exact j_iret (pc := 27) dX9_join_27 rfl hf
    · refine j_aload_n (pc := 14) 0 dX9_join_14 rfl rfl ?_
      refine j_bipush (pc := 15) dX9_join_15 (v := 34) (by decide) ?_
      refine j_iload_n (pc := 17) 1 dX9_join_17 rfl rfl ?_
      refine j_iadd (pc := 18) dX9_join_18  ?_
      refine j_iload_n (pc := 19) 2 dX9_join_19 rfl rfl ?_
      refine j_callVi (pc := 20) (d := d) (As := [.int (34 + x1), .int x2]) (st := []) dX9_join_20 s990 k0 (by decide) rfl rfl (by decide) (Nat.le_of_ble_eq_true rfl) (fun q hq => t_X9_tells k0 hq) hf (fun q3 hf => ?_)
      refine j_goto (pc := 23) (tgt := 27) dX9_join_23 (by decide) ?_
      exact j_iret (pc := 27) dX9_join_27 rfl hf
def f_X9_least (a0 : Nat) (x1 : Int32) (x2 : Int32) (h : Hp) : Option (Int32 × Hp) := (f_X9_isParty x1 h).bind (fun q1 => if q1.1 = 0 then (some ((-1), q1.2)) else ((f_X9_within (Int32.toInt64 x2) 0 9 q1.2).bind (fun q2 => if q2.1 = 0 then (some ((-2), q2.2)) else ((f_X9_tells a0 (28 + x1) x2 q2.2).bind (fun q3 => some (q3.1, q3.2))))))
set_option maxHeartbeats 4000000 in
set_option maxRecDepth 100000 in
theorem t_X9_least {l : Launch} {D : va_G} {ad : Nat → Nat} {cA : Nat → ClassId} {d : Nat} (hdp : 2 ≤ d) {a0 : Nat} {x1 : Int32} {x2 : Int32} (k0 : kd a0 = 9) {h : Hp} {o : Int32 × Hp} (hf : f_X9_least a0 x1 x2 h = some o) : Cr l D ad cA d yX9_least cX9_least 3 (some .int) [.ref (ad a0), .int x1, .int x2] h (some (.int o.1)) o.2 := by
  obtain ⟨d, rfl⟩ : ∃ e, d = e + 1 := ⟨d - 1, by omega⟩
  have hdp : 1 ≤ d := by omega
  unfold f_X9_least at hf
  refine Cr_of (by decide +kernel) rfl (Nat.le_of_ble_eq_true rfl) (lv0 := [(0, .ref (ad a0)), (1, .int x1), (2, .int x2)]) rfl ?_
  refine j_iload_n (pc := 0) 1 dX9_least_0 rfl rfl ?_
  refine j_callSi (pc := 1) (d := d) (As := [.int x1]) (st := []) dX9_least_1 s985 rfl rfl (by decide) (Nat.le_of_ble_eq_true rfl) (fun q hq => t_X9_isParty (by omega)  hq) hf (fun q1 hf => ?_)
  refine j_if_ne (pc := 4) (tgt := 9) dX9_least_4 (by decide) hf (fun _ hf => ?_) (fun _ hf => ?_)
  · refine j_iload_n (pc := 9) 2 dX9_least_9 rfl rfl ?_
    refine j_i2l (pc := 10) dX9_least_10  ?_
    refine j_lconst (pc := 11) dX9_least_11 (v := 0) rfl ?_
    refine j_ldc2_w (pc := 12) dX9_least_12 (v := 9) w_c1023 ?_
    refine j_callSi (pc := 15) (d := d) (As := [.long (Int32.toInt64 x2), .long 0, .long 9]) (st := []) dX9_least_15 s982 rfl rfl (by decide) (Nat.le_of_ble_eq_true rfl) (fun q hq => t_X9_within  hq) hf (fun q2 hf => ?_)
    refine j_if_eq (pc := 18) (tgt := 33) dX9_least_18 (by decide) hf (fun _ hf => ?_) (fun _ hf => ?_)
    · refine j_bipush (pc := 33) dX9_least_33 (v := -2) (by decide) ?_
      exact j_iret (pc := 35) dX9_least_35 rfl hf
    · refine j_aload_n (pc := 21) 0 dX9_least_21 rfl rfl ?_
      refine j_bipush (pc := 22) dX9_least_22 (v := 28) (by decide) ?_
      refine j_iload_n (pc := 24) 1 dX9_least_24 rfl rfl ?_
      refine j_iadd (pc := 25) dX9_least_25  ?_
      refine j_iload_n (pc := 26) 2 dX9_least_26 rfl rfl ?_
      refine j_callVi (pc := 27) (d := d) (As := [.int (28 + x1), .int x2]) (st := []) dX9_least_27 s990 k0 (by decide) rfl rfl (by decide) (Nat.le_of_ble_eq_true rfl) (fun q hq => t_X9_tells k0 hq) hf (fun q3 hf => ?_)
      refine j_goto (pc := 30) (tgt := 35) dX9_least_30 (by decide) ?_
      exact j_iret (pc := 35) dX9_least_35 rfl hf
  · refine j_iconst (pc := 7) dX9_least_7 (v := -1) (by decide) ?_
    exact j_iret (pc := 8) dX9_least_8 rfl hf
def f_X9_price (a0 : Nat) (x1 : Int32) (x2 : Int32) (x3 : Int32) (h : Hp) : Option (Int64 × Hp) := (f_X9_isParty x1 h).bind (fun q1 => if q1.1 = 0 then (some ((-9223372036854775808), q1.2)) else ((f_X9_within (Int32.toInt64 x2) 1 60 q1.2).bind (fun q2 => if q2.1 = 0 then (some ((-9223372036854775808), q2.2)) else ((f_X9_isPart x3 q2.2).bind (fun q3 => if q3.1 = 0 then (some ((-9223372036854775808), q3.2)) else ((f_X9_wayNow a0 q3.2).bind (fun q4 => if q4.1 = 6 then (some ((-9223372036854775808), q4.2)) else ((f_X9_wayNow a0 q4.2).bind (fun q5 => (f_X9_above a0 q5.1 x2 q5.2).bind (fun q6 => if q6.1 = 0 then (some ((-9223372036854775808), q6.2)) else ((f_X9_wayNow a0 q6.2).bind (fun q7 => (f_X9_total a0 x1 q7.2).bind (fun q8 => (f_X9_top a0 q7.1 (Int32.toInt64 q8.1) x2 q8.2).bind (fun q9 => (f_X9_wayNow a0 q9.2).bind (fun q10 => (f_X9_above a0 q10.1 x2 q10.2).bind (fun q11 => (f_X9_lowest q9.1 (Int32.toInt64 q11.1) x3 q11.2).bind (fun q12 => some (q12.1, q12.2))))))))))))))))))
set_option maxHeartbeats 4000000 in
set_option maxRecDepth 100000 in
theorem t_X9_price {l : Launch} {D : va_G} {ad : Nat → Nat} {cA : Nat → ClassId} {d : Nat} (hdp : 2 ≤ d) {a0 : Nat} {x1 : Int32} {x2 : Int32} {x3 : Int32} (k0 : kd a0 = 9) {h : Hp} {o : Int64 × Hp} (hf : f_X9_price a0 x1 x2 x3 h = some o) : Cr l D ad cA d yX9_price cX9_price 4 (some .long) [.ref (ad a0), .int x1, .int x2, .int x3] h (some (.long o.1)) o.2 := by
  obtain ⟨d, rfl⟩ : ∃ e, d = e + 1 := ⟨d - 1, by omega⟩
  have hdp : 1 ≤ d := by omega
  unfold f_X9_price at hf
  refine Cr_of (by decide +kernel) rfl (Nat.le_of_ble_eq_true rfl) (lv0 := [(0, .ref (ad a0)), (1, .int x1), (2, .int x2), (3, .int x3)]) rfl ?_
  refine j_iload_n (pc := 0) 1 dX9_price_0 rfl rfl ?_
  refine j_callSi (pc := 1) (d := d) (As := [.int x1]) (st := []) dX9_price_1 s985 rfl rfl (by decide) (Nat.le_of_ble_eq_true rfl) (fun q hq => t_X9_isParty (by omega)  hq) hf (fun q1 hf => ?_)
  refine j_if_eq (pc := 4) (tgt := 47) dX9_price_4 (by decide) hf (fun _ hf => ?_) (fun _ hf => ?_)
  · refine j_ldc2_w (pc := 47) dX9_price_47 (v := -9223372036854775808) w_c1087 ?_
    exact j_lret (pc := 50) dX9_price_50 rfl hf
  · refine j_iload_n (pc := 7) 2 dX9_price_7 rfl rfl ?_
    refine j_i2l (pc := 8) dX9_price_8  ?_
    refine j_lconst (pc := 9) dX9_price_9 (v := 1) rfl ?_
    refine j_ldc2_w (pc := 10) dX9_price_10 (v := 60) w_c1075 ?_
    refine j_callSi (pc := 13) (d := d) (As := [.long (Int32.toInt64 x2), .long 1, .long 60]) (st := []) dX9_price_13 s982 rfl rfl (by decide) (Nat.le_of_ble_eq_true rfl) (fun q hq => t_X9_within  hq) hf (fun q2 hf => ?_)
    refine j_if_eq (pc := 16) (tgt := 47) dX9_price_16 (by decide) hf (fun _ hf => ?_) (fun _ hf => ?_)
    · refine j_ldc2_w (pc := 47) dX9_price_47 (v := -9223372036854775808) w_c1087 ?_
      exact j_lret (pc := 50) dX9_price_50 rfl hf
    · refine j_iload_n (pc := 19) 3 dX9_price_19 rfl rfl ?_
      refine j_callSi (pc := 20) (d := d) (As := [.int x3]) (st := []) dX9_price_20 s1076 rfl rfl (by decide) (Nat.le_of_ble_eq_true rfl) (fun q hq => t_X9_isPart  hq) hf (fun q3 hf => ?_)
      refine j_if_eq (pc := 23) (tgt := 47) dX9_price_23 (by decide) hf (fun _ hf => ?_) (fun _ hf => ?_)
      · refine j_ldc2_w (pc := 47) dX9_price_47 (v := -9223372036854775808) w_c1087 ?_
        exact j_lret (pc := 50) dX9_price_50 rfl hf
      · refine j_aload_n (pc := 26) 0 dX9_price_26 rfl rfl ?_
        refine j_callVi (pc := 27) (d := d) (As := []) (st := []) dX9_price_27 s1079 k0 (by decide) rfl rfl (by decide) (Nat.le_of_ble_eq_true rfl) (fun q hq => t_X9_wayNow k0 hq) hf (fun q4 hf => ?_)
        refine j_bipush (pc := 30) dX9_price_30 (v := 6) (by decide) ?_
        refine j_icmp_eq (pc := 32) (tgt := 47) dX9_price_32 (by decide) hf (fun _ hf => ?_) (fun _ hf => ?_)
        · refine j_ldc2_w (pc := 47) dX9_price_47 (v := -9223372036854775808) w_c1087 ?_
          exact j_lret (pc := 50) dX9_price_50 rfl hf
        · refine j_aload_n (pc := 35) 0 dX9_price_35 rfl rfl ?_
          refine j_aload_n (pc := 36) 0 dX9_price_36 rfl rfl ?_
          refine j_callVi (pc := 37) (d := d) (As := []) (st := [.ref (ad a0)]) dX9_price_37 s1079 k0 (by decide) rfl rfl (by decide) (Nat.le_of_ble_eq_true rfl) (fun q hq => t_X9_wayNow k0 hq) hf (fun q5 hf => ?_)
          refine j_iload_n (pc := 40) 2 dX9_price_40 rfl rfl ?_
          refine j_callVi (pc := 41) (d := d) (As := [.int q5.1, .int x2]) (st := []) dX9_price_41 s1083 k0 (by decide) rfl rfl (by decide) (Nat.le_of_ble_eq_true rfl) (fun q hq => t_X9_above k0 hq) hf (fun q6 hf => ?_)
          refine j_if_ne (pc := 44) (tgt := 51) dX9_price_44 (by decide) hf (fun _ hf => ?_) (fun _ hf => ?_)
          · refine j_aload_n (pc := 51) 0 dX9_price_51 rfl rfl ?_
            refine j_aload_n (pc := 52) 0 dX9_price_52 rfl rfl ?_
            refine j_callVi (pc := 53) (d := d) (As := []) (st := [.ref (ad a0)]) dX9_price_53 s1079 k0 (by decide) rfl rfl (by decide) (Nat.le_of_ble_eq_true rfl) (fun q hq => t_X9_wayNow k0 hq) hf (fun q7 hf => ?_)
            refine j_aload_n (pc := 56) 0 dX9_price_56 rfl rfl ?_
            refine j_iload_n (pc := 57) 1 dX9_price_57 rfl rfl ?_
            refine j_callVi (pc := 58) (d := d) (As := [.int x1]) (st := [.int q7.1, .ref (ad a0)]) dX9_price_58 s1010 k0 (by decide) rfl rfl (by decide) (Nat.le_of_ble_eq_true rfl) (fun q hq => t_X9_total (by omega) k0 hq) hf (fun q8 hf => ?_)
            refine j_i2l (pc := 61) dX9_price_61  ?_
            refine j_iload_n (pc := 62) 2 dX9_price_62 rfl rfl ?_
            refine j_callVl (pc := 63) (d := d) (As := [.int q7.1, .long (Int32.toInt64 q8.1), .int x2]) (st := []) dX9_price_63 s1088 k0 (by decide) rfl rfl (by decide) (Nat.le_of_ble_eq_true rfl) (fun q hq => t_X9_top (by omega) k0 hq) hf (fun q9 hf => ?_)
            refine j_aload_n (pc := 66) 0 dX9_price_66 rfl rfl ?_
            refine j_aload_n (pc := 67) 0 dX9_price_67 rfl rfl ?_
            refine j_callVi (pc := 68) (d := d) (As := []) (st := [.ref (ad a0), .long q9.1]) dX9_price_68 s1079 k0 (by decide) rfl rfl (by decide) (Nat.le_of_ble_eq_true rfl) (fun q hq => t_X9_wayNow k0 hq) hf (fun q10 hf => ?_)
            refine j_iload_n (pc := 71) 2 dX9_price_71 rfl rfl ?_
            refine j_callVi (pc := 72) (d := d) (As := [.int q10.1, .int x2]) (st := [.long q9.1]) dX9_price_72 s1083 k0 (by decide) rfl rfl (by decide) (Nat.le_of_ble_eq_true rfl) (fun q hq => t_X9_above k0 hq) hf (fun q11 hf => ?_)
            refine j_i2l (pc := 75) dX9_price_75  ?_
            refine j_iload_n (pc := 76) 3 dX9_price_76 rfl rfl ?_
            refine j_callSl (pc := 77) (d := d) (As := [.long q9.1, .long (Int32.toInt64 q11.1), .int x3]) (st := []) dX9_price_77 s1096 rfl rfl (by decide) (Nat.le_of_ble_eq_true rfl) (fun q hq => t_X9_lowest (by omega)  hq) hf (fun q12 hf => ?_)
            exact j_lret (pc := 80) dX9_price_80 rfl hf
          · refine j_ldc2_w (pc := 47) dX9_price_47 (v := -9223372036854775808) w_c1087 ?_
            exact j_lret (pc := 50) dX9_price_50 rfl hf
def f_X9_readsVotes_56  (a0 : Nat) (x1 : Int32) (x2 : Int32) (h : Hp) : Option (Int32 × Hp) := if (h.1 a0 7) = x1 then (some (((-100)) - (h.1 a0 7), h)) else (if x2 ≤ 100000 then (some (x2, h)) else (some (((-100)) - x1, h)))
set_option maxHeartbeats 4000000 in
set_option maxRecDepth 100000 in
theorem t_X9_readsVotes_56 {l : Launch} {D : va_G} {ad : Nat → Nat} {cA : Nat → ClassId} {d : Nat} (hdp : 1 ≤ d) {o : Int32 × Hp}  {a0 : Nat} {x1 : Int32} {x2 : Int32} (k0 : kd a0 = 9) {h : Hp} (hf : f_X9_readsVotes_56  a0 x1 x2 h = some o) : J l D ad cA (fun _ => True) (rmd (d + 1)) (0, 0) (mQ D ad cA (some (.int o.1)) o.2) cX9_readsVotes RX9 3 (some .int) 56 [(0, .ref (ad a0)), (1, .int x1), (2, .int x2)] [] h := by
  unfold f_X9_readsVotes_56 at hf
  refine j_aload_n (pc := 56) 0 dX9_readsVotes_56 rfl rfl ?_
  refine j_getI (pc := 57) dX9_readsVotes_57 fl853 k0 (by decide) rfl ?_
  refine j_iload_n (pc := 60) 1 dX9_readsVotes_60 rfl rfl ?_
  refine j_icmp_ne (pc := 61) (tgt := 72) dX9_readsVotes_61 (by decide) hf (fun _ hf => ?_) (fun _ hf => ?_)
  · refine j_iload_n (pc := 72) 2 dX9_readsVotes_72 rfl rfl ?_
    refine j_ldc (pc := 73) dX9_readsVotes_73 (v := 100000) w_c1070 ?_
    refine j_icmp_le (pc := 75) (tgt := 85) dX9_readsVotes_75 (by decide) hf (fun _ hf => ?_) (fun _ hf => ?_)
    · refine j_iload_n (pc := 85) 2 dX9_readsVotes_85 rfl rfl ?_
      exact j_iret (pc := 86) dX9_readsVotes_86 rfl hf
    · refine j_bipush (pc := 78) dX9_readsVotes_78 (v := -100) (by decide) ?_
      refine j_iload_n (pc := 80) 1 dX9_readsVotes_80 rfl rfl ?_
      refine j_isub (pc := 81) dX9_readsVotes_81  ?_
      refine j_goto (pc := 82) (tgt := 86) dX9_readsVotes_82 (by decide) ?_
      exact j_iret (pc := 86) dX9_readsVotes_86 rfl hf
  · refine j_bipush (pc := 64) dX9_readsVotes_64 (v := -100) (by decide) ?_
    refine j_aload_n (pc := 66) 0 dX9_readsVotes_66 rfl rfl ?_
    refine j_getI (pc := 67) dX9_readsVotes_67 fl853 k0 (by decide) rfl ?_
    refine j_isub (pc := 70) dX9_readsVotes_70  ?_
    exact j_iret (pc := 71) dX9_readsVotes_71 rfl hf
def f_X9_readsVotes_7 (k7 : Nat → Int32 → Int32 → Hp → Option (Int32 × Hp)) (a0 : Nat) (x1 : Int32) (x2 : Int32) (h : Hp) : Option (Int32 × Hp) := (f_X9_isFigure a0 h).bind (fun q2 => if q2.1 = 0 then (f_X9_readsVotes_56  a0 x1 x2 q2.2) else (if (x1 + 6) ≤ (q2.2.1 a0 7) then (f_X9_readsVotes_56  a0 x1 x2 q2.2) else (if ix (q2.2.1 a0 7) 120 = true then (lt (((10 * x2) + (q2.2.1 (a0 + 3) (Int32.toNatClampNeg (q2.2.1 a0 7)))) - 48) (fun v3 => lt (sI q2.2 a0 7 ((q2.2.1 a0 7) + 1)) (fun m4 => k7 a0 x1 v3 m4))) else none)))
set_option maxHeartbeats 4000000 in
set_option maxRecDepth 100000 in
theorem t_X9_readsVotes_7 {l : Launch} {D : va_G} {ad : Nat → Nat} {cA : Nat → ClassId} {d : Nat} (hdp : 1 ≤ d) {o : Int32 × Hp}  : ∀ (n : Nat) {a0 : Nat} {x1 : Int32} {x2 : Int32} (k0 : kd a0 = 9) {h : Hp}, lp (F := Nat → Int32 → Int32 → Hp → Option (Int32 × Hp)) (fun _ _ _ _ => none) (f_X9_readsVotes_7) n a0 x1 x2 h = some o → J l D ad cA (fun _ => True) (rmd (d + 1)) (0, 0) (mQ D ad cA (some (.int o.1)) o.2) cX9_readsVotes RX9 3 (some .int) 7 [(0, .ref (ad a0)), (1, .int x1), (2, .int x2)] [] h := by
  intro n
  induction n with
  | zero =>
    intro a0 x1 x2 k0 h hf
    have hf : (none : Option (Int32 × Hp)) = some o := hf
    cases hf
  | succ n hk7 =>
    intro a0 x1 x2 k0 h hf
    have hf : f_X9_readsVotes_7  (lp (F := Nat → Int32 → Int32 → Hp → Option (Int32 × Hp)) (fun _ _ _ _ => none) (f_X9_readsVotes_7) n) a0 x1 x2 h = some o := hf
    unfold f_X9_readsVotes_7 at hf
    refine j_aload_n (pc := 7) 0 dX9_readsVotes_7 rfl rfl ?_
    refine j_callVi (pc := 8) (d := d) (As := []) (st := []) dX9_readsVotes_8 s1064 k0 (by decide) rfl rfl (by decide) (Nat.le_of_ble_eq_true rfl) (fun q hq => t_X9_isFigure (by omega) k0 hq) hf (fun q2 hf => ?_)
    refine j_if_eq (pc := 11) (tgt := 56) dX9_readsVotes_11 (by decide) hf (fun _ hf => ?_) (fun _ hf => ?_)
    · refine j_sub [0, 1, 2] rfl ?_
      exact t_X9_readsVotes_56 hdp  k0 hf
    · refine j_aload_n (pc := 14) 0 dX9_readsVotes_14 rfl rfl ?_
      refine j_getI (pc := 15) dX9_readsVotes_15 fl853 k0 (by decide) rfl ?_
      refine j_iload_n (pc := 18) 1 dX9_readsVotes_18 rfl rfl ?_
      refine j_bipush (pc := 19) dX9_readsVotes_19 (v := 6) (by decide) ?_
      refine j_iadd (pc := 21) dX9_readsVotes_21  ?_
      refine j_icmp_ge (pc := 22) (tgt := 56) dX9_readsVotes_22 (by decide) hf (fun _ hf => ?_) (fun _ hf => ?_)
      · refine j_sub [0, 1, 2] rfl ?_
        exact t_X9_readsVotes_56 hdp  k0 hf
      · refine j_bipush (pc := 25) dX9_readsVotes_25 (v := 10) (by decide) ?_
        refine j_iload_n (pc := 27) 2 dX9_readsVotes_27 rfl rfl ?_
        refine j_imul (pc := 28) dX9_readsVotes_28  ?_
        refine j_aload_n (pc := 29) 0 dX9_readsVotes_29 rfl rfl ?_
        refine j_getR (pc := 30) (n := 3) dX9_readsVotes_30 fl851 k0 (by decide) rfl ?_
        refine j_aload_n (pc := 33) 0 dX9_readsVotes_33 rfl rfl ?_
        refine j_getI (pc := 34) dX9_readsVotes_34 fl853 k0 (by decide) rfl ?_
        refine j_iaload (pc := 37) dX9_readsVotes_37 (lk_9_5 k0) (ll_9_5 k0) hf (fun _ hf => ?_)
        refine j_iadd (pc := 38) dX9_readsVotes_38  ?_
        refine j_bipush (pc := 39) dX9_readsVotes_39 (v := 48) (by decide) ?_
        refine j_isub (pc := 41) dX9_readsVotes_41  ?_
        refine j_istore_nN (pc := 42) (lv' := fun v3 => [(2, .int v3), (0, .ref (ad a0)), (1, .int x1)]) dX9_readsVotes_42 rfl (by decide) (fun _ => rfl) hf (fun v3 hf => ?_)
        refine j_aload_n (pc := 43) 1 dX9_readsVotes_43 rfl rfl ?_
        refine j_dup (pc := 44) dX9_readsVotes_44 rfl ?_
        refine j_getI (pc := 45) dX9_readsVotes_45 fl853 k0 (by decide) rfl ?_
        refine j_iconst (pc := 48) dX9_readsVotes_48 (v := 1) (by decide) ?_
        refine j_iadd (pc := 49) dX9_readsVotes_49  ?_
        refine j_putI (pc := 50) dX9_readsVotes_50 fl853 fp9_7 k0 (by decide) rfl hf (fun m4 hf => ?_)
        refine j_goto (pc := 53) (tgt := 7) dX9_readsVotes_53 (by decide) ?_
        refine j_sub [1, 2, 0] rfl ?_
        exact hk7 k0 hf
def f_X9_readsVotes (a0 : Nat) (h : Hp) : Option (Int32 × Hp) := lt (h.1 a0 7) (fun v1 => lp (F := Nat → Int32 → Int32 → Hp → Option (Int32 × Hp)) (fun _ _ _ _ => none) (f_X9_readsVotes_7) 1000 a0 v1 0 h)
set_option maxHeartbeats 4000000 in
set_option maxRecDepth 100000 in
theorem t_X9_readsVotes {l : Launch} {D : va_G} {ad : Nat → Nat} {cA : Nat → ClassId} {d : Nat} (hdp : 2 ≤ d) {a0 : Nat} (k0 : kd a0 = 9) {h : Hp} {o : Int32 × Hp} (hf : f_X9_readsVotes a0 h = some o) : Cr l D ad cA d yX9_readsVotes cX9_readsVotes 3 (some .int) [.ref (ad a0)] h (some (.int o.1)) o.2 := by
  obtain ⟨d, rfl⟩ : ∃ e, d = e + 1 := ⟨d - 1, by omega⟩
  have hdp : 1 ≤ d := by omega
  unfold f_X9_readsVotes at hf
  refine Cr_of (by decide +kernel) rfl (Nat.le_of_ble_eq_true rfl) (lv0 := [(0, .ref (ad a0))]) rfl ?_
  refine j_aload_n (pc := 0) 0 dX9_readsVotes_0 rfl rfl ?_
  refine j_getI (pc := 1) dX9_readsVotes_1 fl853 k0 (by decide) rfl ?_
  refine j_istore_nN (pc := 4) (lv' := fun v1 => [(1, .int v1), (0, .ref (ad a0))]) dX9_readsVotes_4 rfl (by decide) (fun _ => rfl) hf (fun v1 hf => ?_)
  refine j_iconst (pc := 5) dX9_readsVotes_5 (v := 0) (by decide) ?_
  refine j_istore_n (pc := 6) (lv' := [(2, .int 0), (1, .int v1), (0, .ref (ad a0))]) dX9_readsVotes_6 rfl (by decide) rfl ?_
  refine j_sub [2, 1, 0] rfl ?_
  exact t_X9_readsVotes_7 hdp  1000 k0 hf
def f_X9_row_34 (k34 : Nat → Int32 → Int32 → Int32 → Hp → Option (Int32 × Hp)) (a0 : Nat) (x1 : Int32) (x2 : Int32) (x3 : Int32) (h : Hp) : Option (Int32 × Hp) := if x2 ≤ x3 then (some (1, h)) else (if ix ((40 * x1) + x3) 160 = true then (lt (sI h (a0 + 26) (Int32.toNatClampNeg ((40 * x1) + x3)) 0) (fun m3 => lt (x3 + 1) (fun v4 => k34 a0 x1 x2 v4 m3))) else none)
set_option maxHeartbeats 4000000 in
set_option maxRecDepth 100000 in
theorem t_X9_row_34 {l : Launch} {D : va_G} {ad : Nat → Nat} {cA : Nat → ClassId} {d : Nat} (hdp : 1 ≤ d) {o : Int32 × Hp}  : ∀ (n : Nat) {a0 : Nat} {x1 : Int32} {x2 : Int32} {x3 : Int32} (k0 : kd a0 = 9) {h : Hp}, lp (F := Nat → Int32 → Int32 → Int32 → Hp → Option (Int32 × Hp)) (fun _ _ _ _ _ => none) (f_X9_row_34) n a0 x1 x2 x3 h = some o → J l D ad cA (fun _ => True) (rmd (d + 1)) (0, 0) (mQ D ad cA (some (.int o.1)) o.2) cX9_row RX9 4 (some .int) 34 [(0, .ref (ad a0)), (1, .int x1), (2, .int x2), (3, .int x3)] [] h := by
  intro n
  induction n with
  | zero =>
    intro a0 x1 x2 x3 k0 h hf
    have hf : (none : Option (Int32 × Hp)) = some o := hf
    cases hf
  | succ n hk34 =>
    intro a0 x1 x2 x3 k0 h hf
    have hf : f_X9_row_34  (lp (F := Nat → Int32 → Int32 → Int32 → Hp → Option (Int32 × Hp)) (fun _ _ _ _ _ => none) (f_X9_row_34) n) a0 x1 x2 x3 h = some o := hf
    unfold f_X9_row_34 at hf
    refine j_iload_n (pc := 34) 3 dX9_row_34 rfl rfl ?_
    refine j_iload_n (pc := 35) 2 dX9_row_35 rfl rfl ?_
    refine j_icmp_ge (pc := 36) (tgt := 57) dX9_row_36 (by decide) hf (fun _ hf => ?_) (fun _ hf => ?_)
    · refine j_iconst (pc := 57) dX9_row_57 (v := 1) (by decide) ?_
      exact j_iret (pc := 58) dX9_row_58 rfl hf
    · refine j_aload_n (pc := 39) 0 dX9_row_39 rfl rfl ?_
      refine j_getR (pc := 40) (n := 26) dX9_row_40 fl885 k0 (by decide) rfl ?_
      refine j_bipush (pc := 43) dX9_row_43 (v := 40) (by decide) ?_
      refine j_iload_n (pc := 45) 1 dX9_row_45 rfl rfl ?_
      refine j_imul (pc := 46) dX9_row_46  ?_
      refine j_iload_n (pc := 47) 3 dX9_row_47 rfl rfl ?_
      refine j_iadd (pc := 48) dX9_row_48  ?_
      refine j_iconst (pc := 49) dX9_row_49 (v := 0) (by decide) ?_
      refine j_iastore (pc := 50) dX9_row_50 (lk_9_39 k0) (ll_9_39 k0) hf (fun m3 hf => ?_)
      refine j_iinc (pc := 51) 3 (c := 1) (lv' := fun v4 => [(3, .int v4), (0, .ref (ad a0)), (1, .int x1), (2, .int x2)]) dX9_row_51 rfl (by decide) (by decide) (fun _ => rfl) hf (fun v4 hf => ?_)
      refine j_goto (pc := 54) (tgt := 34) dX9_row_54 (by decide) ?_
      refine j_sub [1, 2, 3, 0] rfl ?_
      exact hk34 k0 hf
def f_X9_row (a0 : Nat) (x1 : Int32) (x2 : Int32) (h : Hp) : Option (Int32 × Hp) := (f_X9_isRow x1 h).bind (fun q1 => if q1.1 = 0 then (some ((-1), q1.2)) else (if x2 ≤ 40 then (if 0 ≤ x2 then (if ix x1 4 = true then (lt (sI q1.2 (a0 + 27) (Int32.toNatClampNeg x1) x2) (fun m2 => lp (F := Nat → Int32 → Int32 → Int32 → Hp → Option (Int32 × Hp)) (fun _ _ _ _ _ => none) (f_X9_row_34) 1000 a0 x1 x2 0 m2)) else none) else (some ((-14), q1.2))) else (some ((-2), q1.2))))
set_option maxHeartbeats 4000000 in
set_option maxRecDepth 100000 in
theorem t_X9_row {l : Launch} {D : va_G} {ad : Nat → Nat} {cA : Nat → ClassId} {d : Nat} (hdp : 2 ≤ d) {a0 : Nat} {x1 : Int32} {x2 : Int32} (k0 : kd a0 = 9) {h : Hp} {o : Int32 × Hp} (hf : f_X9_row a0 x1 x2 h = some o) : Cr l D ad cA d yX9_row cX9_row 4 (some .int) [.ref (ad a0), .int x1, .int x2] h (some (.int o.1)) o.2 := by
  obtain ⟨d, rfl⟩ : ∃ e, d = e + 1 := ⟨d - 1, by omega⟩
  have hdp : 1 ≤ d := by omega
  unfold f_X9_row at hf
  refine Cr_of (by decide +kernel) rfl (Nat.le_of_ble_eq_true rfl) (lv0 := [(0, .ref (ad a0)), (1, .int x1), (2, .int x2)]) rfl ?_
  refine j_iload_n (pc := 0) 1 dX9_row_0 rfl rfl ?_
  refine j_callSi (pc := 1) (d := d) (As := [.int x1]) (st := []) dX9_row_1 s1337 rfl rfl (by decide) (Nat.le_of_ble_eq_true rfl) (fun q hq => t_X9_isRow (by omega)  hq) hf (fun q1 hf => ?_)
  refine j_if_ne (pc := 4) (tgt := 9) dX9_row_4 (by decide) hf (fun _ hf => ?_) (fun _ hf => ?_)
  · refine j_iload_n (pc := 9) 2 dX9_row_9 rfl rfl ?_
    refine j_bipush (pc := 10) dX9_row_10 (v := 40) (by decide) ?_
    refine j_icmp_le (pc := 12) (tgt := 18) dX9_row_12 (by decide) hf (fun _ hf => ?_) (fun _ hf => ?_)
    · refine j_iload_n (pc := 18) 2 dX9_row_18 rfl rfl ?_
      refine j_if_ge (pc := 19) (tgt := 25) dX9_row_19 (by decide) hf (fun _ hf => ?_) (fun _ hf => ?_)
      · refine j_aload_n (pc := 25) 0 dX9_row_25 rfl rfl ?_
        refine j_getR (pc := 26) (n := 27) dX9_row_26 fl886 k0 (by decide) rfl ?_
        refine j_iload_n (pc := 29) 1 dX9_row_29 rfl rfl ?_
        refine j_iload_n (pc := 30) 2 dX9_row_30 rfl rfl ?_
        refine j_iastore (pc := 31) dX9_row_31 (lk_9_40 k0) (ll_9_40 k0) hf (fun m2 hf => ?_)
        refine j_iconst (pc := 32) dX9_row_32 (v := 0) (by decide) ?_
        refine j_istore_n (pc := 33) (lv' := [(3, .int 0), (0, .ref (ad a0)), (1, .int x1), (2, .int x2)]) dX9_row_33 rfl (by decide) rfl ?_
        refine j_sub [1, 2, 3, 0] rfl ?_
        exact t_X9_row_34 hdp  1000 k0 hf
      · refine j_bipush (pc := 22) dX9_row_22 (v := -14) (by decide) ?_
        exact j_iret (pc := 24) dX9_row_24 rfl hf
    · refine j_bipush (pc := 15) dX9_row_15 (v := -2) (by decide) ?_
      exact j_iret (pc := 17) dX9_row_17 rfl hf
  · refine j_iconst (pc := 7) dX9_row_7 (v := -1) (by decide) ?_
    exact j_iret (pc := 8) dX9_row_8 rfl hf
def f_X9_seats (a0 : Nat) (x1 : Int32) (x2 : Int32) (h : Hp) : Option (Int32 × Hp) := (f_X9_isWard x1 h).bind (fun q1 => if q1.1 = 0 then (some ((-1), q1.2)) else ((f_X9_within (Int32.toInt64 x2) 0 30 q1.2).bind (fun q2 => if q2.1 = 0 then (some ((-2), q2.2)) else ((f_X9_tells a0 (24 + x1) x2 q2.2).bind (fun q3 => some (q3.1, q3.2))))))
set_option maxHeartbeats 4000000 in
set_option maxRecDepth 100000 in
theorem t_X9_seats {l : Launch} {D : va_G} {ad : Nat → Nat} {cA : Nat → ClassId} {d : Nat} (hdp : 2 ≤ d) {a0 : Nat} {x1 : Int32} {x2 : Int32} (k0 : kd a0 = 9) {h : Hp} {o : Int32 × Hp} (hf : f_X9_seats a0 x1 x2 h = some o) : Cr l D ad cA d yX9_seats cX9_seats 3 (some .int) [.ref (ad a0), .int x1, .int x2] h (some (.int o.1)) o.2 := by
  obtain ⟨d, rfl⟩ : ∃ e, d = e + 1 := ⟨d - 1, by omega⟩
  have hdp : 1 ≤ d := by omega
  unfold f_X9_seats at hf
  refine Cr_of (by decide +kernel) rfl (Nat.le_of_ble_eq_true rfl) (lv0 := [(0, .ref (ad a0)), (1, .int x1), (2, .int x2)]) rfl ?_
  refine j_iload_n (pc := 0) 1 dX9_seats_0 rfl rfl ?_
  refine j_callSi (pc := 1) (d := d) (As := [.int x1]) (st := []) dX9_seats_1 s978 rfl rfl (by decide) (Nat.le_of_ble_eq_true rfl) (fun q hq => t_X9_isWard (by omega)  hq) hf (fun q1 hf => ?_)
  refine j_if_ne (pc := 4) (tgt := 9) dX9_seats_4 (by decide) hf (fun _ hf => ?_) (fun _ hf => ?_)
  · refine j_iload_n (pc := 9) 2 dX9_seats_9 rfl rfl ?_
    refine j_i2l (pc := 10) dX9_seats_10  ?_
    refine j_lconst (pc := 11) dX9_seats_11 (v := 0) rfl ?_
    refine j_ldc2_w (pc := 12) dX9_seats_12 (v := 30) w_c1018 ?_
    refine j_callSi (pc := 15) (d := d) (As := [.long (Int32.toInt64 x2), .long 0, .long 30]) (st := []) dX9_seats_15 s982 rfl rfl (by decide) (Nat.le_of_ble_eq_true rfl) (fun q hq => t_X9_within  hq) hf (fun q2 hf => ?_)
    refine j_if_eq (pc := 18) (tgt := 33) dX9_seats_18 (by decide) hf (fun _ hf => ?_) (fun _ hf => ?_)
    · refine j_bipush (pc := 33) dX9_seats_33 (v := -2) (by decide) ?_
      exact j_iret (pc := 35) dX9_seats_35 rfl hf
    · refine j_aload_n (pc := 21) 0 dX9_seats_21 rfl rfl ?_
      refine j_bipush (pc := 22) dX9_seats_22 (v := 24) (by decide) ?_
      refine j_iload_n (pc := 24) 1 dX9_seats_24 rfl rfl ?_
      refine j_iadd (pc := 25) dX9_seats_25  ?_
      refine j_iload_n (pc := 26) 2 dX9_seats_26 rfl rfl ?_
      refine j_callVi (pc := 27) (d := d) (As := [.int (24 + x1), .int x2]) (st := []) dX9_seats_27 s990 k0 (by decide) rfl rfl (by decide) (Nat.le_of_ble_eq_true rfl) (fun q hq => t_X9_tells k0 hq) hf (fun q3 hf => ?_)
      refine j_goto (pc := 30) (tgt := 35) dX9_seats_30 (by decide) ?_
      exact j_iret (pc := 35) dX9_seats_35 rfl hf
  · refine j_iconst (pc := 7) dX9_seats_7 (v := -1) (by decide) ?_
    exact j_iret (pc := 8) dX9_seats_8 rfl hf
def f_X9_set (a0 : Nat) (x1 : Int32) (x2 : Int32) (x3 : Int32) (h : Hp) : Option (Int32 × Hp) := (f_X9_isRow x1 h).bind (fun q1 => if q1.1 = 0 then (some ((-1), q1.2)) else (if ix x1 4 = true then (if (q1.2.1 (a0 + 27) (Int32.toNatClampNeg x1)) = ((-1)) then (some ((-11), q1.2)) else (if ix x1 4 = true then ((f_X9_within (Int32.toInt64 x2) 0 (Int32.toInt64 ((q1.2.1 (a0 + 27) (Int32.toNatClampNeg x1)) - 1)) q1.2).bind (fun q2 => if q2.1 = 0 then (some ((-13), q2.2)) else (if ix ((40 * x1) + x2) 160 = true then (lt (sI q2.2 (a0 + 26) (Int32.toNatClampNeg ((40 * x1) + x2)) x3) (fun m3 => some (1, m3))) else none))) else none)) else none))
set_option maxHeartbeats 4000000 in
set_option maxRecDepth 100000 in
theorem t_X9_set {l : Launch} {D : va_G} {ad : Nat → Nat} {cA : Nat → ClassId} {d : Nat} (hdp : 2 ≤ d) {a0 : Nat} {x1 : Int32} {x2 : Int32} {x3 : Int32} (k0 : kd a0 = 9) {h : Hp} {o : Int32 × Hp} (hf : f_X9_set a0 x1 x2 x3 h = some o) : Cr l D ad cA d yX9_set cX9_set 4 (some .int) [.ref (ad a0), .int x1, .int x2, .int x3] h (some (.int o.1)) o.2 := by
  obtain ⟨d, rfl⟩ : ∃ e, d = e + 1 := ⟨d - 1, by omega⟩
  have hdp : 1 ≤ d := by omega
  unfold f_X9_set at hf
  refine Cr_of (by decide +kernel) rfl (Nat.le_of_ble_eq_true rfl) (lv0 := [(0, .ref (ad a0)), (1, .int x1), (2, .int x2), (3, .int x3)]) rfl ?_
  refine j_iload_n (pc := 0) 1 dX9_set_0 rfl rfl ?_
  refine j_callSi (pc := 1) (d := d) (As := [.int x1]) (st := []) dX9_set_1 s1337 rfl rfl (by decide) (Nat.le_of_ble_eq_true rfl) (fun q hq => t_X9_isRow (by omega)  hq) hf (fun q1 hf => ?_)
  refine j_if_ne (pc := 4) (tgt := 9) dX9_set_4 (by decide) hf (fun _ hf => ?_) (fun _ hf => ?_)
  · refine j_aload_n (pc := 9) 0 dX9_set_9 rfl rfl ?_
    refine j_getR (pc := 10) (n := 27) dX9_set_10 fl886 k0 (by decide) rfl ?_
    refine j_iload_n (pc := 13) 1 dX9_set_13 rfl rfl ?_
    refine j_iaload (pc := 14) dX9_set_14 (lk_9_40 k0) (ll_9_40 k0) hf (fun _ hf => ?_)
    refine j_iconst (pc := 15) dX9_set_15 (v := -1) (by decide) ?_
    refine j_icmp_ne (pc := 16) (tgt := 22) dX9_set_16 (by decide) hf (fun _ hf => ?_) (fun _ hf => ?_)
    · refine j_iload_n (pc := 22) 2 dX9_set_22 rfl rfl ?_
      refine j_i2l (pc := 23) dX9_set_23  ?_
      refine j_lconst (pc := 24) dX9_set_24 (v := 0) rfl ?_
      refine j_aload_n (pc := 25) 0 dX9_set_25 rfl rfl ?_
      refine j_getR (pc := 26) (n := 27) dX9_set_26 fl886 k0 (by decide) rfl ?_
      refine j_iload_n (pc := 29) 1 dX9_set_29 rfl rfl ?_
      refine j_iaload (pc := 30) dX9_set_30 (lk_9_40 k0) (ll_9_40 k0) hf (fun _ hf => ?_)
      refine j_iconst (pc := 31) dX9_set_31 (v := 1) (by decide) ?_
      refine j_isub (pc := 32) dX9_set_32  ?_
      refine j_i2l (pc := 33) dX9_set_33  ?_
      refine j_callSi (pc := 34) (d := d) (As := [.long (Int32.toInt64 x2), .long 0, .long (Int32.toInt64 ((q1.2.1 (a0 + 27) (Int32.toNatClampNeg x1)) - 1))]) (st := []) dX9_set_34 s982 rfl rfl (by decide) (Nat.le_of_ble_eq_true rfl) (fun q hq => t_X9_within  hq) hf (fun q2 hf => ?_)
      refine j_if_ne (pc := 37) (tgt := 43) dX9_set_37 (by decide) hf (fun _ hf => ?_) (fun _ hf => ?_)
      · refine j_aload_n (pc := 43) 0 dX9_set_43 rfl rfl ?_
        refine j_getR (pc := 44) (n := 26) dX9_set_44 fl885 k0 (by decide) rfl ?_
        refine j_bipush (pc := 47) dX9_set_47 (v := 40) (by decide) ?_
        refine j_iload_n (pc := 49) 1 dX9_set_49 rfl rfl ?_
        refine j_imul (pc := 50) dX9_set_50  ?_
        refine j_iload_n (pc := 51) 2 dX9_set_51 rfl rfl ?_
        refine j_iadd (pc := 52) dX9_set_52  ?_
        refine j_iload_n (pc := 53) 3 dX9_set_53 rfl rfl ?_
        refine j_iastore (pc := 54) dX9_set_54 (lk_9_39 k0) (ll_9_39 k0) hf (fun m3 hf => ?_)
        refine j_iconst (pc := 55) dX9_set_55 (v := 1) (by decide) ?_
        exact j_iret (pc := 56) dX9_set_56 rfl hf
      · refine j_bipush (pc := 40) dX9_set_40 (v := -13) (by decide) ?_
        exact j_iret (pc := 42) dX9_set_42 rfl hf
    · refine j_bipush (pc := 19) dX9_set_19 (v := -11) (by decide) ?_
      exact j_iret (pc := 21) dX9_set_21 rfl hf
  · refine j_iconst (pc := 7) dX9_set_7 (v := -1) (by decide) ?_
    exact j_iret (pc := 8) dX9_set_8 rfl hf
