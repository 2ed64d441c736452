def f_X9_undo (a0 : Nat) (h : Hp) : Option (Int32 × Hp) := if (h.1 a0 2) = 0 then (some ((-3), h)) else (lt (rI h (a0 + 1) (va_cpy (h.1 (a0 + 2)) (h.1 (a0 + 1)) (Int32.toNatClampNeg 0) (Int32.toNatClampNeg 0) (Int32.toNatClampNeg 44))) (fun m1 => lt (sI m1 a0 3 0) (fun m2 => (f_X9_all a0 m2).bind (fun q3 => some (q3.1, q3.2)))))
set_option maxHeartbeats 4000000 in
set_option maxRecDepth 100000 in
theorem t_X9_undo {l : Launch} {D : va_G} {ad : Nat → Nat} {cA : Nat → ClassId} {d : Nat} (hdp : 3 ≤ d) {a0 : Nat} (k0 : kd a0 = 9) {h : Hp} {o : Int32 × Hp} (hf : f_X9_undo a0 h = some o) : Cr l D ad cA d yX9_undo cX9_undo 1 (some .int) [.ref (ad a0)] h (some (.int o.1)) o.2 := by
  obtain ⟨d, rfl⟩ : ∃ e, d = e + 1 := ⟨d - 1, by omega⟩
  have hdp : 2 ≤ d := by omega
  unfold f_X9_undo at hf
  refine Cr_of (by decide +kernel) rfl (Nat.le_of_ble_eq_true rfl) (lv0 := [(0, .ref (ad a0))]) rfl ?_
  refine j_aload_n (pc := 0) 0 dX9_undo_0 rfl rfl ?_
  refine j_getI (pc := 1) dX9_undo_1 fl848 k0 (by decide) rfl ?_
  refine j_if_ne (pc := 4) (tgt := 10) dX9_undo_4 (by decide) hf (fun _ hf => ?_) (fun _ hf => ?_)
  · refine j_aload_n (pc := 10) 0 dX9_undo_10 rfl rfl ?_
    refine j_getR (pc := 11) (n := 2) dX9_undo_11 fl847 k0 (by decide) rfl ?_
    refine j_iconst (pc := 14) dX9_undo_14 (v := 0) (by decide) ?_
    refine j_aload_n (pc := 15) 0 dX9_undo_15 rfl rfl ?_
    refine j_getR (pc := 16) (n := 1) dX9_undo_16 fl846 k0 (by decide) rfl ?_
    refine j_iconst (pc := 19) dX9_undo_19 (v := 0) (by decide) ?_
    refine j_bipush (pc := 20) dX9_undo_20 (v := 44) (by decide) ?_
    refine j_copy (pc := 22) dX9_undo_22 w_1390 w_nat w_st w_in (lk_9_1 k0) (lk_9_0 k0) (ll_9_1 k0) (ll_9_0 k0) (by decide) (by decide) (by decide) (by decide) (by decide) (Nat.le_of_ble_eq_true rfl) hf (fun m1 hf => ?_)
    refine j_aload_n (pc := 25) 0 dX9_undo_25 rfl rfl ?_
    refine j_iconst (pc := 26) dX9_undo_26 (v := 0) (by decide) ?_
    refine j_putZ (pc := 27) dX9_undo_27 fl849 fp9_3 k0 (by decide) rfl (by decide) hf (fun m2 hf => ?_)
    refine j_aload_n (pc := 30) 0 dX9_undo_30 rfl rfl ?_
    refine j_callVi (pc := 31) (d := d) (As := []) (st := []) dX9_undo_31 s998 k0 (by decide) rfl rfl (by decide) (Nat.le_of_ble_eq_true rfl) (fun q hq => t_X9_all (by omega) k0 hq) hf (fun q3 hf => ?_)
    exact j_iret (pc := 34) dX9_undo_34 rfl hf
  · refine j_bipush (pc := 7) dX9_undo_7 (v := -3) (by decide) ?_
    exact j_iret (pc := 9) dX9_undo_9 rfl hf
def f_X9_votes_26  (a0 : Nat) (x1 : Int32) (x2 : Int32) (h : Hp) : Option (Int32 × Hp) := if x1 = ((-1)) then (if x2 = ((-1)) then ((f_X9_all a0 h).bind (fun q6 => some (q6.1, q6.2))) else ((f_X9_total a0 x2 h).bind (fun q5 => some (q5.1, q5.2)))) else (if x2 = ((-1)) then ((f_X9_ofWard a0 x1 h).bind (fun q4 => some (q4.1, q4.2))) else ((f_X9_votesOf a0 x1 x2 h).bind (fun q3 => some (q3.1, q3.2))))
set_option maxHeartbeats 4000000 in
set_option maxRecDepth 100000 in
theorem t_X9_votes_26 {l : Launch} {D : va_G} {ad : Nat → Nat} {cA : Nat → ClassId} {d : Nat} (hdp : 2 ≤ d) {o : Int32 × Hp}  {a0 : Nat} {x1 : Int32} {x2 : Int32} (k0 : kd a0 = 9) {h : Hp} (hf : f_X9_votes_26  a0 x1 x2 h = some o) : J l D ad cA (fun _ => True) (rmd (d + 1)) (0, 0) (mQ D ad cA (some (.int o.1)) o.2) cX9_votes RX9 3 (some .int) 26 [(0, .ref (ad a0)), (1, .int x1), (2, .int x2)] [] h := by
  unfold f_X9_votes_26 at hf
  refine j_iload_n (pc := 26) 1 dX9_votes_26 rfl rfl ?_
  refine j_iconst (pc := 27) dX9_votes_27 (v := -1) (by decide) ?_
  refine j_icmp_ne (pc := 28) (tgt := 49) dX9_votes_28 (by decide) hf (fun _ hf => ?_) (fun _ hf => ?_)
  · refine j_iload_n (pc := 49) 2 dX9_votes_49 rfl rfl ?_
    refine j_iconst (pc := 50) dX9_votes_50 (v := -1) (by decide) ?_
    refine j_icmp_ne (pc := 51) (tgt := 62) dX9_votes_51 (by decide) hf (fun _ hf => ?_) (fun _ hf => ?_)
    · refine j_aload_n (pc := 62) 0 dX9_votes_62 rfl rfl ?_
      refine j_iload_n (pc := 63) 1 dX9_votes_63 rfl rfl ?_
      refine j_iload_n (pc := 64) 2 dX9_votes_64 rfl rfl ?_
      refine j_callVi (pc := 65) (d := d) (As := [.int x1, .int x2]) (st := []) dX9_votes_65 s1006 k0 (by decide) rfl rfl (by decide) (Nat.le_of_ble_eq_true rfl) (fun q hq => t_X9_votesOf k0 hq) hf (fun q3 hf => ?_)
      exact j_iret (pc := 68) dX9_votes_68 rfl hf
    · refine j_aload_n (pc := 54) 0 dX9_votes_54 rfl rfl ?_
      refine j_iload_n (pc := 55) 1 dX9_votes_55 rfl rfl ?_
      refine j_callVi (pc := 56) (d := d) (As := [.int x1]) (st := []) dX9_votes_56 s1002 k0 (by decide) rfl rfl (by decide) (Nat.le_of_ble_eq_true rfl) (fun q hq => t_X9_ofWard (by omega) k0 hq) hf (fun q4 hf => ?_)
      refine j_goto (pc := 59) (tgt := 68) dX9_votes_59 (by decide) ?_
      exact j_iret (pc := 68) dX9_votes_68 rfl hf
  · refine j_iload_n (pc := 31) 2 dX9_votes_31 rfl rfl ?_
    refine j_iconst (pc := 32) dX9_votes_32 (v := -1) (by decide) ?_
    refine j_icmp_ne (pc := 33) (tgt := 43) dX9_votes_33 (by decide) hf (fun _ hf => ?_) (fun _ hf => ?_)
    · refine j_aload_n (pc := 43) 0 dX9_votes_43 rfl rfl ?_
      refine j_iload_n (pc := 44) 2 dX9_votes_44 rfl rfl ?_
      refine j_callVi (pc := 45) (d := d) (As := [.int x2]) (st := []) dX9_votes_45 s1010 k0 (by decide) rfl rfl (by decide) (Nat.le_of_ble_eq_true rfl) (fun q hq => t_X9_total (by omega) k0 hq) hf (fun q5 hf => ?_)
      exact j_iret (pc := 48) dX9_votes_48 rfl hf
    · refine j_aload_n (pc := 36) 0 dX9_votes_36 rfl rfl ?_
      refine j_callVi (pc := 37) (d := d) (As := []) (st := []) dX9_votes_37 s998 k0 (by decide) rfl rfl (by decide) (Nat.le_of_ble_eq_true rfl) (fun q hq => t_X9_all (by omega) k0 hq) hf (fun q6 hf => ?_)
      refine j_goto (pc := 40) (tgt := 48) dX9_votes_40 (by decide) ?_
      exact j_iret (pc := 48) dX9_votes_48 rfl hf
def f_X9_votes_12  (a0 : Nat) (x1 : Int32) (x2 : Int32) (h : Hp) : Option (Int32 × Hp) := if x2 = ((-1)) then (f_X9_votes_26  a0 x1 x2 h) else ((f_X9_isParty x2 h).bind (fun q2 => if q2.1 = 0 then (some ((-1), q2.2)) else (f_X9_votes_26  a0 x1 x2 q2.2)))
set_option maxHeartbeats 4000000 in
set_option maxRecDepth 100000 in
theorem t_X9_votes_12 {l : Launch} {D : va_G} {ad : Nat → Nat} {cA : Nat → ClassId} {d : Nat} (hdp : 2 ≤ d) {o : Int32 × Hp}  {a0 : Nat} {x1 : Int32} {x2 : Int32} (k0 : kd a0 = 9) {h : Hp} (hf : f_X9_votes_12  a0 x1 x2 h = some o) : J l D ad cA (fun _ => True) (rmd (d + 1)) (0, 0) (mQ D ad cA (some (.int o.1)) o.2) cX9_votes RX9 3 (some .int) 12 [(0, .ref (ad a0)), (1, .int x1), (2, .int x2)] [] h := by
  unfold f_X9_votes_12 at hf
  refine j_iload_n (pc := 12) 2 dX9_votes_12 rfl rfl ?_
  refine j_iconst (pc := 13) dX9_votes_13 (v := -1) (by decide) ?_
  refine j_icmp_eq (pc := 14) (tgt := 26) dX9_votes_14 (by decide) hf (fun _ hf => ?_) (fun _ hf => ?_)
  · refine j_sub [0, 1, 2] rfl ?_
    exact t_X9_votes_26 hdp  k0 hf
  · refine j_iload_n (pc := 17) 2 dX9_votes_17 rfl rfl ?_
    refine j_callSi (pc := 18) (d := d) (As := [.int x2]) (st := []) dX9_votes_18 s985 rfl rfl (by decide) (Nat.le_of_ble_eq_true rfl) (fun q hq => t_X9_isParty (by omega)  hq) hf (fun q2 hf => ?_)
    refine j_if_ne (pc := 21) (tgt := 26) dX9_votes_21 (by decide) hf (fun _ hf => ?_) (fun _ hf => ?_)
    · refine j_sub [0, 1, 2] rfl ?_
      exact t_X9_votes_26 hdp  k0 hf
    · refine j_iconst (pc := 24) dX9_votes_24 (v := -1) (by decide) ?_
      exact j_iret (pc := 25) dX9_votes_25 rfl hf
def f_X9_votes (a0 : Nat) (x1 : Int32) (x2 : Int32) (h : Hp) : Option (Int32 × Hp) := if x1 = ((-1)) then (f_X9_votes_12  a0 x1 x2 h) else ((f_X9_isWard x1 h).bind (fun q1 => if q1.1 = 0 then (some ((-1), q1.2)) else (f_X9_votes_12  a0 x1 x2 q1.2)))
set_option maxHeartbeats 4000000 in
set_option maxRecDepth 100000 in
theorem t_X9_votes {l : Launch} {D : va_G} {ad : Nat → Nat} {cA : Nat → ClassId} {d : Nat} (hdp : 3 ≤ d) {a0 : Nat} {x1 : Int32} {x2 : Int32} (k0 : kd a0 = 9) {h : Hp} {o : Int32 × Hp} (hf : f_X9_votes a0 x1 x2 h = some o) : Cr l D ad cA d yX9_votes cX9_votes 3 (some .int) [.ref (ad a0), .int x1, .int x2] h (some (.int o.1)) o.2 := by
  obtain ⟨d, rfl⟩ : ∃ e, d = e + 1 := ⟨d - 1, by omega⟩
  have hdp : 2 ≤ d := by omega
  unfold f_X9_votes at hf
  refine Cr_of (by decide +kernel) rfl (Nat.le_of_ble_eq_true rfl) (lv0 := [(0, .ref (ad a0)), (1, .int x1), (2, .int x2)]) rfl ?_
  refine j_iload_n (pc := 0) 1 dX9_votes_0 rfl rfl ?_
  refine j_iconst (pc := 1) dX9_votes_1 (v := -1) (by decide) ?_
  refine j_icmp_eq (pc := 2) (tgt := 12) dX9_votes_2 (by decide) hf (fun _ hf => ?_) (fun _ hf => ?_)
  · refine j_sub [0, 1, 2] rfl ?_
    exact t_X9_votes_12 hdp  k0 hf
  · refine j_iload_n (pc := 5) 1 dX9_votes_5 rfl rfl ?_
    refine j_callSi (pc := 6) (d := d) (As := [.int x1]) (st := []) dX9_votes_6 s978 rfl rfl (by decide) (Nat.le_of_ble_eq_true rfl) (fun q hq => t_X9_isWard (by omega)  hq) hf (fun q1 hf => ?_)
    refine j_if_eq (pc := 9) (tgt := 24) dX9_votes_9 (by decide) hf (fun _ hf => ?_) (fun _ hf => ?_)
    · refine j_iconst (pc := 24) dX9_votes_24 (v := -1) (by decide) ?_
      exact j_iret (pc := 25) dX9_votes_25 rfl hf
    · refine j_sub [0, 1, 2] rfl ?_
      exact t_X9_votes_12 hdp  k0 hf
def f_X0_give (a0 : Nat) (a1 : Nat) (x2 : Int32) (x3 : Int32) (h : Hp) : Option (Int32 × Hp) := if (h.1 a0 4) = 0 then (if x3 = 0 then (if isB 1 = true then some (1, h) else none) else (if isB 0 = true then some (0, h) else none)) else (if x2 = 6 then ((f_X0_giveByRests a0 x3 h).bind (fun q2 => if isB q2.1 = true then some (q2.1, q2.2) else none)) else ((f_X0_giveByPrices a0 a1 x2 x3 h).bind (fun q1 => if isB q1.1 = true then some (q1.1, q1.2) else none)))
set_option maxHeartbeats 4000000 in
set_option maxRecDepth 100000 in
theorem t_X0_give {l : Launch} {D : va_G} {ad : Nat → Nat} {cA : Nat → ClassId} {d : Nat} (hdp : 4 ≤ d) {a0 : Nat} {a1 : Nat} {x2 : Int32} {x3 : Int32} (k0 : kd a0 = 0) (k1 : kd a1 = 3) {h : Hp} {o : Int32 × Hp} (hf : f_X0_give a0 a1 x2 x3 h = some o) : Cr l D ad cA d yX0_give cX0_give 4 (some .boolean) [.ref (ad a0), .ref (ad a1), .int x2, .int x3] h (some (.int o.1)) o.2 := by
  obtain ⟨d, rfl⟩ : ∃ e, d = e + 1 := ⟨d - 1, by omega⟩
  have hdp : 3 ≤ d := by omega
  unfold f_X0_give at hf
  refine Cr_of (by decide +kernel) rfl (Nat.le_of_ble_eq_true rfl) (lv0 := [(0, .ref (ad a0)), (1, .ref (ad a1)), (2, .int x2), (3, .int x3)]) rfl ?_
  refine j_aload_n (pc := 0) 0 dX0_give_0 rfl rfl ?_
  refine j_getI (pc := 1) dX0_give_1 fl162 k0 (by decide) rfl ?_
  refine j_if_ne (pc := 4) (tgt := 17) dX0_give_4 (by decide) hf (fun _ hf => ?_) (fun _ hf => ?_)
  · refine j_iload_n (pc := 17) 2 dX0_give_17 rfl rfl ?_
    refine j_bipush (pc := 18) dX0_give_18 (v := 6) (by decide) ?_
    refine j_icmp_ne (pc := 20) (tgt := 31) dX0_give_20 (by decide) hf (fun _ hf => ?_) (fun _ hf => ?_)
    · refine j_aload_n (pc := 31) 0 dX0_give_31 rfl rfl ?_
      refine j_aload_n (pc := 32) 1 dX0_give_32 rfl rfl ?_
      refine j_iload_n (pc := 33) 2 dX0_give_33 rfl rfl ?_
      refine j_iload_n (pc := 34) 3 dX0_give_34 rfl rfl ?_
      refine j_callVi (pc := 35) (d := d) (As := [.ref (ad a1), .int x2, .int x3]) (st := []) dX0_give_35 s524 k0 (by decide) rfl rfl (by decide) (Nat.le_of_ble_eq_true rfl) (fun q hq => t_X0_giveByPrices (by omega) k0 k1 hq) hf (fun q1 hf => ?_)
      exact j_zret (pc := 38) dX0_give_38 rfl hf
    · refine j_aload_n (pc := 23) 0 dX0_give_23 rfl rfl ?_
      refine j_iload_n (pc := 24) 3 dX0_give_24 rfl rfl ?_
      refine j_callVi (pc := 25) (d := d) (As := [.int x3]) (st := []) dX0_give_25 s512 k0 (by decide) rfl rfl (by decide) (Nat.le_of_ble_eq_true rfl) (fun q hq => t_X0_giveByRests (by omega) k0 hq) hf (fun q2 hf => ?_)
      refine j_goto (pc := 28) (tgt := 38) dX0_give_28 (by decide) ?_
      exact j_zret (pc := 38) dX0_give_38 rfl hf
  · refine j_iload_n (pc := 7) 3 dX0_give_7 rfl rfl ?_
    refine j_if_ne (pc := 8) (tgt := 15) dX0_give_8 (by decide) hf (fun _ hf => ?_) (fun _ hf => ?_)
    · refine j_iconst (pc := 15) dX0_give_15 (v := 0) (by decide) ?_
      exact j_zret (pc := 16) dX0_give_16 rfl hf
    · refine j_iconst (pc := 11) dX0_give_11 (v := 1) (by decide) ?_
      refine j_goto (pc := 12) (tgt := 16) dX0_give_12 (by decide) ?_
      exact j_zret (pc := 16) dX0_give_16 rfl hf
def f_X8_told_75  (a0 : Nat) (x1 : Int32) (h : Hp) : Option (Int32 × Hp) := if x1 = 0 then ((f_X3_sumOfAll (a0 + 1) h).bind (fun q1 => some (q1.1, q1.2))) else (if x1 = 1 then ((f_X3_sumOfSeats (a0 + 1) h).bind (fun q3 => some (q3.1, q3.2))) else (if x1 = 2 then (some (h.1 (a0 + 1) 5, h)) else (if x1 = 3 then (some (h.1 (a0 + 1) 4, h)) else (if x1 = 4 then (some (h.1 (a0 + 1) 6, h)) else (if x1 = 5 then (some (h.1 (a0 + 1) 7, h)) else (if x1 = 6 then (some (h.1 (a0 + 96) 1, h)) else (if x1 = 7 then (some (h.1 (a0 + 98) 1, h)) else (if x1 = 8 then ((f_X3_listBits (a0 + 1) h).bind (fun q11 => some (q11.1, q11.2))) else (if x1 = 9 then ((f_X3_wardBits (a0 + 1) h).bind (fun q13 => some (q13.1, q13.2))) else (some ((-1), h)))))))))))
set_option maxHeartbeats 4000000 in
set_option maxRecDepth 100000 in
theorem t_X8_told_75 {l : Launch} {D : va_G} {ad : Nat → Nat} {cA : Nat → ClassId} {d : Nat} (hdp : 3 ≤ d) {o : Int32 × Hp}  {a0 : Nat} {x1 : Int32} (k0 : kd a0 = 8) {h : Hp} (hf : f_X8_told_75  a0 x1 h = some o) : J l D ad cA (fun _ => True) (rmd (d + 1)) (0, 0) (mQ D ad cA (some (.int o.1)) o.2) cX8_told RX8 2 (some .int) 75 [(0, .ref (ad a0)), (1, .int x1)] [] h := by
  unfold f_X8_told_75 at hf
  refine j_iload_n (pc := 75) 1 dX8_told_75 rfl rfl ?_
  refine j_ite hf (fun hc2 hf => ?_) (fun hc2 hf => ?_)
  · refine j_tin (pc := 76) (tgt := 132) dX8_told_76 (by rw [hc2]; decide) (by rw [hc2]; decide) (by rw [hc2]; rfl) (by decide) ?_
    refine j_aload_n (pc := 132) 0 dX8_told_132 rfl rfl ?_
    refine j_getR (pc := 133) (n := 1) dX8_told_133 fl332 k0 (by decide) rfl ?_
    refine j_callVi (pc := 136) (d := d) (As := []) (st := []) dX8_told_136 s385 (lk_8_0 k0) (by decide) rfl rfl (by decide) (Nat.le_of_ble_eq_true rfl) (fun q hq => t_X3_sumOfAll (lk_8_0 k0) hq) hf (fun q1 hf => ?_)
    exact j_iret (pc := 139) dX8_told_139 rfl hf
  refine j_ite hf (fun hc4 hf => ?_) (fun hc4 hf => ?_)
  · refine j_tin (pc := 76) (tgt := 140) dX8_told_76 (by rw [hc4]; decide) (by rw [hc4]; decide) (by rw [hc4]; rfl) (by decide) ?_
    refine j_aload_n (pc := 140) 0 dX8_told_140 rfl rfl ?_
    refine j_getR (pc := 141) (n := 1) dX8_told_141 fl332 k0 (by decide) rfl ?_
    refine j_callVi (pc := 144) (d := d) (As := []) (st := []) dX8_told_144 s786 (lk_8_0 k0) (by decide) rfl rfl (by decide) (Nat.le_of_ble_eq_true rfl) (fun q hq => t_X3_sumOfSeats (lk_8_0 k0) hq) hf (fun q3 hf => ?_)
    exact j_iret (pc := 147) dX8_told_147 rfl hf
  refine j_ite hf (fun hc5 hf => ?_) (fun hc5 hf => ?_)
  · refine j_tin (pc := 76) (tgt := 148) dX8_told_76 (by rw [hc5]; decide) (by rw [hc5]; decide) (by rw [hc5]; rfl) (by decide) ?_
    refine j_aload_n (pc := 148) 0 dX8_told_148 rfl rfl ?_
    refine j_getR (pc := 149) (n := 1) dX8_told_149 fl332 k0 (by decide) rfl ?_
    refine j_getI (pc := 152) dX8_told_152 fl117 (lk_8_0 k0) (by decide) rfl ?_
    exact j_iret (pc := 155) dX8_told_155 rfl hf
  refine j_ite hf (fun hc6 hf => ?_) (fun hc6 hf => ?_)
  · refine j_tin (pc := 76) (tgt := 156) dX8_told_76 (by rw [hc6]; decide) (by rw [hc6]; decide) (by rw [hc6]; rfl) (by decide) ?_
    refine j_aload_n (pc := 156) 0 dX8_told_156 rfl rfl ?_
    refine j_getR (pc := 157) (n := 1) dX8_told_157 fl332 k0 (by decide) rfl ?_
    refine j_getI (pc := 160) dX8_told_160 fl113 (lk_8_0 k0) (by decide) rfl ?_
    exact j_iret (pc := 163) dX8_told_163 rfl hf
  refine j_ite hf (fun hc7 hf => ?_) (fun hc7 hf => ?_)
  · refine j_tin (pc := 76) (tgt := 164) dX8_told_76 (by rw [hc7]; decide) (by rw [hc7]; decide) (by rw [hc7]; rfl) (by decide) ?_
    refine j_aload_n (pc := 164) 0 dX8_told_164 rfl rfl ?_
    refine j_getR (pc := 165) (n := 1) dX8_told_165 fl332 k0 (by decide) rfl ?_
    refine j_getI (pc := 168) dX8_told_168 fl119 (lk_8_0 k0) (by decide) rfl ?_
    exact j_iret (pc := 171) dX8_told_171 rfl hf
  refine j_ite hf (fun hc8 hf => ?_) (fun hc8 hf => ?_)
  · refine j_tin (pc := 76) (tgt := 172) dX8_told_76 (by rw [hc8]; decide) (by rw [hc8]; decide) (by rw [hc8]; rfl) (by decide) ?_
    refine j_aload_n (pc := 172) 0 dX8_told_172 rfl rfl ?_
    refine j_getR (pc := 173) (n := 1) dX8_told_173 fl332 k0 (by decide) rfl ?_
    refine j_getI (pc := 176) dX8_told_176 fl121 (lk_8_0 k0) (by decide) rfl ?_
    exact j_iret (pc := 179) dX8_told_179 rfl hf
  refine j_ite hf (fun hc9 hf => ?_) (fun hc9 hf => ?_)
  · refine j_tin (pc := 76) (tgt := 180) dX8_told_76 (by rw [hc9]; decide) (by rw [hc9]; decide) (by rw [hc9]; rfl) (by decide) ?_
    refine j_aload_n (pc := 180) 0 dX8_told_180 rfl rfl ?_
    refine j_getR (pc := 181) (n := 96) dX8_told_181 fl338 k0 (by decide) rfl ?_
    refine j_getI (pc := 184) dX8_told_184 fl292 (lk_8_6 k0) (by decide) rfl ?_
    exact j_iret (pc := 187) dX8_told_187 rfl hf
  refine j_ite hf (fun hc10 hf => ?_) (fun hc10 hf => ?_)
  · refine j_tin (pc := 76) (tgt := 188) dX8_told_76 (by rw [hc10]; decide) (by rw [hc10]; decide) (by rw [hc10]; rfl) (by decide) ?_
    refine j_aload_n (pc := 188) 0 dX8_told_188 rfl rfl ?_
    refine j_getR (pc := 189) (n := 98) dX8_told_189 fl339 k0 (by decide) rfl ?_
    refine j_getI (pc := 192) dX8_told_192 fl307 (lk_8_7 k0) (by decide) rfl ?_
    exact j_iret (pc := 195) dX8_told_195 rfl hf
  refine j_ite hf (fun hc12 hf => ?_) (fun hc12 hf => ?_)
  · refine j_tin (pc := 76) (tgt := 196) dX8_told_76 (by rw [hc12]; decide) (by rw [hc12]; decide) (by rw [hc12]; rfl) (by decide) ?_
    refine j_aload_n (pc := 196) 0 dX8_told_196 rfl rfl ?_
    refine j_getR (pc := 197) (n := 1) dX8_told_197 fl332 k0 (by decide) rfl ?_
    refine j_callVi (pc := 200) (d := d) (As := []) (st := []) dX8_told_200 s787 (lk_8_0 k0) (by decide) rfl rfl (by decide) (Nat.le_of_ble_eq_true rfl) (fun q hq => t_X3_listBits (by omega) (lk_8_0 k0) hq) hf (fun q11 hf => ?_)
    exact j_iret (pc := 203) dX8_told_203 rfl hf
  refine j_ite hf (fun hc14 hf => ?_) (fun hc14 hf => ?_)
  · refine j_tin (pc := 76) (tgt := 204) dX8_told_76 (by rw [hc14]; decide) (by rw [hc14]; decide) (by rw [hc14]; rfl) (by decide) ?_
    refine j_aload_n (pc := 204) 0 dX8_told_204 rfl rfl ?_
    refine j_getR (pc := 205) (n := 1) dX8_told_205 fl332 k0 (by decide) rfl ?_
    refine j_callVi (pc := 208) (d := d) (As := []) (st := []) dX8_told_208 s793 (lk_8_0 k0) (by decide) rfl rfl (by decide) (Nat.le_of_ble_eq_true rfl) (fun q hq => t_X3_wardBits (lk_8_0 k0) hq) hf (fun q13 hf => ?_)
    exact j_iret (pc := 211) dX8_told_211 rfl hf
  refine j_tout (pc := 76) (tgt := 212) dX8_told_76 (tsw (lo := 0) (hi := 9) (by decide) (fun j h1 h2 => by
      rcases (show j = 0 ∨ j = 1 ∨ j = 2 ∨ j = 3 ∨ j = 4 ∨ j = 5 ∨ j = 6 ∨ j = 7 ∨ j = 8 ∨ j = 9 by omega) with rfl | rfl | rfl | rfl | rfl | rfl | rfl | rfl | rfl | rfl
      · exact hc2
      · exact hc4
      · exact hc5
      · exact hc6
      · exact hc7
      · exact hc8
      · exact hc9
      · exact hc10
      · exact hc12
      · exact hc14)) (by decide) ?_
  refine j_iconst (pc := 212) dX8_told_212 (v := -1) (by decide) ?_
  exact j_iret (pc := 213) dX8_told_213 rfl hf
def f_X8_told_50  (a0 : Nat) (x1 : Int32) (h : Hp) : Option (Int32 × Hp) := if x1 < 30 then (f_X8_told_75  a0 x1 h) else (if 36 ≤ x1 then (f_X8_told_75  a0 x1 h) else (if ix (x1 - 30) 6 = true then (some (h.1 (a0 + 1 + 4) (Int32.toNatClampNeg (x1 - 30)), h)) else none))
set_option maxHeartbeats 4000000 in
set_option maxRecDepth 100000 in
theorem t_X8_told_50 {l : Launch} {D : va_G} {ad : Nat → Nat} {cA : Nat → ClassId} {d : Nat} (hdp : 3 ≤ d) {o : Int32 × Hp}  {a0 : Nat} {x1 : Int32} (k0 : kd a0 = 8) {h : Hp} (hf : f_X8_told_50  a0 x1 h = some o) : J l D ad cA (fun _ => True) (rmd (d + 1)) (0, 0) (mQ D ad cA (some (.int o.1)) o.2) cX8_told RX8 2 (some .int) 50 [(0, .ref (ad a0)), (1, .int x1)] [] h := by
  unfold f_X8_told_50 at hf
  refine j_iload_n (pc := 50) 1 dX8_told_50 rfl rfl ?_
  refine j_bipush (pc := 51) dX8_told_51 (v := 30) (by decide) ?_
  refine j_icmp_lt (pc := 53) (tgt := 75) dX8_told_53 (by decide) hf (fun _ hf => ?_) (fun _ hf => ?_)
  · refine j_sub [0, 1] rfl ?_
    exact t_X8_told_75 hdp  k0 hf
  · refine j_iload_n (pc := 56) 1 dX8_told_56 rfl rfl ?_
    refine j_bipush (pc := 57) dX8_told_57 (v := 36) (by decide) ?_
    refine j_icmp_ge (pc := 59) (tgt := 75) dX8_told_59 (by decide) hf (fun _ hf => ?_) (fun _ hf => ?_)
    · refine j_sub [0, 1] rfl ?_
      exact t_X8_told_75 hdp  k0 hf
    · refine j_aload_n (pc := 62) 0 dX8_told_62 rfl rfl ?_
      refine j_getR (pc := 63) (n := 1) dX8_told_63 fl332 k0 (by decide) rfl ?_
      refine j_getR (pc := 66) (n := 4) dX8_told_66 fl111 (lk_8_0 k0) (by decide) rfl ?_
      refine j_iload_n (pc := 69) 1 dX8_told_69 rfl rfl ?_
      refine j_bipush (pc := 70) dX8_told_70 (v := 30) (by decide) ?_
      refine j_isub (pc := 72) dX8_told_72  ?_
      refine j_iaload (pc := 73) dX8_told_73 (lk_3_3 (lk_8_0 k0)) (ll_3_3 (lk_8_0 k0)) hf (fun _ hf => ?_)
      exact j_iret (pc := 74) dX8_told_74 rfl hf
def f_X8_told_25  (a0 : Nat) (x1 : Int32) (h : Hp) : Option (Int32 × Hp) := if x1 < 20 then (f_X8_told_50  a0 x1 h) else (if 26 ≤ x1 then (f_X8_told_50  a0 x1 h) else (if ix (x1 - 20) 6 = true then (some (h.1 (a0 + 1 + 3) (Int32.toNatClampNeg (x1 - 20)), h)) else none))
set_option maxHeartbeats 4000000 in
set_option maxRecDepth 100000 in
theorem t_X8_told_25 {l : Launch} {D : va_G} {ad : Nat → Nat} {cA : Nat → ClassId} {d : Nat} (hdp : 3 ≤ d) {o : Int32 × Hp}  {a0 : Nat} {x1 : Int32} (k0 : kd a0 = 8) {h : Hp} (hf : f_X8_told_25  a0 x1 h = some o) : J l D ad cA (fun _ => True) (rmd (d + 1)) (0, 0) (mQ D ad cA (some (.int o.1)) o.2) cX8_told RX8 2 (some .int) 25 [(0, .ref (ad a0)), (1, .int x1)] [] h := by
  unfold f_X8_told_25 at hf
  refine j_iload_n (pc := 25) 1 dX8_told_25 rfl rfl ?_
  refine j_bipush (pc := 26) dX8_told_26 (v := 20) (by decide) ?_
  refine j_icmp_lt (pc := 28) (tgt := 50) dX8_told_28 (by decide) hf (fun _ hf => ?_) (fun _ hf => ?_)
  · refine j_sub [0, 1] rfl ?_
    exact t_X8_told_50 hdp  k0 hf
  · refine j_iload_n (pc := 31) 1 dX8_told_31 rfl rfl ?_
    refine j_bipush (pc := 32) dX8_told_32 (v := 26) (by decide) ?_
    refine j_icmp_ge (pc := 34) (tgt := 50) dX8_told_34 (by decide) hf (fun _ hf => ?_) (fun _ hf => ?_)
    · refine j_sub [0, 1] rfl ?_
      exact t_X8_told_50 hdp  k0 hf
    · refine j_aload_n (pc := 37) 0 dX8_told_37 rfl rfl ?_
      refine j_getR (pc := 38) (n := 1) dX8_told_38 fl332 k0 (by decide) rfl ?_
      refine j_getR (pc := 41) (n := 3) dX8_told_41 fl108 (lk_8_0 k0) (by decide) rfl ?_
      refine j_iload_n (pc := 44) 1 dX8_told_44 rfl rfl ?_
      refine j_bipush (pc := 45) dX8_told_45 (v := 20) (by decide) ?_
      refine j_isub (pc := 47) dX8_told_47  ?_
      refine j_iaload (pc := 48) dX8_told_48 (lk_3_2 (lk_8_0 k0)) (ll_3_2 (lk_8_0 k0)) hf (fun _ hf => ?_)
      exact j_iret (pc := 49) dX8_told_49 rfl hf
def f_X8_told (a0 : Nat) (x1 : Int32) (h : Hp) : Option (Int32 × Hp) := if x1 < 10 then (f_X8_told_25  a0 x1 h) else (if 14 ≤ x1 then (f_X8_told_25  a0 x1 h) else (if ix (x1 - 10) 4 = true then (some (h.1 (a0 + 1 + 2) (Int32.toNatClampNeg (x1 - 10)), h)) else none))
set_option maxHeartbeats 4000000 in
set_option maxRecDepth 100000 in
theorem t_X8_told {l : Launch} {D : va_G} {ad : Nat → Nat} {cA : Nat → ClassId} {d : Nat} (hdp : 4 ≤ d) {a0 : Nat} {x1 : Int32} (k0 : kd a0 = 8) {h : Hp} {o : Int32 × Hp} (hf : f_X8_told a0 x1 h = some o) : Cr l D ad cA d yX8_told cX8_told 2 (some .int) [.ref (ad a0), .int x1] h (some (.int o.1)) o.2 := by
  obtain ⟨d, rfl⟩ : ∃ e, d = e + 1 := ⟨d - 1, by omega⟩
  have hdp : 3 ≤ d := by omega
  unfold f_X8_told at hf
  refine Cr_of (by decide +kernel) rfl (Nat.le_of_ble_eq_true rfl) (lv0 := [(0, .ref (ad a0)), (1, .int x1)]) rfl ?_
  refine j_iload_n (pc := 0) 1 dX8_told_0 rfl rfl ?_
  refine j_bipush (pc := 1) dX8_told_1 (v := 10) (by decide) ?_
  refine j_icmp_lt (pc := 3) (tgt := 25) dX8_told_3 (by decide) hf (fun _ hf => ?_) (fun _ hf => ?_)
  · refine j_sub [0, 1] rfl ?_
    exact t_X8_told_25 hdp  k0 hf
  · refine j_iload_n (pc := 6) 1 dX8_told_6 rfl rfl ?_
    refine j_bipush (pc := 7) dX8_told_7 (v := 14) (by decide) ?_
    refine j_icmp_ge (pc := 9) (tgt := 25) dX8_told_9 (by decide) hf (fun _ hf => ?_) (fun _ hf => ?_)
    · refine j_sub [0, 1] rfl ?_
      exact t_X8_told_25 hdp  k0 hf
    · refine j_aload_n (pc := 12) 0 dX8_told_12 rfl rfl ?_
      refine j_getR (pc := 13) (n := 1) dX8_told_13 fl332 k0 (by decide) rfl ?_
      refine j_getR (pc := 16) (n := 2) dX8_told_16 fl104 (lk_8_0 k0) (by decide) rfl ?_
      refine j_iload_n (pc := 19) 1 dX8_told_19 rfl rfl ?_
      refine j_bipush (pc := 20) dX8_told_20 (v := 10) (by decide) ?_
      refine j_isub (pc := 22) dX8_told_22  ?_
      refine j_iaload (pc := 23) dX8_told_23 (lk_3_1 (lk_8_0 k0)) (ll_3_1 (lk_8_0 k0)) hf (fun _ hf => ?_)
      exact j_iret (pc := 24) dX8_told_24 rfl hf
def f_X9_givesByPrice_152 (k45 : Nat → Int32 → Int32 → Int32 → Hp → Option (Int32 × Hp)) (k73 : Nat → Int32 → Int32 → Int32 → Int32 → Int32 → Hp → Option (Int32 × Hp)) (a0 : Nat) (x1 : Int32) (x3 : Int32) (x4 : Int32) (x5 : Int32) (x6 : Int32) (y0 : Int32) (y1 : Int32) (b2 : Nat) (h : Hp) : Option (Int32 × Hp) := lt (sI h b2 15 (y1 ||| y0)) (fun m11 => lt (x6 + 1) (fun v12 => k73 a0 x1 x3 x4 x5 v12 m11))
set_option maxHeartbeats 4000000 in
set_option maxRecDepth 100000 in
theorem t_X9_givesByPrice_152 {l : Launch} {D : va_G} {ad : Nat → Nat} {cA : Nat → ClassId} {d : Nat} (hdp : 3 ≤ d) {o : Int32 × Hp} {k45 : Nat → Int32 → Int32 → Int32 → Hp → Option (Int32 × Hp)} (hk45 : ∀ {a0 : Nat} {x1 : Int32} {x3 : Int32} {x4 : Int32} (k0 : kd a0 = 9) {h : Hp}, k45 a0 x1 x3 x4 h = some o → J l D ad cA (fun _ => True) (rmd (d + 1)) (0, 0) (mQ D ad cA (some (.int o.1)) o.2) cX9_givesByPrice RX9 7 (some .boolean) 45 [(0, .ref (ad a0)), (1, .int x1), (3, .int x3), (4, .int x4)] [] h) {k73 : Nat → Int32 → Int32 → Int32 → Int32 → Int32 → Hp → Option (Int32 × Hp)} (hk73 : ∀ {a0 : Nat} {x1 : Int32} {x3 : Int32} {x4 : Int32} {x5 : Int32} {x6 : Int32} (k0 : kd a0 = 9) {h : Hp}, k73 a0 x1 x3 x4 x5 x6 h = some o → J l D ad cA (fun _ => True) (rmd (d + 1)) (0, 0) (mQ D ad cA (some (.int o.1)) o.2) cX9_givesByPrice RX9 7 (some .boolean) 73 [(0, .ref (ad a0)), (1, .int x1), (3, .int x3), (4, .int x4), (5, .int x5), (6, .int x6)] [] h) {a0 : Nat} {x1 : Int32} {x3 : Int32} {x4 : Int32} {x5 : Int32} {x6 : Int32} {y0 : Int32} {y1 : Int32} {b2 : Nat} (k0 : kd a0 = 9) (kb2 : kd b2 = 9) {h : Hp} (hf : f_X9_givesByPrice_152 k45 k73 a0 x1 x3 x4 x5 x6 y0 y1 b2 h = some o) : J l D ad cA (fun _ => True) (rmd (d + 1)) (0, 0) (mQ D ad cA (some (.int o.1)) o.2) cX9_givesByPrice RX9 7 (some .boolean) 152 [(0, .ref (ad a0)), (1, .int x1), (3, .int x3), (4, .int x4), (5, .int x5), (6, .int x6)] [.int y0, .int y1, .ref (ad b2)] h := by
  unfold f_X9_givesByPrice_152 at hf
  refine j_ior (pc := 152) dX9_givesByPrice_152  ?_
  refine j_putI (pc := 153) dX9_givesByPrice_153 fl861 fp9_15 kb2 (by decide) rfl hf (fun m11 hf => ?_)
  refine j_iinc (pc := 156) 5 (c := 1) (lv' := fun v12 => [(6, .int v12), (0, .ref (ad a0)), (1, .int x1), (3, .int x3), (4, .int x4), (5, .int x5)]) dX9_givesByPrice_156 rfl (by decide) (by decide) (fun _ => rfl) hf (fun v12 hf => ?_)
  refine j_goto (pc := 159) (tgt := 73) dX9_givesByPrice_159 (by decide) ?_
  refine j_sub [1, 2, 3, 4, 5, 0] rfl ?_
  exact hk73 k0 hf
def f_X9_givesByPrice_151 (k45 : Nat → Int32 → Int32 → Int32 → Hp → Option (Int32 × Hp)) (k73 : Nat → Int32 → Int32 → Int32 → Int32 → Int32 → Hp → Option (Int32 × Hp)) (a0 : Nat) (x1 : Int32) (x3 : Int32) (x4 : Int32) (x5 : Int32) (x6 : Int32) (y0 : Int32) (b1 : Nat) (h : Hp) : Option (Int32 × Hp) := f_X9_givesByPrice_152 k45 k73 a0 x1 x3 x4 x5 x6 0 y0 b1 h
set_option maxHeartbeats 4000000 in
set_option maxRecDepth 100000 in
theorem t_X9_givesByPrice_151 {l : Launch} {D : va_G} {ad : Nat → Nat} {cA : Nat → ClassId} {d : Nat} (hdp : 3 ≤ d) {o : Int32 × Hp} {k45 : Nat → Int32 → Int32 → Int32 → Hp → Option (Int32 × Hp)} (hk45 : ∀ {a0 : Nat} {x1 : Int32} {x3 : Int32} {x4 : Int32} (k0 : kd a0 = 9) {h : Hp}, k45 a0 x1 x3 x4 h = some o → J l D ad cA (fun _ => True) (rmd (d + 1)) (0, 0) (mQ D ad cA (some (.int o.1)) o.2) cX9_givesByPrice RX9 7 (some .boolean) 45 [(0, .ref (ad a0)), (1, .int x1), (3, .int x3), (4, .int x4)] [] h) {k73 : Nat → Int32 → Int32 → Int32 → Int32 → Int32 → Hp → Option (Int32 × Hp)} (hk73 : ∀ {a0 : Nat} {x1 : Int32} {x3 : Int32} {x4 : Int32} {x5 : Int32} {x6 : Int32} (k0 : kd a0 = 9) {h : Hp}, k73 a0 x1 x3 x4 x5 x6 h = some o → J l D ad cA (fun _ => True) (rmd (d + 1)) (0, 0) (mQ D ad cA (some (.int o.1)) o.2) cX9_givesByPrice RX9 7 (some .boolean) 73 [(0, .ref (ad a0)), (1, .int x1), (3, .int x3), (4, .int x4), (5, .int x5), (6, .int x6)] [] h) {a0 : Nat} {x1 : Int32} {x3 : Int32} {x4 : Int32} {x5 : Int32} {x6 : Int32} {y0 : Int32} {b1 : Nat} (k0 : kd a0 = 9) (kb1 : kd b1 = 9) {h : Hp} (hf : f_X9_givesByPrice_151 k45 k73 a0 x1 x3 x4 x5 x6 y0 b1 h = some o) : J l D ad cA (fun _ => True) (rmd (d + 1)) (0, 0) (mQ D ad cA (some (.int o.1)) o.2) cX9_givesByPrice RX9 7 (some .boolean) 151 [(0, .ref (ad a0)), (1, .int x1), (3, .int x3), (4, .int x4), (5, .int x5), (6, .int x6)] [.int y0, .ref (ad b1)] h := by
  unfold f_X9_givesByPrice_151 at hf
  refine j_iconst (pc := 151) dX9_givesByPrice_151 (v := 0) (by decide) ?_
  refine j_sub [0, 1, 2, 3, 4, 5] rfl ?_
  exact t_X9_givesByPrice_152 hdp hk45 hk73 k0 kb1 hf
def f_X9_givesByPrice_73 (k45 : Nat → Int32 → Int32 → Int32 → Hp → Option (Int32 × Hp)) (k73 : Nat → Int32 → Int32 → Int32 → Int32 → Int32 → Hp → Option (Int32 × Hp)) (a0 : Nat) (x1 : Int32) (x3 : Int32) (x4 : Int32) (x5 : Int32) (x6 : Int32) (h : Hp) : Option (Int32 × Hp) := if 6 ≤ x6 then (if ix (h.1 a0 14) 60 = true then (lt (sI h (a0 + 9) (Int32.toNatClampNeg (h.1 a0 14)) x5) (fun m6 => lt (sI m6 a0 14 ((m6.1 a0 14) + 1)) (fun m7 => if ix x5 6 = true then (if ix x5 6 = true then (lt (sI m7 (a0 + 8) (Int32.toNatClampNeg x5) ((m7.1 (a0 + 8) (Int32.toNatClampNeg x5)) + 1)) (fun m8 => lt (x4 + (-1)) (fun v9 => k45 a0 x1 x3 v9 m8))) else none) else none))) else none) else (if x6 = x5 then (f_X9_givesByPrice_151 k45 k73 a0 x1 x3 x4 x5 x6 (h.1 a0 15) a0 h) else (if ix x6 6 = true then (if (h.1 (a0 + 5) (Int32.toNatClampNeg x6)) = 0 then (f_X9_givesByPrice_151 k45 k73 a0 x1 x3 x4 x5 x6 (h.1 a0 15) a0 h) else (if ix x6 6 = true then (if ix x6 6 = true then (if ix x5 6 = true then (if ix x5 6 = true then ((f_X9_dearer a0 x1 (Int32.toInt64 (h.1 (a0 + 6) (Int32.toNatClampNeg x6))) ((h.1 (a0 + 8) (Int32.toNatClampNeg x6)) + 1) (Int32.toInt64 (h.1 (a0 + 6) (Int32.toNatClampNeg x5))) ((h.1 (a0 + 8) (Int32.toNatClampNeg x5)) + 1) h).bind (fun q10 => if q10.1 = 0 then (f_X9_givesByPrice_152 k45 k73 a0 x1 x3 x4 x5 x6 (1 <<< (x6 &&& 31)) (h.1 a0 15) a0 q10.2) else (f_X9_givesByPrice_151 k45 k73 a0 x1 x3 x4 x5 x6 (h.1 a0 15) a0 q10.2))) else none) else none) else none) else none)) else none))
set_option maxHeartbeats 4000000 in
set_option maxRecDepth 100000 in
theorem t_X9_givesByPrice_73 {l : Launch} {D : va_G} {ad : Nat → Nat} {cA : Nat → ClassId} {d : Nat} (hdp : 3 ≤ d) {o : Int32 × Hp} {k45 : Nat → Int32 → Int32 → Int32 → Hp → Option (Int32 × Hp)} (hk45 : ∀ {a0 : Nat} {x1 : Int32} {x3 : Int32} {x4 : Int32} (k0 : kd a0 = 9) {h : Hp}, k45 a0 x1 x3 x4 h = some o → J l D ad cA (fun _ => True) (rmd (d + 1)) (0, 0) (mQ D ad cA (some (.int o.1)) o.2) cX9_givesByPrice RX9 7 (some .boolean) 45 [(0, .ref (ad a0)), (1, .int x1), (3, .int x3), (4, .int x4)] [] h) : ∀ (n : Nat) {a0 : Nat} {x1 : Int32} {x3 : Int32} {x4 : Int32} {x5 : Int32} {x6 : Int32} (k0 : kd a0 = 9) {h : Hp}, lp (F := Nat → Int32 → Int32 → Int32 → Int32 → Int32 → Hp → Option (Int32 × Hp)) (fun _ _ _ _ _ _ _ => none) (f_X9_givesByPrice_73 k45) n a0 x1 x3 x4 x5 x6 h = some o → J l D ad cA (fun _ => True) (rmd (d + 1)) (0, 0) (mQ D ad cA (some (.int o.1)) o.2) cX9_givesByPrice RX9 7 (some .boolean) 73 [(0, .ref (ad a0)), (1, .int x1), (3, .int x3), (4, .int x4), (5, .int x5), (6, .int x6)] [] h := by
  intro n
  induction n with
  | zero =>
    intro a0 x1 x3 x4 x5 x6 k0 h hf
    have hf : (none : Option (Int32 × Hp)) = some o := hf
    cases hf
  | succ n hk73 =>
    intro a0 x1 x3 x4 x5 x6 k0 h hf
    have hf : f_X9_givesByPrice_73 k45 (lp (F := Nat → Int32 → Int32 → Int32 → Int32 → Int32 → Hp → Option (Int32 × Hp)) (fun _ _ _ _ _ _ _ => none) (f_X9_givesByPrice_73 k45) n) a0 x1 x3 x4 x5 x6 h = some o := hf
    unfold f_X9_givesByPrice_73 at hf
    refine j_iload (pc := 73) 5 dX9_givesByPrice_73 rfl ?_
    refine j_bipush (pc := 75) dX9_givesByPrice_75 (v := 6) (by decide) ?_
    refine j_icmp_ge (pc := 77) (tgt := 162) dX9_givesByPrice_77 (by decide) hf (fun _ hf => ?_) (fun _ hf => ?_)
    · refine j_aload_n (pc := 162) 0 dX9_givesByPrice_162 rfl rfl ?_
      refine j_getR (pc := 163) (n := 9) dX9_givesByPrice_163 fl859 k0 (by decide) rfl ?_
      refine j_aload_n (pc := 166) 0 dX9_givesByPrice_166 rfl rfl ?_
      refine j_getI (pc := 167) dX9_givesByPrice_167 fl860 k0 (by decide) rfl ?_
      refine j_iload (pc := 170) 4 dX9_givesByPrice_170 rfl ?_
      refine j_iastore (pc := 172) dX9_givesByPrice_172 (lk_9_13 k0) (ll_9_13 k0) hf (fun m6 hf => ?_)
      refine j_aload_n (pc := 173) 0 dX9_givesByPrice_173 rfl rfl ?_
      refine j_dup (pc := 174) dX9_givesByPrice_174 rfl ?_
      refine j_getI (pc := 175) dX9_givesByPrice_175 fl860 k0 (by decide) rfl ?_
      refine j_iconst (pc := 178) dX9_givesByPrice_178 (v := 1) (by decide) ?_
      refine j_iadd (pc := 179) dX9_givesByPrice_179  ?_
      refine j_putI (pc := 180) dX9_givesByPrice_180 fl860 fp9_14 k0 (by decide) rfl hf (fun m7 hf => ?_)
      refine j_aload_n (pc := 183) 0 dX9_givesByPrice_183 rfl rfl ?_
      refine j_getR (pc := 184) (n := 8) dX9_givesByPrice_184 fl858 k0 (by decide) rfl ?_
      refine j_iload (pc := 187) 4 dX9_givesByPrice_187 rfl ?_
      refine j_dup2 (pc := 189) dX9_givesByPrice_189 rfl rfl ?_
      refine j_iaload (pc := 190) dX9_givesByPrice_190 (lk_9_12 k0) (ll_9_12 k0) hf (fun _ hf => ?_)
      refine j_iconst (pc := 191) dX9_givesByPrice_191 (v := 1) (by decide) ?_
      refine j_iadd (pc := 192) dX9_givesByPrice_192  ?_
      refine j_iastore (pc := 193) dX9_givesByPrice_193 (lk_9_12 k0) (ll_9_12 k0) hf (fun m8 hf => ?_)
      refine j_iinc (pc := 194) 3 (c := -1) (lv' := fun v9 => [(4, .int v9), (0, .ref (ad a0)), (1, .int x1), (3, .int x3), (5, .int x5), (6, .int x6)]) dX9_givesByPrice_194 rfl (by decide) (by decide) (fun _ => rfl) hf (fun v9 hf => ?_)
      refine j_goto (pc := 197) (tgt := 45) dX9_givesByPrice_197 (by decide) ?_
      refine j_sub [1, 2, 3, 0] rfl ?_
      exact hk45 k0 hf
    · refine j_aload_n (pc := 80) 0 dX9_givesByPrice_80 rfl rfl ?_
      refine j_dup (pc := 81) dX9_givesByPrice_81 rfl ?_
      refine j_getI (pc := 82) dX9_givesByPrice_82 fl861 k0 (by decide) rfl ?_
      refine j_iload (pc := 85) 5 dX9_givesByPrice_85 rfl ?_
      refine j_iload (pc := 87) 4 dX9_givesByPrice_87 rfl ?_
      refine j_icmp_eq (pc := 89) (tgt := 151) dX9_givesByPrice_89 (by decide) hf (fun _ hf => ?_) (fun _ hf => ?_)
      · refine j_sub [0, 1, 2, 3, 4, 5] rfl ?_
        exact t_X9_givesByPrice_151 hdp hk45 hk73 k0 k0 hf
      · refine j_aload_n (pc := 92) 0 dX9_givesByPrice_92 rfl rfl ?_
        refine j_getR (pc := 93) (n := 5) dX9_givesByPrice_93 fl855 k0 (by decide) rfl ?_
        refine j_iload (pc := 96) 5 dX9_givesByPrice_96 rfl ?_
        refine j_zaload (pc := 98) dX9_givesByPrice_98 (lk_9_9 k0) (ll_9_9 k0) hf (fun _ hf => ?_)
        refine j_if_eq (pc := 99) (tgt := 151) dX9_givesByPrice_99 (by decide) hf (fun _ hf => ?_) (fun _ hf => ?_)
        · refine j_sub [0, 1, 2, 3, 4, 5] rfl ?_
          exact t_X9_givesByPrice_151 hdp hk45 hk73 k0 k0 hf
        · refine j_aload_n (pc := 102) 0 dX9_givesByPrice_102 rfl rfl ?_
          refine j_iload_n (pc := 103) 1 dX9_givesByPrice_103 rfl rfl ?_
          refine j_aload_n (pc := 104) 0 dX9_givesByPrice_104 rfl rfl ?_
          refine j_getR (pc := 105) (n := 6) dX9_givesByPrice_105 fl856 k0 (by decide) rfl ?_
          refine j_iload (pc := 108) 5 dX9_givesByPrice_108 rfl ?_
          refine j_iaload (pc := 110) dX9_givesByPrice_110 (lk_9_10 k0) (ll_9_10 k0) hf (fun _ hf => ?_)
          refine j_i2l (pc := 111) dX9_givesByPrice_111  ?_
          refine j_aload_n (pc := 112) 0 dX9_givesByPrice_112 rfl rfl ?_
          refine j_getR (pc := 113) (n := 8) dX9_givesByPrice_113 fl858 k0 (by decide) rfl ?_
          refine j_iload (pc := 116) 5 dX9_givesByPrice_116 rfl ?_
          refine j_iaload (pc := 118) dX9_givesByPrice_118 (lk_9_12 k0) (ll_9_12 k0) hf (fun _ hf => ?_)
          refine j_iconst (pc := 119) dX9_givesByPrice_119 (v := 1) (by decide) ?_
          refine j_iadd (pc := 120) dX9_givesByPrice_120  ?_
          refine j_aload_n (pc := 121) 0 dX9_givesByPrice_121 rfl rfl ?_
          refine j_getR (pc := 122) (n := 6) dX9_givesByPrice_122 fl856 k0 (by decide) rfl ?_
          refine j_iload (pc := 125) 4 dX9_givesByPrice_125 rfl ?_
          refine j_iaload (pc := 127) dX9_givesByPrice_127 (lk_9_10 k0) (ll_9_10 k0) hf (fun _ hf => ?_)
          refine j_i2l (pc := 128) dX9_givesByPrice_128  ?_
          refine j_aload_n (pc := 129) 0 dX9_givesByPrice_129 rfl rfl ?_
          refine j_getR (pc := 130) (n := 8) dX9_givesByPrice_130 fl858 k0 (by decide) rfl ?_
          refine j_iload (pc := 133) 4 dX9_givesByPrice_133 rfl ?_
          refine j_iaload (pc := 135) dX9_givesByPrice_135 (lk_9_12 k0) (ll_9_12 k0) hf (fun _ hf => ?_)
          refine j_iconst (pc := 136) dX9_givesByPrice_136 (v := 1) (by decide) ?_
          refine j_iadd (pc := 137) dX9_givesByPrice_137  ?_
          refine j_callVi (pc := 138) (d := d) (As := [.int x1, .long (Int32.toInt64 (h.1 (a0 + 6) (Int32.toNatClampNeg x6))), .int ((h.1 (a0 + 8) (Int32.toNatClampNeg x6)) + 1), .long (Int32.toInt64 (h.1 (a0 + 6) (Int32.toNatClampNeg x5))), .int ((h.1 (a0 + 8) (Int32.toNatClampNeg x5)) + 1)]) (st := [.int (h.1 a0 15), .ref (ad a0)]) dX9_givesByPrice_138 s1162 k0 (by decide) rfl rfl (by decide) (Nat.le_of_ble_eq_true rfl) (fun q hq => t_X9_dearer (by omega) k0 hq) hf (fun q10 hf => ?_)
          refine j_if_ne (pc := 141) (tgt := 151) dX9_givesByPrice_141 (by decide) hf (fun _ hf => ?_) (fun _ hf => ?_)
          · refine j_sub [0, 1, 2, 3, 4, 5] rfl ?_
            exact t_X9_givesByPrice_151 hdp hk45 hk73 k0 k0 hf
          · refine j_iconst (pc := 144) dX9_givesByPrice_144 (v := 1) (by decide) ?_
            refine j_iload (pc := 145) 5 dX9_givesByPrice_145 rfl ?_
            refine j_ishl (pc := 147) dX9_givesByPrice_147  ?_
            refine j_goto (pc := 148) (tgt := 152) dX9_givesByPrice_148 (by decide) ?_
            refine j_sub [0, 1, 2, 3, 4, 5] rfl ?_
            exact t_X9_givesByPrice_152 hdp hk45 hk73 k0 k0 hf
def f_X9_givesByPrice_45 (k45 : Nat → Int32 → Int32 → Int32 → Hp → Option (Int32 × Hp)) (a0 : Nat) (x1 : Int32) (x3 : Int32) (x4 : Int32) (h : Hp) : Option (Int32 × Hp) := if x4 ≤ 0 then (if x3 < 0 then (if isB 0 = true then some (0, h) else none) else (if isB 1 = true then some (1, h) else none)) else ((f_X9_dearest a0 x1 h).bind (fun q4 => if q4.1 = ((-1)) then (if isB 0 = true then some (0, q4.2) else none) else (lt (sI q4.2 a0 15 0) (fun m5 => lp (F := Nat → Int32 → Int32 → Int32 → Int32 → Int32 → Hp → Option (Int32 × Hp)) (fun _ _ _ _ _ _ _ => none) (f_X9_givesByPrice_73 k45) 1000 a0 x1 x3 x4 q4.1 0 m5))))
set_option maxHeartbeats 4000000 in
set_option maxRecDepth 100000 in
theorem t_X9_givesByPrice_45 {l : Launch} {D : va_G} {ad : Nat → Nat} {cA : Nat → ClassId} {d : Nat} (hdp : 3 ≤ d) {o : Int32 × Hp}  : ∀ (n : Nat) {a0 : Nat} {x1 : Int32} {x3 : Int32} {x4 : Int32} (k0 : kd a0 = 9) {h : Hp}, lp (F := Nat → Int32 → Int32 → Int32 → Hp → Option (Int32 × Hp)) (fun _ _ _ _ _ => none) (f_X9_givesByPrice_45) n a0 x1 x3 x4 h = some o → J l D ad cA (fun _ => True) (rmd (d + 1)) (0, 0) (mQ D ad cA (some (.int o.1)) o.2) cX9_givesByPrice RX9 7 (some .boolean) 45 [(0, .ref (ad a0)), (1, .int x1), (3, .int x3), (4, .int x4)] [] h := by
  intro n
  induction n with
  | zero =>
    intro a0 x1 x3 x4 k0 h hf
    have hf : (none : Option (Int32 × Hp)) = some o := hf
    cases hf
  | succ n hk45 =>
    intro a0 x1 x3 x4 k0 h hf
    have hf : f_X9_givesByPrice_45  (lp (F := Nat → Int32 → Int32 → Int32 → Hp → Option (Int32 × Hp)) (fun _ _ _ _ _ => none) (f_X9_givesByPrice_45) n) a0 x1 x3 x4 h = some o := hf
    unfold f_X9_givesByPrice_45 at hf
    refine j_iload (pc := 45) 3 dX9_givesByPrice_45 rfl ?_
    refine j_if_le (pc := 47) (tgt := 200) dX9_givesByPrice_47 (by decide) hf (fun _ hf => ?_) (fun _ hf => ?_)
    · refine j_iload_n (pc := 200) 2 dX9_givesByPrice_200 rfl rfl ?_
      refine j_if_lt (pc := 201) (tgt := 208) dX9_givesByPrice_201 (by decide) hf (fun _ hf => ?_) (fun _ hf => ?_)
      · refine j_iconst (pc := 208) dX9_givesByPrice_208 (v := 0) (by decide) ?_
        exact j_zret (pc := 209) dX9_givesByPrice_209 rfl hf
      · refine j_iconst (pc := 204) dX9_givesByPrice_204 (v := 1) (by decide) ?_
        refine j_goto (pc := 205) (tgt := 209) dX9_givesByPrice_205 (by decide) ?_
        exact j_zret (pc := 209) dX9_givesByPrice_209 rfl hf
    · refine j_aload_n (pc := 50) 0 dX9_givesByPrice_50 rfl rfl ?_
      refine j_iload_n (pc := 51) 1 dX9_givesByPrice_51 rfl rfl ?_
      refine j_callVi (pc := 52) (d := d) (As := [.int x1]) (st := []) dX9_givesByPrice_52 s1158 k0 (by decide) rfl rfl (by decide) (Nat.le_of_ble_eq_true rfl) (fun q hq => t_X9_dearest (by omega) k0 hq) hf (fun q4 hf => ?_)
      refine j_istore (pc := 55) (lv' := [(5, .int q4.1), (0, .ref (ad a0)), (1, .int x1), (3, .int x3), (4, .int x4)]) dX9_givesByPrice_55 (by decide) rfl ?_
      refine j_iload (pc := 57) 0 dX9_givesByPrice_57 rfl ?_
      refine j_iconst (pc := 59) dX9_givesByPrice_59 (v := -1) (by decide) ?_
      refine j_icmp_ne (pc := 60) (tgt := 65) dX9_givesByPrice_60 (by decide) hf (fun _ hf => ?_) (fun _ hf => ?_)
      · refine j_aload_n (pc := 65) 1 dX9_givesByPrice_65 rfl rfl ?_
        refine j_iconst (pc := 66) dX9_givesByPrice_66 (v := 0) (by decide) ?_
        refine j_putI (pc := 67) dX9_givesByPrice_67 fl861 fp9_15 k0 (by decide) rfl hf (fun m5 hf => ?_)
        refine j_iconst (pc := 70) dX9_givesByPrice_70 (v := 0) (by decide) ?_
        refine j_istore (pc := 71) (lv' := [(6, .int 0), (5, .int q4.1), (0, .ref (ad a0)), (1, .int x1), (3, .int x3), (4, .int x4)]) dX9_givesByPrice_71 (by decide) rfl ?_
        refine j_sub [2, 3, 4, 5, 1, 0] rfl ?_
        exact t_X9_givesByPrice_73 hdp hk45 1000 k0 hf
      · refine j_iconst (pc := 63) dX9_givesByPrice_63 (v := 0) (by decide) ?_
        exact j_zret (pc := 64) dX9_givesByPrice_64 rfl hf
def f_X9_givesByPrice_5 (k5 : Nat → Int32 → Int32 → Int32 → Hp → Option (Int32 × Hp)) (a0 : Nat) (x1 : Int32) (x3 : Int32) (x4 : Int32) (h : Hp) : Option (Int32 × Hp) := if 6 ≤ x4 then (lp (F := Nat → Int32 → Int32 → Int32 → Hp → Option (Int32 × Hp)) (fun _ _ _ _ _ => none) (f_X9_givesByPrice_45) 1000 a0 x1 x3 x3 h) else (if ix x4 6 = true then (if ix x4 6 = true then (lt (sI h (a0 + 8) (Int32.toNatClampNeg x4) (h.1 (a0 + 7) (Int32.toNatClampNeg x4))) (fun m1 => if ix x4 6 = true then (lt (x3 - (m1.1 (a0 + 7) (Int32.toNatClampNeg x4))) (fun v2 => lt (x4 + 1) (fun v3 => k5 a0 x1 v2 v3 m1))) else none)) else none) else none)
set_option maxHeartbeats 4000000 in
set_option maxRecDepth 100000 in
theorem t_X9_givesByPrice_5 {l : Launch} {D : va_G} {ad : Nat → Nat} {cA : Nat → ClassId} {d : Nat} (hdp : 3 ≤ d) {o : Int32 × Hp}  : ∀ (n : Nat) {a0 : Nat} {x1 : Int32} {x3 : Int32} {x4 : Int32} (k0 : kd a0 = 9) {h : Hp}, lp (F := Nat → Int32 → Int32 → Int32 → Hp → Option (Int32 × Hp)) (fun _ _ _ _ _ => none) (f_X9_givesByPrice_5) n a0 x1 x3 x4 h = some o → J l D ad cA (fun _ => True) (rmd (d + 1)) (0, 0) (mQ D ad cA (some (.int o.1)) o.2) cX9_givesByPrice RX9 7 (some .boolean) 5 [(0, .ref (ad a0)), (1, .int x1), (3, .int x3), (4, .int x4)] [] h := by
  intro n
  induction n with
  | zero =>
    intro a0 x1 x3 x4 k0 h hf
    have hf : (none : Option (Int32 × Hp)) = some o := hf
    cases hf
  | succ n hk5 =>
    intro a0 x1 x3 x4 k0 h hf
    have hf : f_X9_givesByPrice_5  (lp (F := Nat → Int32 → Int32 → Int32 → Hp → Option (Int32 × Hp)) (fun _ _ _ _ _ => none) (f_X9_givesByPrice_5) n) a0 x1 x3 x4 h = some o := hf
    unfold f_X9_givesByPrice_5 at hf
    refine j_iload (pc := 5) 3 dX9_givesByPrice_5 rfl ?_
    refine j_bipush (pc := 7) dX9_givesByPrice_7 (v := 6) (by decide) ?_
    refine j_icmp_ge (pc := 9) (tgt := 42) dX9_givesByPrice_9 (by decide) hf (fun _ hf => ?_) (fun _ hf => ?_)
    · refine j_iload_n (pc := 42) 2 dX9_givesByPrice_42 rfl rfl ?_
      refine j_istore (pc := 43) (lv' := [(4, .int x3), (0, .ref (ad a0)), (1, .int x1), (3, .int x3)]) dX9_givesByPrice_43 (by decide) rfl ?_
      refine j_sub [1, 2, 3, 0] rfl ?_
      exact t_X9_givesByPrice_45 hdp  1000 k0 hf
    · refine j_aload_n (pc := 12) 0 dX9_givesByPrice_12 rfl rfl ?_
      refine j_getR (pc := 13) (n := 8) dX9_givesByPrice_13 fl858 k0 (by decide) rfl ?_
      refine j_iload (pc := 16) 3 dX9_givesByPrice_16 rfl ?_
      refine j_aload_n (pc := 18) 0 dX9_givesByPrice_18 rfl rfl ?_
      refine j_getR (pc := 19) (n := 7) dX9_givesByPrice_19 fl857 k0 (by decide) rfl ?_
      refine j_iload (pc := 22) 3 dX9_givesByPrice_22 rfl ?_
      refine j_iaload (pc := 24) dX9_givesByPrice_24 (lk_9_11 k0) (ll_9_11 k0) hf (fun _ hf => ?_)
      refine j_iastore (pc := 25) dX9_givesByPrice_25 (lk_9_12 k0) (ll_9_12 k0) hf (fun m1 hf => ?_)
      refine j_iload_n (pc := 26) 2 dX9_givesByPrice_26 rfl rfl ?_
      refine j_aload_n (pc := 27) 0 dX9_givesByPrice_27 rfl rfl ?_
      refine j_getR (pc := 28) (n := 7) dX9_givesByPrice_28 fl857 k0 (by decide) rfl ?_
      refine j_iload (pc := 31) 3 dX9_givesByPrice_31 rfl ?_
      refine j_iaload (pc := 33) dX9_givesByPrice_33 (lk_9_11 k0) (ll_9_11 k0) hf (fun _ hf => ?_)
      refine j_isub (pc := 34) dX9_givesByPrice_34  ?_
      refine j_istore_nN (pc := 35) (lv' := fun v2 => [(3, .int v2), (0, .ref (ad a0)), (1, .int x1), (4, .int x4)]) dX9_givesByPrice_35 rfl (by decide) (fun _ => rfl) hf (fun v2 hf => ?_)
      refine j_iinc (pc := 36) 3 (c := 1) (lv' := fun v3 => [(4, .int v3), (3, .int v2), (0, .ref (ad a0)), (1, .int x1)]) dX9_givesByPrice_36 rfl (by decide) (by decide) (fun _ => rfl) hf (fun v3 hf => ?_)
      refine j_goto (pc := 39) (tgt := 5) dX9_givesByPrice_39 (by decide) ?_
      refine j_sub [2, 3, 1, 0] rfl ?_
      exact hk5 k0 hf
def f_X9_givesByPrice (a0 : Nat) (x1 : Int32) (x2 : Int32) (h : Hp) : Option (Int32 × Hp) := lp (F := Nat → Int32 → Int32 → Int32 → Hp → Option (Int32 × Hp)) (fun _ _ _ _ _ => none) (f_X9_givesByPrice_5) 1000 a0 x1 x2 0 h
set_option maxHeartbeats 4000000 in
set_option maxRecDepth 100000 in
theorem t_X9_givesByPrice {l : Launch} {D : va_G} {ad : Nat → Nat} {cA : Nat → ClassId} {d : Nat} (hdp : 4 ≤ d) {a0 : Nat} {x1 : Int32} {x2 : Int32} (k0 : kd a0 = 9) {h : Hp} {o : Int32 × Hp} (hf : f_X9_givesByPrice a0 x1 x2 h = some o) : Cr l D ad cA d yX9_givesByPrice cX9_givesByPrice 7 (some .boolean) [.ref (ad a0), .int x1, .int x2] h (some (.int o.1)) o.2 := by
  obtain ⟨d, rfl⟩ : ∃ e, d = e + 1 := ⟨d - 1, by omega⟩
  have hdp : 3 ≤ d := by omega
  unfold f_X9_givesByPrice at hf
  refine Cr_of (by decide +kernel) rfl (Nat.le_of_ble_eq_true rfl) (lv0 := [(0, .ref (ad a0)), (1, .int x1), (2, .int x2)]) rfl ?_
  refine j_iload_n (pc := 0) 2 dX9_givesByPrice_0 rfl rfl ?_
  refine j_istore_n (pc := 1) (lv' := [(3, .int x2), (0, .ref (ad a0)), (1, .int x1), (2, .int x2)]) dX9_givesByPrice_1 rfl (by decide) rfl ?_
  refine j_iconst (pc := 2) dX9_givesByPrice_2 (v := 0) (by decide) ?_
  refine j_istore (pc := 3) (lv' := [(4, .int 0), (3, .int x2), (0, .ref (ad a0)), (1, .int x1), (2, .int x2)]) dX9_givesByPrice_3 (by decide) rfl ?_
  refine j_sub [2, 3, 1, 0] rfl ?_
  exact t_X9_givesByPrice_5 hdp  1000 k0 hf
def f_X9_in_26 (k4 : Nat → Int32 → Int32 → Hp → Option (Int32 × Hp)) (a0 : Nat) (x2 : Int32) (y0 : Int32) (y1 : Int32) (h : Hp) : Option (Int32 × Hp) := lt (y1 ||| y0) (fun v2 => lt (x2 + 1) (fun v3 => k4 a0 v2 v3 h))
set_option maxHeartbeats 4000000 in
set_option maxRecDepth 100000 in
theorem t_X9_in_26 {l : Launch} {D : va_G} {ad : Nat → Nat} {cA : Nat → ClassId} {d : Nat} (hdp : 3 ≤ d) {o : Int32 × Hp} {k4 : Nat → Int32 → Int32 → Hp → Option (Int32 × Hp)} (hk4 : ∀ {a0 : Nat} {x1 : Int32} {x2 : Int32} (k0 : kd a0 = 9) {h : Hp}, k4 a0 x1 x2 h = some o → J l D ad cA (fun _ => True) (rmd (d + 1)) (0, 0) (mQ D ad cA (some (.int o.1)) o.2) cX9_in RX9 3 (some .int) 4 [(0, .ref (ad a0)), (1, .int x1), (2, .int x2)] [] h) {a0 : Nat} {x2 : Int32} {y0 : Int32} {y1 : Int32} (k0 : kd a0 = 9) {h : Hp} (hf : f_X9_in_26 k4 a0 x2 y0 y1 h = some o) : J l D ad cA (fun _ => True) (rmd (d + 1)) (0, 0) (mQ D ad cA (some (.int o.1)) o.2) cX9_in RX9 3 (some .int) 26 [(0, .ref (ad a0)), (2, .int x2)] [.int y0, .int y1] h := by
  unfold f_X9_in_26 at hf
  refine j_ior (pc := 26) dX9_in_26  ?_
  refine j_istore_nN (pc := 27) (lv' := fun v2 => [(1, .int v2), (0, .ref (ad a0)), (2, .int x2)]) dX9_in_27 rfl (by decide) (fun _ => rfl) hf (fun v2 hf => ?_)
  refine j_iinc (pc := 28) 2 (c := 1) (lv' := fun v3 => [(2, .int v3), (1, .int v2), (0, .ref (ad a0))]) dX9_in_28 rfl (by decide) (by decide) (fun _ => rfl) hf (fun v3 hf => ?_)
  refine j_goto (pc := 31) (tgt := 4) dX9_in_31 (by decide) ?_
  refine j_sub [2, 1, 0] rfl ?_
  exact hk4 k0 hf
def f_X9_in_4 (k4 : Nat → Int32 → Int32 → Hp → Option (Int32 × Hp)) (a0 : Nat) (x1 : Int32) (x2 : Int32) (h : Hp) : Option (Int32 × Hp) := if 6 ≤ x2 then (some (x1, h)) else ((f_X9_isIn a0 x2 h).bind (fun q1 => if q1.1 = 0 then (f_X9_in_26 k4 a0 x2 0 x1 q1.2) else (f_X9_in_26 k4 a0 x2 (1 <<< (x2 &&& 31)) x1 q1.2)))
set_option maxHeartbeats 4000000 in
set_option maxRecDepth 100000 in
theorem t_X9_in_4 {l : Launch} {D : va_G} {ad : Nat → Nat} {cA : Nat → ClassId} {d : Nat} (hdp : 3 ≤ d) {o : Int32 × Hp}  : ∀ (n : Nat) {a0 : Nat} {x1 : Int32} {x2 : Int32} (k0 : kd a0 = 9) {h : Hp}, lp (F := Nat → Int32 → Int32 → Hp → Option (Int32 × Hp)) (fun _ _ _ _ => none) (f_X9_in_4) n a0 x1 x2 h = some o → J l D ad cA (fun _ => True) (rmd (d + 1)) (0, 0) (mQ D ad cA (some (.int o.1)) o.2) cX9_in RX9 3 (some .int) 4 [(0, .ref (ad a0)), (1, .int x1), (2, .int x2)] [] h := by
  intro n
  induction n with
  | zero =>
    intro a0 x1 x2 k0 h hf
    have hf : (none : Option (Int32 × Hp)) = some o := hf
    cases hf
  | succ n hk4 =>
    intro a0 x1 x2 k0 h hf
    have hf : f_X9_in_4  (lp (F := Nat → Int32 → Int32 → Hp → Option (Int32 × Hp)) (fun _ _ _ _ => none) (f_X9_in_4) n) a0 x1 x2 h = some o := hf
    unfold f_X9_in_4 at hf
    refine j_iload_n (pc := 4) 2 dX9_in_4 rfl rfl ?_
    refine j_bipush (pc := 5) dX9_in_5 (v := 6) (by decide) ?_
    refine j_icmp_ge (pc := 7) (tgt := 34) dX9_in_7 (by decide) hf (fun _ hf => ?_) (fun _ hf => ?_)
    · refine j_iload_n (pc := 34) 1 dX9_in_34 rfl rfl ?_
      exact j_iret (pc := 35) dX9_in_35 rfl hf
    · refine j_iload_n (pc := 10) 1 dX9_in_10 rfl rfl ?_
      refine j_aload_n (pc := 11) 0 dX9_in_11 rfl rfl ?_
      refine j_iload_n (pc := 12) 2 dX9_in_12 rfl rfl ?_
      refine j_callVi (pc := 13) (d := d) (As := [.int x2]) (st := [.int x1]) dX9_in_13 s1106 k0 (by decide) rfl rfl (by decide) (Nat.le_of_ble_eq_true rfl) (fun q hq => t_X9_isIn (by omega) k0 hq) hf (fun q1 hf => ?_)
      refine j_if_eq (pc := 16) (tgt := 25) dX9_in_16 (by decide) hf (fun _ hf => ?_) (fun _ hf => ?_)
      · refine j_iconst (pc := 25) dX9_in_25 (v := 0) (by decide) ?_
        refine j_sub [0, 2] rfl ?_
        exact t_X9_in_26 hdp hk4 k0 hf
      · refine j_iconst (pc := 19) dX9_in_19 (v := 1) (by decide) ?_
        refine j_iload_n (pc := 20) 2 dX9_in_20 rfl rfl ?_
        refine j_ishl (pc := 21) dX9_in_21  ?_
        refine j_goto (pc := 22) (tgt := 26) dX9_in_22 (by decide) ?_
        refine j_sub [0, 2] rfl ?_
        exact t_X9_in_26 hdp hk4 k0 hf
def f_X9_in (a0 : Nat) (h : Hp) : Option (Int32 × Hp) := lp (F := Nat → Int32 → Int32 → Hp → Option (Int32 × Hp)) (fun _ _ _ _ => none) (f_X9_in_4) 1000 a0 0 0 h
set_option maxHeartbeats 4000000 in
set_option maxRecDepth 100000 in
theorem t_X9_in {l : Launch} {D : va_G} {ad : Nat → Nat} {cA : Nat → ClassId} {d : Nat} (hdp : 4 ≤ d) {a0 : Nat} (k0 : kd a0 = 9) {h : Hp} {o : Int32 × Hp} (hf : f_X9_in a0 h = some o) : Cr l D ad cA d yX9_in cX9_in 3 (some .int) [.ref (ad a0)] h (some (.int o.1)) o.2 := by
  obtain ⟨d, rfl⟩ : ∃ e, d = e + 1 := ⟨d - 1, by omega⟩
  have hdp : 3 ≤ d := by omega
  unfold f_X9_in at hf
  refine Cr_of (by decide +kernel) rfl (Nat.le_of_ble_eq_true rfl) (lv0 := [(0, .ref (ad a0))]) rfl ?_
  refine j_iconst (pc := 0) dX9_in_0 (v := 0) (by decide) ?_
  refine j_istore_n (pc := 1) (lv' := [(1, .int 0), (0, .ref (ad a0))]) dX9_in_1 rfl (by decide) rfl ?_
  refine j_iconst (pc := 2) dX9_in_2 (v := 0) (by decide) ?_
  refine j_istore_n (pc := 3) (lv' := [(2, .int 0), (1, .int 0), (0, .ref (ad a0))]) dX9_in_3 rfl (by decide) rfl ?_
  refine j_sub [2, 1, 0] rfl ?_
  exact t_X9_in_4 hdp  1000 k0 hf
def f_X9_isPlanned_106 (k96 : Nat → Int32 → Hp → Option (Int32 × Hp)) (k106 : Nat → Int32 → Int64 → Int32 → Hp → Option (Int32 × Hp)) (a0 : Nat) (x1 : Int32) (x2 : Int64) (x4 : Int32) (h : Hp) : Option (Int32 × Hp) := if 6 ≤ x4 then ((f_X9_seatsOf a0 x1 h).bind (fun q1 => if (lg_cmp x2 (Int32.toInt64 q1.1)) = 0 then (lt (x1 + 1) (fun v2 => k96 a0 v2 q1.2)) else (if isB 0 = true then some (0, q1.2) else none))) else (if ix ((6 * x1) + x4) 24 = true then (lt (x2 + (Int32.toInt64 (h.1 (a0 + 28) (Int32.toNatClampNeg ((6 * x1) + x4))))) (fun v3 => lt (x4 + 1) (fun v4 => k106 a0 x1 v3 v4 h))) else none)
set_option maxHeartbeats 4000000 in
set_option maxRecDepth 100000 in
theorem t_X9_isPlanned_106 {l : Launch} {D : va_G} {ad : Nat → Nat} {cA : Nat → ClassId} {d : Nat} (hdp : 3 ≤ d) {o : Int32 × Hp} {k96 : Nat → Int32 → Hp → Option (Int32 × Hp)} (hk96 : ∀ {a0 : Nat} {x1 : Int32} (k0 : kd a0 = 9) {h : Hp}, k96 a0 x1 h = some o → J l D ad cA (fun _ => True) (rmd (d + 1)) (0, 0) (mQ D ad cA (some (.int o.1)) o.2) cX9_isPlanned RX9 6 (some .boolean) 96 [(0, .ref (ad a0)), (1, .int x1)] [] h) : ∀ (n : Nat) {a0 : Nat} {x1 : Int32} {x2 : Int64} {x4 : Int32} (k0 : kd a0 = 9) {h : Hp}, lp (F := Nat → Int32 → Int64 → Int32 → Hp → Option (Int32 × Hp)) (fun _ _ _ _ _ => none) (f_X9_isPlanned_106 k96) n a0 x1 x2 x4 h = some o → J l D ad cA (fun _ => True) (rmd (d + 1)) (0, 0) (mQ D ad cA (some (.int o.1)) o.2) cX9_isPlanned RX9 6 (some .boolean) 106 [(0, .ref (ad a0)), (1, .int x1), (2, .long x2), (4, .int x4)] [] h := by
  intro n
  induction n with
  | zero =>
    intro a0 x1 x2 x4 k0 h hf
    have hf : (none : Option (Int32 × Hp)) = some o := hf
    cases hf
  | succ n hk106 =>
    intro a0 x1 x2 x4 k0 h hf
    have hf : f_X9_isPlanned_106 k96 (lp (F := Nat → Int32 → Int64 → Int32 → Hp → Option (Int32 × Hp)) (fun _ _ _ _ _ => none) (f_X9_isPlanned_106 k96) n) a0 x1 x2 x4 h = some o := hf
    unfold f_X9_isPlanned_106 at hf
    refine j_iload (pc := 106) 3 dX9_isPlanned_106 rfl ?_
    refine j_bipush (pc := 108) dX9_isPlanned_108 (v := 6) (by decide) ?_
    refine j_icmp_ge (pc := 110) (tgt := 135) dX9_isPlanned_110 (by decide) hf (fun _ hf => ?_) (fun _ hf => ?_)
    · refine j_lload_n (pc := 135) 2 dX9_isPlanned_135 rfl rfl ?_
      refine j_aload_n (pc := 136) 0 dX9_isPlanned_136 rfl rfl ?_
      refine j_iload_n (pc := 137) 1 dX9_isPlanned_137 rfl rfl ?_
      refine j_callVi (pc := 138) (d := d) (As := [.int x1]) (st := [.long x2]) dX9_isPlanned_138 s1275 k0 (by decide) rfl rfl (by decide) (Nat.le_of_ble_eq_true rfl) (fun q hq => t_X9_seatsOf k0 hq) hf (fun q1 hf => ?_)
      refine j_i2l (pc := 141) dX9_isPlanned_141  ?_
      refine j_lcmp (pc := 142) dX9_isPlanned_142  ?_
      refine j_if_eq (pc := 143) (tgt := 148) dX9_isPlanned_143 (by decide) hf (fun _ hf => ?_) (fun _ hf => ?_)
      · refine j_iinc (pc := 148) 1 (c := 1) (lv' := fun v2 => [(1, .int v2), (0, .ref (ad a0)), (2, .long x2), (4, .int x4)]) dX9_isPlanned_148 rfl (by decide) (by decide) (fun _ => rfl) hf (fun v2 hf => ?_)
        refine j_goto (pc := 151) (tgt := 96) dX9_isPlanned_151 (by decide) ?_
        refine j_sub [1, 0] rfl ?_
        exact hk96 k0 hf
      · refine j_iconst (pc := 146) dX9_isPlanned_146 (v := 0) (by decide) ?_
        exact j_zret (pc := 147) dX9_isPlanned_147 rfl hf
    · refine j_lload_n (pc := 113) 2 dX9_isPlanned_113 rfl rfl ?_
      refine j_aload_n (pc := 114) 0 dX9_isPlanned_114 rfl rfl ?_
      refine j_getR (pc := 115) (n := 28) dX9_isPlanned_115 fl887 k0 (by decide) rfl ?_
      refine j_bipush (pc := 118) dX9_isPlanned_118 (v := 6) (by decide) ?_
      refine j_iload_n (pc := 120) 1 dX9_isPlanned_120 rfl rfl ?_
      refine j_imul (pc := 121) dX9_isPlanned_121  ?_
      refine j_iload (pc := 122) 3 dX9_isPlanned_122 rfl ?_
      refine j_iadd (pc := 124) dX9_isPlanned_124  ?_
      refine j_iaload (pc := 125) dX9_isPlanned_125 (lk_9_41 k0) (ll_9_41 k0) hf (fun _ hf => ?_)
      refine j_i2l (pc := 126) dX9_isPlanned_126  ?_
      refine j_ladd (pc := 127) dX9_isPlanned_127  ?_
      refine j_lstore_nN (pc := 128) (lv' := fun v3 => [(2, .long v3), (0, .ref (ad a0)), (1, .int x1), (4, .int x4)]) dX9_isPlanned_128 rfl (by decide) (fun _ => rfl) hf (fun v3 hf => ?_)
      refine j_iinc (pc := 129) 3 (c := 1) (lv' := fun v4 => [(4, .int v4), (2, .long v3), (0, .ref (ad a0)), (1, .int x1)]) dX9_isPlanned_129 rfl (by decide) (by decide) (fun _ => rfl) hf (fun v4 hf => ?_)
      refine j_goto (pc := 132) (tgt := 106) dX9_isPlanned_132 (by decide) ?_
      refine j_sub [2, 3, 1, 0] rfl ?_
      exact hk106 k0 hf
def f_X9_isPlanned_96 (k96 : Nat → Int32 → Hp → Option (Int32 × Hp)) (a0 : Nat) (x1 : Int32) (h : Hp) : Option (Int32 × Hp) := if 4 ≤ x1 then (if isB 1 = true then some (1, h) else none) else (lp (F := Nat → Int32 → Int64 → Int32 → Hp → Option (Int32 × Hp)) (fun _ _ _ _ _ => none) (f_X9_isPlanned_106 k96) 1000 a0 x1 0 0 h)
set_option maxHeartbeats 4000000 in
set_option maxRecDepth 100000 in
theorem t_X9_isPlanned_96 {l : Launch} {D : va_G} {ad : Nat → Nat} {cA : Nat → ClassId} {d : Nat} (hdp : 3 ≤ d) {o : Int32 × Hp}  : ∀ (n : Nat) {a0 : Nat} {x1 : Int32} (k0 : kd a0 = 9) {h : Hp}, lp (F := Nat → Int32 → Hp → Option (Int32 × Hp)) (fun _ _ _ => none) (f_X9_isPlanned_96) n a0 x1 h = some o → J l D ad cA (fun _ => True) (rmd (d + 1)) (0, 0) (mQ D ad cA (some (.int o.1)) o.2) cX9_isPlanned RX9 6 (some .boolean) 96 [(0, .ref (ad a0)), (1, .int x1)] [] h := by
  intro n
  induction n with
  | zero =>
    intro a0 x1 k0 h hf
    have hf : (none : Option (Int32 × Hp)) = some o := hf
    cases hf
  | succ n hk96 =>
    intro a0 x1 k0 h hf
    have hf : f_X9_isPlanned_96  (lp (F := Nat → Int32 → Hp → Option (Int32 × Hp)) (fun _ _ _ => none) (f_X9_isPlanned_96) n) a0 x1 h = some o := hf
    unfold f_X9_isPlanned_96 at hf
    refine j_iload_n (pc := 96) 1 dX9_isPlanned_96 rfl rfl ?_
    refine j_iconst (pc := 97) dX9_isPlanned_97 (v := 4) (by decide) ?_
    refine j_icmp_ge (pc := 98) (tgt := 154) dX9_isPlanned_98 (by decide) hf (fun _ hf => ?_) (fun _ hf => ?_)
    · refine j_iconst (pc := 154) dX9_isPlanned_154 (v := 1) (by decide) ?_
      exact j_zret (pc := 155) dX9_isPlanned_155 rfl hf
    · refine j_lconst (pc := 101) dX9_isPlanned_101 (v := 0) rfl ?_
      refine j_lstore_n (pc := 102) (lv' := [(2, .long 0), (0, .ref (ad a0)), (1, .int x1)]) dX9_isPlanned_102 rfl (by decide) rfl ?_
      refine j_iconst (pc := 103) dX9_isPlanned_103 (v := 0) (by decide) ?_
      refine j_istore (pc := 104) (lv' := [(4, .int 0), (2, .long 0), (0, .ref (ad a0)), (1, .int x1)]) dX9_isPlanned_104 (by decide) rfl ?_
      refine j_sub [2, 3, 1, 0] rfl ?_
      exact t_X9_isPlanned_106 hdp hk96 1000 k0 hf
def f_X9_isPlanned_62 (k2 : Nat → Int32 → Hp → Option (Int32 × Hp)) (k13 : Nat → Int32 → Int64 → Int32 → Hp → Option (Int32 × Hp)) (a0 : Nat) (x1 : Int32) (x2 : Int64) (x4 : Int32) (x5 : Int32) (h : Hp) : Option (Int32 × Hp) := lt (x2 + (Int32.toInt64 x5)) (fun v9 => lt (x4 + 1) (fun v10 => k13 a0 x1 v9 v10 h))
set_option maxHeartbeats 4000000 in
set_option maxRecDepth 100000 in
theorem t_X9_isPlanned_62 {l : Launch} {D : va_G} {ad : Nat → Nat} {cA : Nat → ClassId} {d : Nat} (hdp : 3 ≤ d) {o : Int32 × Hp} {k2 : Nat → Int32 → Hp → Option (Int32 × Hp)} (hk2 : ∀ {a0 : Nat} {x1 : Int32} (k0 : kd a0 = 9) {h : Hp}, k2 a0 x1 h = some o → J l D ad cA (fun _ => True) (rmd (d + 1)) (0, 0) (mQ D ad cA (some (.int o.1)) o.2) cX9_isPlanned RX9 6 (some .boolean) 2 [(0, .ref (ad a0)), (1, .int x1)] [] h) {k13 : Nat → Int32 → Int64 → Int32 → Hp → Option (Int32 × Hp)} (hk13 : ∀ {a0 : Nat} {x1 : Int32} {x2 : Int64} {x4 : Int32} (k0 : kd a0 = 9) {h : Hp}, k13 a0 x1 x2 x4 h = some o → J l D ad cA (fun _ => True) (rmd (d + 1)) (0, 0) (mQ D ad cA (some (.int o.1)) o.2) cX9_isPlanned RX9 6 (some .boolean) 13 [(0, .ref (ad a0)), (1, .int x1), (2, .long x2), (4, .int x4)] [] h) {a0 : Nat} {x1 : Int32} {x2 : Int64} {x4 : Int32} {x5 : Int32} (k0 : kd a0 = 9) {h : Hp} (hf : f_X9_isPlanned_62 k2 k13 a0 x1 x2 x4 x5 h = some o) : J l D ad cA (fun _ => True) (rmd (d + 1)) (0, 0) (mQ D ad cA (some (.int o.1)) o.2) cX9_isPlanned RX9 6 (some .boolean) 62 [(0, .ref (ad a0)), (1, .int x1), (2, .long x2), (4, .int x4), (5, .int x5)] [] h := by
  unfold f_X9_isPlanned_62 at hf
  refine j_lload_n (pc := 62) 2 dX9_isPlanned_62 rfl rfl ?_
  refine j_iload (pc := 63) 4 dX9_isPlanned_63 rfl ?_
  refine j_i2l (pc := 65) dX9_isPlanned_65  ?_
  refine j_ladd (pc := 66) dX9_isPlanned_66  ?_
  refine j_lstore_nN (pc := 67) (lv' := fun v9 => [(2, .long v9), (0, .ref (ad a0)), (1, .int x1), (4, .int x4), (5, .int x5)]) dX9_isPlanned_67 rfl (by decide) (fun _ => rfl) hf (fun v9 hf => ?_)
  refine j_iinc (pc := 68) 3 (c := 1) (lv' := fun v10 => [(4, .int v10), (2, .long v9), (0, .ref (ad a0)), (1, .int x1), (5, .int x5)]) dX9_isPlanned_68 rfl (by decide) (by decide) (fun _ => rfl) hf (fun v10 hf => ?_)
  refine j_goto (pc := 71) (tgt := 13) dX9_isPlanned_71 (by decide) ?_
  refine j_sub [2, 3, 1, 0] rfl ?_
  exact hk13 k0 hf
def f_X9_isPlanned_13 (k2 : Nat → Int32 → Hp → Option (Int32 × Hp)) (k13 : Nat → Int32 → Int64 → Int32 → Hp → Option (Int32 × Hp)) (a0 : Nat) (x1 : Int32) (x2 : Int64) (x4 : Int32) (h : Hp) : Option (Int32 × Hp) := if 4 ≤ x4 then (if ix x1 6 = true then (if (lg_cmp x2 (Int32.toInt64 (h.1 (a0 + 22) (Int32.toNatClampNeg x1)))) = 0 then (lt (x1 + 1) (fun v5 => k2 a0 v5 h)) else (if isB 0 = true then some (0, h) else none)) else none) else (if ix ((6 * x4) + x1) 24 = true then (lt (h.1 (a0 + 28) (Int32.toNatClampNeg ((6 * x4) + x1))) (fun v6 => if v6 < 0 then (if isB 0 = true then some (0, h) else none) else (if v6 ≤ 0 then (f_X9_isPlanned_62 k2 k13 a0 x1 x2 x4 v6 h) else ((f_X9_seatsOf a0 x4 h).bind (fun q7 => if q7.1 = 0 then (if isB 0 = true then some (0, q7.2) else none) else ((f_X9_isIn a0 x1 q7.2).bind (fun q8 => if q8.1 = 0 then (if isB 0 = true then some (0, q8.2) else none) else (f_X9_isPlanned_62 k2 k13 a0 x1 x2 x4 v6 q8.2)))))))) else none)
set_option maxHeartbeats 4000000 in
set_option maxRecDepth 100000 in
theorem t_X9_isPlanned_13 {l : Launch} {D : va_G} {ad : Nat → Nat} {cA : Nat → ClassId} {d : Nat} (hdp : 3 ≤ d) {o : Int32 × Hp} {k2 : Nat → Int32 → Hp → Option (Int32 × Hp)} (hk2 : ∀ {a0 : Nat} {x1 : Int32} (k0 : kd a0 = 9) {h : Hp}, k2 a0 x1 h = some o → J l D ad cA (fun _ => True) (rmd (d + 1)) (0, 0) (mQ D ad cA (some (.int o.1)) o.2) cX9_isPlanned RX9 6 (some .boolean) 2 [(0, .ref (ad a0)), (1, .int x1)] [] h) : ∀ (n : Nat) {a0 : Nat} {x1 : Int32} {x2 : Int64} {x4 : Int32} (k0 : kd a0 = 9) {h : Hp}, lp (F := Nat → Int32 → Int64 → Int32 → Hp → Option (Int32 × Hp)) (fun _ _ _ _ _ => none) (f_X9_isPlanned_13 k2) n a0 x1 x2 x4 h = some o → J l D ad cA (fun _ => True) (rmd (d + 1)) (0, 0) (mQ D ad cA (some (.int o.1)) o.2) cX9_isPlanned RX9 6 (some .boolean) 13 [(0, .ref (ad a0)), (1, .int x1), (2, .long x2), (4, .int x4)] [] h := by
  intro n
  induction n with
  | zero =>
    intro a0 x1 x2 x4 k0 h hf
    have hf : (none : Option (Int32 × Hp)) = some o := hf
    cases hf
  | succ n hk13 =>
    intro a0 x1 x2 x4 k0 h hf
    have hf : f_X9_isPlanned_13 k2 (lp (F := Nat → Int32 → Int64 → Int32 → Hp → Option (Int32 × Hp)) (fun _ _ _ _ _ => none) (f_X9_isPlanned_13 k2) n) a0 x1 x2 x4 h = some o := hf
    unfold f_X9_isPlanned_13 at hf
    refine j_iload (pc := 13) 3 dX9_isPlanned_13 rfl ?_
    refine j_iconst (pc := 15) dX9_isPlanned_15 (v := 4) (by decide) ?_
    refine j_icmp_ge (pc := 16) (tgt := 74) dX9_isPlanned_16 (by decide) hf (fun _ hf => ?_) (fun _ hf => ?_)
    · refine j_lload_n (pc := 74) 2 dX9_isPlanned_74 rfl rfl ?_
      refine j_aload_n (pc := 75) 0 dX9_isPlanned_75 rfl rfl ?_
      refine j_getR (pc := 76) (n := 22) dX9_isPlanned_76 fl879 k0 (by decide) rfl ?_
      refine j_iload_n (pc := 79) 1 dX9_isPlanned_79 rfl rfl ?_
      refine j_iaload (pc := 80) dX9_isPlanned_80 (lk_9_33 k0) (ll_9_33 k0) hf (fun _ hf => ?_)
      refine j_i2l (pc := 81) dX9_isPlanned_81  ?_
      refine j_lcmp (pc := 82) dX9_isPlanned_82  ?_
      refine j_if_eq (pc := 83) (tgt := 88) dX9_isPlanned_83 (by decide) hf (fun _ hf => ?_) (fun _ hf => ?_)
      · refine j_iinc (pc := 88) 1 (c := 1) (lv' := fun v5 => [(1, .int v5), (0, .ref (ad a0)), (2, .long x2), (4, .int x4)]) dX9_isPlanned_88 rfl (by decide) (by decide) (fun _ => rfl) hf (fun v5 hf => ?_)
        refine j_goto (pc := 91) (tgt := 2) dX9_isPlanned_91 (by decide) ?_
        refine j_sub [1, 0] rfl ?_
        exact hk2 k0 hf
      · refine j_iconst (pc := 86) dX9_isPlanned_86 (v := 0) (by decide) ?_
        exact j_zret (pc := 87) dX9_isPlanned_87 rfl hf
    · refine j_aload_n (pc := 19) 0 dX9_isPlanned_19 rfl rfl ?_
      refine j_getR (pc := 20) (n := 28) dX9_isPlanned_20 fl887 k0 (by decide) rfl ?_
      refine j_bipush (pc := 23) dX9_isPlanned_23 (v := 6) (by decide) ?_
      refine j_iload (pc := 25) 3 dX9_isPlanned_25 rfl ?_
      refine j_imul (pc := 27) dX9_isPlanned_27  ?_
      refine j_iload_n (pc := 28) 1 dX9_isPlanned_28 rfl rfl ?_
      refine j_iadd (pc := 29) dX9_isPlanned_29  ?_
      refine j_iaload (pc := 30) dX9_isPlanned_30 (lk_9_41 k0) (ll_9_41 k0) hf (fun _ hf => ?_)
      refine j_istoreN (pc := 31) (lv' := fun v6 => [(5, .int v6), (0, .ref (ad a0)), (1, .int x1), (2, .long x2), (4, .int x4)]) dX9_isPlanned_31 (by decide) (fun _ => rfl) hf (fun v6 hf => ?_)
      refine j_iload (pc := 33) 0 dX9_isPlanned_33 rfl ?_
      refine j_if_lt (pc := 35) (tgt := 60) dX9_isPlanned_35 (by decide) hf (fun _ hf => ?_) (fun _ hf => ?_)
      · refine j_iconst (pc := 60) dX9_isPlanned_60 (v := 0) (by decide) ?_
        exact j_zret (pc := 61) dX9_isPlanned_61 rfl hf
      · refine j_iload (pc := 38) 0 dX9_isPlanned_38 rfl ?_
        refine j_if_le (pc := 40) (tgt := 62) dX9_isPlanned_40 (by decide) hf (fun _ hf => ?_) (fun _ hf => ?_)
        · refine j_sub [1, 2, 3, 4, 0] rfl ?_
          exact t_X9_isPlanned_62 hdp hk2 hk13 k0 hf
        · refine j_aload_n (pc := 43) 1 dX9_isPlanned_43 rfl rfl ?_
          refine j_iload (pc := 44) 4 dX9_isPlanned_44 rfl ?_
          refine j_callVi (pc := 46) (d := d) (As := [.int x4]) (st := []) dX9_isPlanned_46 s1275 k0 (by decide) rfl rfl (by decide) (Nat.le_of_ble_eq_true rfl) (fun q hq => t_X9_seatsOf k0 hq) hf (fun q7 hf => ?_)
          refine j_if_eq (pc := 49) (tgt := 60) dX9_isPlanned_49 (by decide) hf (fun _ hf => ?_) (fun _ hf => ?_)
          · refine j_iconst (pc := 60) dX9_isPlanned_60 (v := 0) (by decide) ?_
            exact j_zret (pc := 61) dX9_isPlanned_61 rfl hf
          · refine j_aload_n (pc := 52) 1 dX9_isPlanned_52 rfl rfl ?_
            refine j_iload_n (pc := 53) 2 dX9_isPlanned_53 rfl rfl ?_
            refine j_callVi (pc := 54) (d := d) (As := [.int x1]) (st := []) dX9_isPlanned_54 s1106 k0 (by decide) rfl rfl (by decide) (Nat.le_of_ble_eq_true rfl) (fun q hq => t_X9_isIn (by omega) k0 hq) hf (fun q8 hf => ?_)
            refine j_if_ne (pc := 57) (tgt := 62) dX9_isPlanned_57 (by decide) hf (fun _ hf => ?_) (fun _ hf => ?_)
            · refine j_sub [1, 2, 3, 4, 0] rfl ?_
              exact t_X9_isPlanned_62 hdp hk2 hk13 k0 hf
            · refine j_iconst (pc := 60) dX9_isPlanned_60 (v := 0) (by decide) ?_
              exact j_zret (pc := 61) dX9_isPlanned_61 rfl hf
def f_X9_isPlanned_2 (k2 : Nat → Int32 → Hp → Option (Int32 × Hp)) (a0 : Nat) (x1 : Int32) (h : Hp) : Option (Int32 × Hp) := if 6 ≤ x1 then (lp (F := Nat → Int32 → Hp → Option (Int32 × Hp)) (fun _ _ _ => none) (f_X9_isPlanned_96) 1000 a0 0 h) else (lp (F := Nat → Int32 → Int64 → Int32 → Hp → Option (Int32 × Hp)) (fun _ _ _ _ _ => none) (f_X9_isPlanned_13 k2) 1000 a0 x1 0 0 h)
set_option maxHeartbeats 4000000 in
set_option maxRecDepth 100000 in
theorem t_X9_isPlanned_2 {l : Launch} {D : va_G} {ad : Nat → Nat} {cA : Nat → ClassId} {d : Nat} (hdp : 3 ≤ d) {o : Int32 × Hp}  : ∀ (n : Nat) {a0 : Nat} {x1 : Int32} (k0 : kd a0 = 9) {h : Hp}, lp (F := Nat → Int32 → Hp → Option (Int32 × Hp)) (fun _ _ _ => none) (f_X9_isPlanned_2) n a0 x1 h = some o → J l D ad cA (fun _ => True) (rmd (d + 1)) (0, 0) (mQ D ad cA (some (.int o.1)) o.2) cX9_isPlanned RX9 6 (some .boolean) 2 [(0, .ref (ad a0)), (1, .int x1)] [] h := by
  intro n
  induction n with
  | zero =>
    intro a0 x1 k0 h hf
    have hf : (none : Option (Int32 × Hp)) = some o := hf
    cases hf
  | succ n hk2 =>
    intro a0 x1 k0 h hf
    have hf : f_X9_isPlanned_2  (lp (F := Nat → Int32 → Hp → Option (Int32 × Hp)) (fun _ _ _ => none) (f_X9_isPlanned_2) n) a0 x1 h = some o := hf
    unfold f_X9_isPlanned_2 at hf
    refine j_iload_n (pc := 2) 1 dX9_isPlanned_2 rfl rfl ?_
    refine j_bipush (pc := 3) dX9_isPlanned_3 (v := 6) (by decide) ?_
    refine j_icmp_ge (pc := 5) (tgt := 94) dX9_isPlanned_5 (by decide) hf (fun _ hf => ?_) (fun _ hf => ?_)
    · refine j_iconst (pc := 94) dX9_isPlanned_94 (v := 0) (by decide) ?_
      refine j_istore_n (pc := 95) (lv' := [(1, .int 0), (0, .ref (ad a0))]) dX9_isPlanned_95 rfl (by decide) rfl ?_
      refine j_sub [1, 0] rfl ?_
      exact t_X9_isPlanned_96 hdp  1000 k0 hf
    · refine j_lconst (pc := 8) dX9_isPlanned_8 (v := 0) rfl ?_
      refine j_lstore_n (pc := 9) (lv' := [(2, .long 0), (0, .ref (ad a0)), (1, .int x1)]) dX9_isPlanned_9 rfl (by decide) rfl ?_
      refine j_iconst (pc := 10) dX9_isPlanned_10 (v := 0) (by decide) ?_
      refine j_istore (pc := 11) (lv' := [(4, .int 0), (2, .long 0), (0, .ref (ad a0)), (1, .int x1)]) dX9_isPlanned_11 (by decide) rfl ?_
      refine j_sub [2, 3, 1, 0] rfl ?_
      exact t_X9_isPlanned_13 hdp hk2 1000 k0 hf
def f_X9_isPlanned (a0 : Nat) (h : Hp) : Option (Int32 × Hp) := lp (F := Nat → Int32 → Hp → Option (Int32 × Hp)) (fun _ _ _ => none) (f_X9_isPlanned_2) 1000 a0 0 h
set_option maxHeartbeats 4000000 in
set_option maxRecDepth 100000 in
theorem t_X9_isPlanned {l : Launch} {D : va_G} {ad : Nat → Nat} {cA : Nat → ClassId} {d : Nat} (hdp : 4 ≤ d) {a0 : Nat} (k0 : kd a0 = 9) {h : Hp} {o : Int32 × Hp} (hf : f_X9_isPlanned a0 h = some o) : Cr l D ad cA d yX9_isPlanned cX9_isPlanned 6 (some .boolean) [.ref (ad a0)] h (some (.int o.1)) o.2 := by
  obtain ⟨d, rfl⟩ : ∃ e, d = e + 1 := ⟨d - 1, by omega⟩
  have hdp : 3 ≤ d := by omega
  unfold f_X9_isPlanned at hf
  refine Cr_of (by decide +kernel) rfl (Nat.le_of_ble_eq_true rfl) (lv0 := [(0, .ref (ad a0))]) rfl ?_
  refine j_iconst (pc := 0) dX9_isPlanned_0 (v := 0) (by decide) ?_
  refine j_istore_n (pc := 1) (lv' := [(1, .int 0), (0, .ref (ad a0))]) dX9_isPlanned_1 rfl (by decide) rfl ?_
  refine j_sub [1, 0] rfl ?_
  exact t_X9_isPlanned_2 hdp  1000 k0 hf
def f_X9_listsIn_30 (k4 : Nat → Int32 → Int32 → Hp → Option (Int32 × Hp)) (a0 : Nat) (x2 : Int32) (y0 : Int32) (y1 : Int32) (h : Hp) : Option (Int32 × Hp) := lt (y1 ||| y0) (fun v3 => lt (x2 + 1) (fun v4 => k4 a0 v3 v4 h))
set_option maxHeartbeats 4000000 in
set_option maxRecDepth 100000 in
theorem t_X9_listsIn_30 {l : Launch} {D : va_G} {ad : Nat → Nat} {cA : Nat → ClassId} {d : Nat} (hdp : 3 ≤ d) {o : Int32 × Hp} {k4 : Nat → Int32 → Int32 → Hp → Option (Int32 × Hp)} (hk4 : ∀ {a0 : Nat} {x1 : Int32} {x2 : Int32} (k0 : kd a0 = 9) {h : Hp}, k4 a0 x1 x2 h = some o → J l D ad cA (fun _ => True) (rmd (d + 1)) (0, 0) (mQ D ad cA (some (.int o.1)) o.2) cX9_listsIn RX9 3 (some .int) 4 [(0, .ref (ad a0)), (1, .int x1), (2, .int x2)] [] h) {a0 : Nat} {x2 : Int32} {y0 : Int32} {y1 : Int32} (k0 : kd a0 = 9) {h : Hp} (hf : f_X9_listsIn_30 k4 a0 x2 y0 y1 h = some o) : J l D ad cA (fun _ => True) (rmd (d + 1)) (0, 0) (mQ D ad cA (some (.int o.1)) o.2) cX9_listsIn RX9 3 (some .int) 30 [(0, .ref (ad a0)), (2, .int x2)] [.int y0, .int y1] h := by
  unfold f_X9_listsIn_30 at hf
  refine j_ior (pc := 30) dX9_listsIn_30  ?_
  refine j_istore_nN (pc := 31) (lv' := fun v3 => [(1, .int v3), (0, .ref (ad a0)), (2, .int x2)]) dX9_listsIn_31 rfl (by decide) (fun _ => rfl) hf (fun v3 hf => ?_)
  refine j_iinc (pc := 32) 2 (c := 1) (lv' := fun v4 => [(2, .int v4), (1, .int v3), (0, .ref (ad a0))]) dX9_listsIn_32 rfl (by decide) (by decide) (fun _ => rfl) hf (fun v4 hf => ?_)
  refine j_goto (pc := 35) (tgt := 4) dX9_listsIn_35 (by decide) ?_
  refine j_sub [2, 1, 0] rfl ?_
  exact hk4 k0 hf
def f_X9_listsIn_4 (k4 : Nat → Int32 → Int32 → Hp → Option (Int32 × Hp)) (a0 : Nat) (x1 : Int32) (x2 : Int32) (h : Hp) : Option (Int32 × Hp) := if 6 ≤ x2 then (some (x1, h)) else ((f_X9_isIn a0 x2 h).bind (fun q1 => if q1.1 = 0 then (f_X9_listsIn_30 k4 a0 x2 0 x1 q1.2) else ((f_X9_listOf a0 x2 q1.2).bind (fun q2 => f_X9_listsIn_30 k4 a0 x2 (1 <<< (q2.1 &&& 31)) x1 q2.2))))
set_option maxHeartbeats 4000000 in
set_option maxRecDepth 100000 in
theorem t_X9_listsIn_4 {l : Launch} {D : va_G} {ad : Nat → Nat} {cA : Nat → ClassId} {d : Nat} (hdp : 3 ≤ d) {o : Int32 × Hp}  : ∀ (n : Nat) {a0 : Nat} {x1 : Int32} {x2 : Int32} (k0 : kd a0 = 9) {h : Hp}, lp (F := Nat → Int32 → Int32 → Hp → Option (Int32 × Hp)) (fun _ _ _ _ => none) (f_X9_listsIn_4) n a0 x1 x2 h = some o → J l D ad cA (fun _ => True) (rmd (d + 1)) (0, 0) (mQ D ad cA (some (.int o.1)) o.2) cX9_listsIn RX9 3 (some .int) 4 [(0, .ref (ad a0)), (1, .int x1), (2, .int x2)] [] h := by
  intro n
  induction n with
  | zero =>
    intro a0 x1 x2 k0 h hf
    have hf : (none : Option (Int32 × Hp)) = some o := hf
    cases hf
  | succ n hk4 =>
    intro a0 x1 x2 k0 h hf
    have hf : f_X9_listsIn_4  (lp (F := Nat → Int32 → Int32 → Hp → Option (Int32 × Hp)) (fun _ _ _ _ => none) (f_X9_listsIn_4) n) a0 x1 x2 h = some o := hf
    unfold f_X9_listsIn_4 at hf
    refine j_iload_n (pc := 4) 2 dX9_listsIn_4 rfl rfl ?_
    refine j_bipush (pc := 5) dX9_listsIn_5 (v := 6) (by decide) ?_
    refine j_icmp_ge (pc := 7) (tgt := 38) dX9_listsIn_7 (by decide) hf (fun _ hf => ?_) (fun _ hf => ?_)
    · refine j_iload_n (pc := 38) 1 dX9_listsIn_38 rfl rfl ?_
      exact j_iret (pc := 39) dX9_listsIn_39 rfl hf
    · refine j_iload_n (pc := 10) 1 dX9_listsIn_10 rfl rfl ?_
      refine j_aload_n (pc := 11) 0 dX9_listsIn_11 rfl rfl ?_
      refine j_iload_n (pc := 12) 2 dX9_listsIn_12 rfl rfl ?_
      refine j_callVi (pc := 13) (d := d) (As := [.int x2]) (st := [.int x1]) dX9_listsIn_13 s1106 k0 (by decide) rfl rfl (by decide) (Nat.le_of_ble_eq_true rfl) (fun q hq => t_X9_isIn (by omega) k0 hq) hf (fun q1 hf => ?_)
      refine j_if_eq (pc := 16) (tgt := 29) dX9_listsIn_16 (by decide) hf (fun _ hf => ?_) (fun _ hf => ?_)
      · refine j_iconst (pc := 29) dX9_listsIn_29 (v := 0) (by decide) ?_
        refine j_sub [0, 2] rfl ?_
        exact t_X9_listsIn_30 hdp hk4 k0 hf
      · refine j_iconst (pc := 19) dX9_listsIn_19 (v := 1) (by decide) ?_
        refine j_aload_n (pc := 20) 0 dX9_listsIn_20 rfl rfl ?_
        refine j_iload_n (pc := 21) 2 dX9_listsIn_21 rfl rfl ?_
        refine j_callVi (pc := 22) (d := d) (As := [.int x2]) (st := [.int 1, .int x1]) dX9_listsIn_22 s1126 k0 (by decide) rfl rfl (by decide) (Nat.le_of_ble_eq_true rfl) (fun q hq => t_X9_listOf k0 hq) hf (fun q2 hf => ?_)
        refine j_ishl (pc := 25) dX9_listsIn_25  ?_
        refine j_goto (pc := 26) (tgt := 30) dX9_listsIn_26 (by decide) ?_
        refine j_sub [0, 2] rfl ?_
        exact t_X9_listsIn_30 hdp hk4 k0 hf
def f_X9_listsIn (a0 : Nat) (h : Hp) : Option (Int32 × Hp) := lp (F := Nat → Int32 → Int32 → Hp → Option (Int32 × Hp)) (fun _ _ _ _ => none) (f_X9_listsIn_4) 1000 a0 0 0 h
set_option maxHeartbeats 4000000 in
set_option maxRecDepth 100000 in
theorem t_X9_listsIn {l : Launch} {D : va_G} {ad : Nat → Nat} {cA : Nat → ClassId} {d : Nat} (hdp : 4 ≤ d) {a0 : Nat} (k0 : kd a0 = 9) {h : Hp} {o : Int32 × Hp} (hf : f_X9_listsIn a0 h = some o) : Cr l D ad cA d yX9_listsIn cX9_listsIn 3 (some .int) [.ref (ad a0)] h (some (.int o.1)) o.2 := by
  obtain ⟨d, rfl⟩ : ∃ e, d = e + 1 := ⟨d - 1, by omega⟩
  have hdp : 3 ≤ d := by omega
  unfold f_X9_listsIn at hf
  refine Cr_of (by decide +kernel) rfl (Nat.le_of_ble_eq_true rfl) (lv0 := [(0, .ref (ad a0))]) rfl ?_
  refine j_iconst (pc := 0) dX9_listsIn_0 (v := 0) (by decide) ?_
  refine j_istore_n (pc := 1) (lv' := [(1, .int 0), (0, .ref (ad a0))]) dX9_listsIn_1 rfl (by decide) rfl ?_
  refine j_iconst (pc := 2) dX9_listsIn_2 (v := 0) (by decide) ?_
  refine j_istore_n (pc := 3) (lv' := [(2, .int 0), (1, .int 0), (0, .ref (ad a0))]) dX9_listsIn_3 rfl (by decide) rfl ?_
  refine j_sub [2, 1, 0] rfl ?_
  exact t_X9_listsIn_4 hdp  1000 k0 hf
def f_X9_read_54 (k22 : Nat → Int32 → Int32 → Hp → Option (Int32 × Hp)) (a0 : Nat) (x2 : Int32) (x3 : Int32) (h : Hp) : Option (Int32 × Hp) := lt (x3 + 1) (fun v5 => k22 a0 x2 v5 h)
set_option maxHeartbeats 4000000 in
set_option maxRecDepth 100000 in
theorem t_X9_read_54 {l : Launch} {D : va_G} {ad : Nat → Nat} {cA : Nat → ClassId} {d : Nat} (hdp : 3 ≤ d) {o : Int32 × Hp} {k22 : Nat → Int32 → Int32 → Hp → Option (Int32 × Hp)} (hk22 : ∀ {a0 : Nat} {x2 : Int32} {x3 : Int32} (k0 : kd a0 = 9) {h : Hp}, k22 a0 x2 x3 h = some o → J l D ad cA (fun _ => True) (rmd (d + 1)) (0, 0) (mQ D ad cA (some (.int o.1)) o.2) cX9_read RX9 4 (some .int) 22 [(0, .ref (ad a0)), (2, .int x2), (3, .int x3)] [] h) {a0 : Nat} {x2 : Int32} {x3 : Int32} (k0 : kd a0 = 9) {h : Hp} (hf : f_X9_read_54 k22 a0 x2 x3 h = some o) : J l D ad cA (fun _ => True) (rmd (d + 1)) (0, 0) (mQ D ad cA (some (.int o.1)) o.2) cX9_read RX9 4 (some .int) 54 [(0, .ref (ad a0)), (2, .int x2), (3, .int x3)] [] h := by
  unfold f_X9_read_54 at hf
  refine j_iinc (pc := 54) 2 (c := 1) (lv' := fun v5 => [(3, .int v5), (0, .ref (ad a0)), (2, .int x2)]) dX9_read_54 rfl (by decide) (by decide) (fun _ => rfl) hf (fun v5 hf => ?_)
  refine j_goto (pc := 57) (tgt := 22) dX9_read_57 (by decide) ?_
  refine j_sub [1, 2, 0] rfl ?_
  exact hk22 k0 hf
def f_X9_read_22 (k22 : Nat → Int32 → Int32 → Hp → Option (Int32 × Hp)) (a0 : Nat) (x2 : Int32) (x3 : Int32) (h : Hp) : Option (Int32 × Hp) := if x2 ≤ 0 then (some (x2, h)) else (if 24 ≤ x3 then (some (x2, h)) else (if ix x3 24 = true then (if (h.1 (a0 + 4) (Int32.toNatClampNeg x3)) = ((-1)) then (f_X9_read_54 k22 a0 x2 x3 h) else (if ix x3 24 = true then ((f_X9_tells a0 x3 (h.1 (a0 + 4) (Int32.toNatClampNeg x3)) h).bind (fun q4 => f_X9_read_54 k22 a0 x2 x3 q4.2)) else none)) else none))
set_option maxHeartbeats 4000000 in
set_option maxRecDepth 100000 in
theorem t_X9_read_22 {l : Launch} {D : va_G} {ad : Nat → Nat} {cA : Nat → ClassId} {d : Nat} (hdp : 3 ≤ d) {o : Int32 × Hp}  : ∀ (n : Nat) {a0 : Nat} {x2 : Int32} {x3 : Int32} (k0 : kd a0 = 9) {h : Hp}, lp (F := Nat → Int32 → Int32 → Hp → Option (Int32 × Hp)) (fun _ _ _ _ => none) (f_X9_read_22) n a0 x2 x3 h = some o → J l D ad cA (fun _ => True) (rmd (d + 1)) (0, 0) (mQ D ad cA (some (.int o.1)) o.2) cX9_read RX9 4 (some .int) 22 [(0, .ref (ad a0)), (2, .int x2), (3, .int x3)] [] h := by
  intro n
  induction n with
  | zero =>
    intro a0 x2 x3 k0 h hf
    have hf : (none : Option (Int32 × Hp)) = some o := hf
    cases hf
  | succ n hk22 =>
    intro a0 x2 x3 k0 h hf
    have hf : f_X9_read_22  (lp (F := Nat → Int32 → Int32 → Hp → Option (Int32 × Hp)) (fun _ _ _ _ => none) (f_X9_read_22) n) a0 x2 x3 h = some o := hf
    unfold f_X9_read_22 at hf
    refine j_iload_n (pc := 22) 1 dX9_read_22 rfl rfl ?_
    refine j_if_le (pc := 23) (tgt := 60) dX9_read_23 (by decide) hf (fun _ hf => ?_) (fun _ hf => ?_)
    · refine j_iload_n (pc := 60) 1 dX9_read_60 rfl rfl ?_
      exact j_iret (pc := 61) dX9_read_61 rfl hf
    · refine j_iload_n (pc := 26) 2 dX9_read_26 rfl rfl ?_
      refine j_bipush (pc := 27) dX9_read_27 (v := 24) (by decide) ?_
      refine j_icmp_ge (pc := 29) (tgt := 60) dX9_read_29 (by decide) hf (fun _ hf => ?_) (fun _ hf => ?_)
      · refine j_iload_n (pc := 60) 1 dX9_read_60 rfl rfl ?_
        exact j_iret (pc := 61) dX9_read_61 rfl hf
      · refine j_aload_n (pc := 32) 0 dX9_read_32 rfl rfl ?_
        refine j_getR (pc := 33) (n := 4) dX9_read_33 fl854 k0 (by decide) rfl ?_
        refine j_iload_n (pc := 36) 2 dX9_read_36 rfl rfl ?_
        refine j_iaload (pc := 37) dX9_read_37 (lk_9_8 k0) (ll_9_8 k0) hf (fun _ hf => ?_)
        refine j_iconst (pc := 38) dX9_read_38 (v := -1) (by decide) ?_
        refine j_icmp_eq (pc := 39) (tgt := 54) dX9_read_39 (by decide) hf (fun _ hf => ?_) (fun _ hf => ?_)
        · refine j_sub [0, 1, 2] rfl ?_
          exact t_X9_read_54 hdp hk22 k0 hf
        · refine j_aload_n (pc := 42) 0 dX9_read_42 rfl rfl ?_
          refine j_iload_n (pc := 43) 2 dX9_read_43 rfl rfl ?_
          refine j_aload_n (pc := 44) 0 dX9_read_44 rfl rfl ?_
          refine j_getR (pc := 45) (n := 4) dX9_read_45 fl854 k0 (by decide) rfl ?_
          refine j_iload_n (pc := 48) 2 dX9_read_48 rfl rfl ?_
          refine j_iaload (pc := 49) dX9_read_49 (lk_9_8 k0) (ll_9_8 k0) hf (fun _ hf => ?_)
          refine j_callVi (pc := 50) (d := d) (As := [.int x3, .int (h.1 (a0 + 4) (Int32.toNatClampNeg x3))]) (st := []) dX9_read_50 s990 k0 (by decide) rfl rfl (by decide) (Nat.le_of_ble_eq_true rfl) (fun q hq => t_X9_tells k0 hq) hf (fun q4 hf => ?_)
          refine j_pop (pc := 53) dX9_read_53 rfl ?_
          refine j_sub [0, 1, 2] rfl ?_
          exact t_X9_read_54 hdp hk22 k0 hf
def f_X9_read (a0 : Nat) (x1 : Int32) (h : Hp) : Option (Int32 × Hp) := (f_X9_isWard x1 h).bind (fun q1 => if q1.1 = 0 then (some ((-1), q1.2)) else ((f_X9_readsAll a0 x1 q1.2).bind (fun q2 => lt (sI q2.2 a0 6 0) (fun m3 => lp (F := Nat → Int32 → Int32 → Hp → Option (Int32 × Hp)) (fun _ _ _ _ => none) (f_X9_read_22) 1000 a0 q2.1 0 m3))))
set_option maxHeartbeats 4000000 in
set_option maxRecDepth 100000 in
theorem t_X9_read {l : Launch} {D : va_G} {ad : Nat → Nat} {cA : Nat → ClassId} {d : Nat} (hdp : 4 ≤ d) {a0 : Nat} {x1 : Int32} (k0 : kd a0 = 9) {h : Hp} {o : Int32 × Hp} (hf : f_X9_read a0 x1 h = some o) : Cr l D ad cA d yX9_read cX9_read 4 (some .int) [.ref (ad a0), .int x1] h (some (.int o.1)) o.2 := by
  obtain ⟨d, rfl⟩ : ∃ e, d = e + 1 := ⟨d - 1, by omega⟩
  have hdp : 3 ≤ d := by omega
  unfold f_X9_read at hf
  refine Cr_of (by decide +kernel) rfl (Nat.le_of_ble_eq_true rfl) (lv0 := [(0, .ref (ad a0)), (1, .int x1)]) rfl ?_
  refine j_iload_n (pc := 0) 1 dX9_read_0 rfl rfl ?_
  refine j_callSi (pc := 1) (d := d) (As := [.int x1]) (st := []) dX9_read_1 s978 rfl rfl (by decide) (Nat.le_of_ble_eq_true rfl) (fun q hq => t_X9_isWard (by omega)  hq) hf (fun q1 hf => ?_)
  refine j_if_ne (pc := 4) (tgt := 9) dX9_read_4 (by decide) hf (fun _ hf => ?_) (fun _ hf => ?_)
  · refine j_aload_n (pc := 9) 0 dX9_read_9 rfl rfl ?_
    refine j_iload_n (pc := 10) 1 dX9_read_10 rfl rfl ?_
    refine j_callVi (pc := 11) (d := d) (As := [.int x1]) (st := []) dX9_read_11 s1056 k0 (by decide) rfl rfl (by decide) (Nat.le_of_ble_eq_true rfl) (fun q hq => t_X9_readsAll (by omega) k0 hq) hf (fun q2 hf => ?_)
    refine j_istore_n (pc := 14) (lv' := [(2, .int q2.1), (0, .ref (ad a0)), (1, .int x1)]) dX9_read_14 rfl (by decide) rfl ?_
    refine j_aload_n (pc := 15) 1 dX9_read_15 rfl rfl ?_
    refine j_iconst (pc := 16) dX9_read_16 (v := 0) (by decide) ?_
    refine j_putI (pc := 17) dX9_read_17 fl852 fp9_6 k0 (by decide) rfl hf (fun m3 hf => ?_)
    refine j_iconst (pc := 20) dX9_read_20 (v := 0) (by decide) ?_
    refine j_istore_n (pc := 21) (lv' := [(3, .int 0), (2, .int q2.1), (0, .ref (ad a0)), (1, .int x1)]) dX9_read_21 rfl (by decide) rfl ?_
    refine j_sub [2, 1, 0] rfl ?_
    exact t_X9_read_22 hdp  1000 k0 hf
  · refine j_iconst (pc := 7) dX9_read_7 (v := -1) (by decide) ?_
    exact j_iret (pc := 8) dX9_read_8 rfl hf
