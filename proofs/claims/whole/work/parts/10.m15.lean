def f_X9_cell (a0 : Nat) (x1 : Int32) (x2 : Int32) (h : Hp) : Option (Int32 × Hp) := (f_X9_isWard x1 h).bind (fun q1 => if q1.1 = 0 then (some ((-1), q1.2)) else ((f_X9_isParty x2 q1.2).bind (fun q2 => if q2.1 = 0 then (some ((-1), q2.2)) else ((f_X9_solves a0 q2.2).bind (fun q3 => if 0 ≤ q3.1 then (if ix ((6 * x1) + x2) 24 = true then (some (q3.2.1 (a0 + 23) (Int32.toNatClampNeg ((6 * x1) + x2)), q3.2)) else none) else (some (q3.1, q3.2)))))))
set_option maxHeartbeats 4000000 in
set_option maxRecDepth 100000 in
theorem t_X9_cell {l : Launch} {D : va_G} {ad : Nat → Nat} {cA : Nat → ClassId} {d : Nat} (hdp : 24 ≤ d) {a0 : Nat} {x1 : Int32} {x2 : Int32} (k0 : kd a0 = 9) {h : Hp} {o : Int32 × Hp} (hf : f_X9_cell a0 x1 x2 h = some o) : Cr l D ad cA d yX9_cell cX9_cell 4 (some .int) [.ref (ad a0), .int x1, .int x2] h (some (.int o.1)) o.2 := by
  obtain ⟨d, rfl⟩ : ∃ e, d = e + 1 := ⟨d - 1, by omega⟩
  have hdp : 23 ≤ d := by omega
  unfold f_X9_cell at hf
  refine Cr_of (by decide +kernel) rfl (Nat.le_of_ble_eq_true rfl) (lv0 := [(0, .ref (ad a0)), (1, .int x1), (2, .int x2)]) rfl ?_
  refine j_iload_n (pc := 0) 1 dX9_cell_0 rfl rfl ?_
  refine j_callSi (pc := 1) (d := d) (As := [.int x1]) (st := []) dX9_cell_1 s978 rfl rfl (by decide) (Nat.le_of_ble_eq_true rfl) (fun q hq => t_X9_isWard (by omega)  hq) hf (fun q1 hf => ?_)
  refine j_if_eq (pc := 4) (tgt := 14) dX9_cell_4 (by decide) hf (fun _ hf => ?_) (fun _ hf => ?_)
  · refine j_iconst (pc := 14) dX9_cell_14 (v := -1) (by decide) ?_
    exact j_iret (pc := 15) dX9_cell_15 rfl hf
  · refine j_iload_n (pc := 7) 2 dX9_cell_7 rfl rfl ?_
    refine j_callSi (pc := 8) (d := d) (As := [.int x2]) (st := []) dX9_cell_8 s985 rfl rfl (by decide) (Nat.le_of_ble_eq_true rfl) (fun q hq => t_X9_isParty (by omega)  hq) hf (fun q2 hf => ?_)
    refine j_if_ne (pc := 11) (tgt := 16) dX9_cell_11 (by decide) hf (fun _ hf => ?_) (fun _ hf => ?_)
    · refine j_aload_n (pc := 16) 0 dX9_cell_16 rfl rfl ?_
      refine j_callVi (pc := 17) (d := d) (As := []) (st := []) dX9_cell_17 s1259 k0 (by decide) rfl rfl (by decide) (Nat.le_of_ble_eq_true rfl) (fun q hq => t_X9_solves (by omega) k0 hq) hf (fun q3 hf => ?_)
      refine j_istore_n (pc := 20) (lv' := [(3, .int q3.1), (0, .ref (ad a0)), (1, .int x1), (2, .int x2)]) dX9_cell_20 rfl (by decide) rfl ?_
      refine j_iload_n (pc := 21) 0 dX9_cell_21 rfl rfl ?_
      refine j_if_ge (pc := 22) (tgt := 29) dX9_cell_22 (by decide) hf (fun _ hf => ?_) (fun _ hf => ?_)
      · refine j_aload_n (pc := 29) 1 dX9_cell_29 rfl rfl ?_
        refine j_getR (pc := 30) (n := 23) dX9_cell_30 fl880 k0 (by decide) rfl ?_
        refine j_bipush (pc := 33) dX9_cell_33 (v := 6) (by decide) ?_
        refine j_iload_n (pc := 35) 2 dX9_cell_35 rfl rfl ?_
        refine j_imul (pc := 36) dX9_cell_36  ?_
        refine j_iload_n (pc := 37) 3 dX9_cell_37 rfl rfl ?_
        refine j_iadd (pc := 38) dX9_cell_38  ?_
        refine j_iaload (pc := 39) dX9_cell_39 (lk_9_34 k0) (ll_9_34 k0) hf (fun _ hf => ?_)
        exact j_iret (pc := 40) dX9_cell_40 rfl hf
      · refine j_iload_n (pc := 25) 0 dX9_cell_25 rfl rfl ?_
        refine j_goto (pc := 26) (tgt := 40) dX9_cell_26 (by decide) ?_
        exact j_iret (pc := 40) dX9_cell_40 rfl hf
    · refine j_iconst (pc := 14) dX9_cell_14 (v := -1) (by decide) ?_
      exact j_iret (pc := 15) dX9_cell_15 rfl hf
def f_X9_lay_87  (x4 : Int32) (h : Hp) : Option (Int32 × Hp) := if x4 = 24 then (some (24, h)) else (some ((-13), h))
set_option maxHeartbeats 4000000 in
set_option maxRecDepth 100000 in
theorem t_X9_lay_87 {l : Launch} {D : va_G} {ad : Nat → Nat} {cA : Nat → ClassId} {d : Nat} (hdp : 23 ≤ d) {o : Int32 × Hp}  {x4 : Int32}  {h : Hp} (hf : f_X9_lay_87  x4 h = some o) : J l D ad cA (fun _ => True) (rmd (d + 1)) (0, 0) (mQ D ad cA (some (.int o.1)) o.2) cX9_lay RX9 5 (some .int) 87 [(4, .int x4)] [] h := by
  unfold f_X9_lay_87 at hf
  refine j_iload (pc := 87) 0 dX9_lay_87 rfl ?_
  refine j_bipush (pc := 89) dX9_lay_89 (v := 24) (by decide) ?_
  refine j_icmp_ne (pc := 91) (tgt := 99) dX9_lay_91 (by decide) hf (fun _ hf => ?_) (fun _ hf => ?_)
  · refine j_bipush (pc := 99) dX9_lay_99 (v := -13) (by decide) ?_
    exact j_iret (pc := 101) dX9_lay_101 rfl hf
  · refine j_bipush (pc := 94) dX9_lay_94 (v := 24) (by decide) ?_
    refine j_goto (pc := 96) (tgt := 101) dX9_lay_96 (by decide) ?_
    exact j_iret (pc := 101) dX9_lay_101 rfl hf
def f_X9_lay_36 (k36 : Nat → Int32 → Int32 → Int32 → Hp → Option (Int32 × Hp)) (a0 : Nat) (x1 : Int32) (x2 : Int32) (x4 : Int32) (h : Hp) : Option (Int32 × Hp) := if 24 ≤ x4 then (f_X9_lay_87  x4 h) else (if x2 < 0 then (f_X9_lay_87  x4 h) else (if ix x1 4 = true then (if ((h.1 (a0 + 27) (Int32.toNatClampNeg x1)) - x4) ≤ x2 then (f_X9_lay_87  x4 h) else (if ix x4 24 = true then (if ix (((40 * x1) + x2) + x4) 160 = true then (lt (sI h (a0 + 26) (Int32.toNatClampNeg (((40 * x1) + x2) + x4)) (h.1 (a0 + 23) (Int32.toNatClampNeg x4))) (fun m3 => lt (x4 + 1) (fun v4 => k36 a0 x1 x2 v4 m3))) else none) else none)) else none))
set_option maxHeartbeats 4000000 in
set_option maxRecDepth 100000 in
theorem t_X9_lay_36 {l : Launch} {D : va_G} {ad : Nat → Nat} {cA : Nat → ClassId} {d : Nat} (hdp : 23 ≤ d) {o : Int32 × Hp}  : ∀ (n : Nat) {a0 : Nat} {x1 : Int32} {x2 : Int32} {x4 : Int32} (k0 : kd a0 = 9) {h : Hp}, lp (F := Nat → Int32 → Int32 → Int32 → Hp → Option (Int32 × Hp)) (fun _ _ _ _ _ => none) (f_X9_lay_36) n a0 x1 x2 x4 h = some o → J l D ad cA (fun _ => True) (rmd (d + 1)) (0, 0) (mQ D ad cA (some (.int o.1)) o.2) cX9_lay RX9 5 (some .int) 36 [(0, .ref (ad a0)), (1, .int x1), (2, .int x2), (4, .int x4)] [] h := by
  intro n
  induction n with
  | zero =>
    intro a0 x1 x2 x4 k0 h hf
    have hf : (none : Option (Int32 × Hp)) = some o := hf
    cases hf
  | succ n hk36 =>
    intro a0 x1 x2 x4 k0 h hf
    have hf : f_X9_lay_36  (lp (F := Nat → Int32 → Int32 → Int32 → Hp → Option (Int32 × Hp)) (fun _ _ _ _ _ => none) (f_X9_lay_36) n) a0 x1 x2 x4 h = some o := hf
    unfold f_X9_lay_36 at hf
    refine j_iload (pc := 36) 3 dX9_lay_36 rfl ?_
    refine j_bipush (pc := 38) dX9_lay_38 (v := 24) (by decide) ?_
    refine j_icmp_ge (pc := 40) (tgt := 87) dX9_lay_40 (by decide) hf (fun _ hf => ?_) (fun _ hf => ?_)
    · refine j_sub [3] rfl ?_
      exact t_X9_lay_87 hdp   hf
    · refine j_iload_n (pc := 43) 2 dX9_lay_43 rfl rfl ?_
      refine j_if_lt (pc := 44) (tgt := 87) dX9_lay_44 (by decide) hf (fun _ hf => ?_) (fun _ hf => ?_)
      · refine j_sub [3] rfl ?_
        exact t_X9_lay_87 hdp   hf
      · refine j_iload_n (pc := 47) 2 dX9_lay_47 rfl rfl ?_
        refine j_aload_n (pc := 48) 0 dX9_lay_48 rfl rfl ?_
        refine j_getR (pc := 49) (n := 27) dX9_lay_49 fl886 k0 (by decide) rfl ?_
        refine j_iload_n (pc := 52) 1 dX9_lay_52 rfl rfl ?_
        refine j_iaload (pc := 53) dX9_lay_53 (lk_9_40 k0) (ll_9_40 k0) hf (fun _ hf => ?_)
        refine j_iload (pc := 54) 3 dX9_lay_54 rfl ?_
        refine j_isub (pc := 56) dX9_lay_56  ?_
        refine j_icmp_ge (pc := 57) (tgt := 87) dX9_lay_57 (by decide) hf (fun _ hf => ?_) (fun _ hf => ?_)
        · refine j_sub [3] rfl ?_
          exact t_X9_lay_87 hdp   hf
        · refine j_aload_n (pc := 60) 0 dX9_lay_60 rfl rfl ?_
          refine j_getR (pc := 61) (n := 26) dX9_lay_61 fl885 k0 (by decide) rfl ?_
          refine j_bipush (pc := 64) dX9_lay_64 (v := 40) (by decide) ?_
          refine j_iload_n (pc := 66) 1 dX9_lay_66 rfl rfl ?_
          refine j_imul (pc := 67) dX9_lay_67  ?_
          refine j_iload_n (pc := 68) 2 dX9_lay_68 rfl rfl ?_
          refine j_iadd (pc := 69) dX9_lay_69  ?_
          refine j_iload (pc := 70) 3 dX9_lay_70 rfl ?_
          refine j_iadd (pc := 72) dX9_lay_72  ?_
          refine j_aload_n (pc := 73) 0 dX9_lay_73 rfl rfl ?_
          refine j_getR (pc := 74) (n := 23) dX9_lay_74 fl880 k0 (by decide) rfl ?_
          refine j_iload (pc := 77) 3 dX9_lay_77 rfl ?_
          refine j_iaload (pc := 79) dX9_lay_79 (lk_9_34 k0) (ll_9_34 k0) hf (fun _ hf => ?_)
          refine j_iastore (pc := 80) dX9_lay_80 (lk_9_39 k0) (ll_9_39 k0) hf (fun m3 hf => ?_)
          refine j_iinc (pc := 81) 3 (c := 1) (lv' := fun v4 => [(4, .int v4), (0, .ref (ad a0)), (1, .int x1), (2, .int x2)]) dX9_lay_81 rfl (by decide) (by decide) (fun _ => rfl) hf (fun v4 hf => ?_)
          refine j_goto (pc := 84) (tgt := 36) dX9_lay_84 (by decide) ?_
          refine j_sub [1, 2, 3, 0] rfl ?_
          exact hk36 k0 hf
def f_X9_lay (a0 : Nat) (x1 : Int32) (x2 : Int32) (h : Hp) : Option (Int32 × Hp) := (f_X9_isRow x1 h).bind (fun q1 => if q1.1 = 0 then (some ((-1), q1.2)) else (if ix x1 4 = true then (if (q1.2.1 (a0 + 27) (Int32.toNatClampNeg x1)) = ((-1)) then (some ((-11), q1.2)) else ((f_X9_solves a0 q1.2).bind (fun q2 => if 0 ≤ q2.1 then (lp (F := Nat → Int32 → Int32 → Int32 → Hp → Option (Int32 × Hp)) (fun _ _ _ _ _ => none) (f_X9_lay_36) 1000 a0 x1 x2 0 q2.2) else (some (q2.1, q2.2))))) else none))
set_option maxHeartbeats 4000000 in
set_option maxRecDepth 100000 in
theorem t_X9_lay {l : Launch} {D : va_G} {ad : Nat → Nat} {cA : Nat → ClassId} {d : Nat} (hdp : 24 ≤ d) {a0 : Nat} {x1 : Int32} {x2 : Int32} (k0 : kd a0 = 9) {h : Hp} {o : Int32 × Hp} (hf : f_X9_lay a0 x1 x2 h = some o) : Cr l D ad cA d yX9_lay cX9_lay 5 (some .int) [.ref (ad a0), .int x1, .int x2] h (some (.int o.1)) o.2 := by
  obtain ⟨d, rfl⟩ : ∃ e, d = e + 1 := ⟨d - 1, by omega⟩
  have hdp : 23 ≤ d := by omega
  unfold f_X9_lay at hf
  refine Cr_of (by decide +kernel) rfl (Nat.le_of_ble_eq_true rfl) (lv0 := [(0, .ref (ad a0)), (1, .int x1), (2, .int x2)]) rfl ?_
  refine j_iload_n (pc := 0) 1 dX9_lay_0 rfl rfl ?_
  refine j_callSi (pc := 1) (d := d) (As := [.int x1]) (st := []) dX9_lay_1 s1337 rfl rfl (by decide) (Nat.le_of_ble_eq_true rfl) (fun q hq => t_X9_isRow (by omega)  hq) hf (fun q1 hf => ?_)
  refine j_if_ne (pc := 4) (tgt := 9) dX9_lay_4 (by decide) hf (fun _ hf => ?_) (fun _ hf => ?_)
  · refine j_aload_n (pc := 9) 0 dX9_lay_9 rfl rfl ?_
    refine j_getR (pc := 10) (n := 27) dX9_lay_10 fl886 k0 (by decide) rfl ?_
    refine j_iload_n (pc := 13) 1 dX9_lay_13 rfl rfl ?_
    refine j_iaload (pc := 14) dX9_lay_14 (lk_9_40 k0) (ll_9_40 k0) hf (fun _ hf => ?_)
    refine j_iconst (pc := 15) dX9_lay_15 (v := -1) (by decide) ?_
    refine j_icmp_ne (pc := 16) (tgt := 22) dX9_lay_16 (by decide) hf (fun _ hf => ?_) (fun _ hf => ?_)
    · refine j_aload_n (pc := 22) 0 dX9_lay_22 rfl rfl ?_
      refine j_callVi (pc := 23) (d := d) (As := []) (st := []) dX9_lay_23 s1259 k0 (by decide) rfl rfl (by decide) (Nat.le_of_ble_eq_true rfl) (fun q hq => t_X9_solves (by omega) k0 hq) hf (fun q2 hf => ?_)
      refine j_istore_n (pc := 26) (lv' := [(3, .int q2.1), (0, .ref (ad a0)), (1, .int x1), (2, .int x2)]) dX9_lay_26 rfl (by decide) rfl ?_
      refine j_iload_n (pc := 27) 0 dX9_lay_27 rfl rfl ?_
      refine j_if_ge (pc := 28) (tgt := 33) dX9_lay_28 (by decide) hf (fun _ hf => ?_) (fun _ hf => ?_)
      · refine j_iconst (pc := 33) dX9_lay_33 (v := 0) (by decide) ?_
        refine j_istore (pc := 34) (lv' := [(4, .int 0), (3, .int q2.1), (0, .ref (ad a0)), (1, .int x1), (2, .int x2)]) dX9_lay_34 (by decide) rfl ?_
        refine j_sub [2, 3, 4, 0] rfl ?_
        exact t_X9_lay_36 hdp  1000 k0 hf
      · refine j_iload_n (pc := 31) 0 dX9_lay_31 rfl rfl ?_
        exact j_iret (pc := 32) dX9_lay_32 rfl hf
    · refine j_bipush (pc := 19) dX9_lay_19 (v := -11) (by decide) ?_
      exact j_iret (pc := 21) dX9_lay_21 rfl hf
  · refine j_iconst (pc := 7) dX9_lay_7 (v := -1) (by decide) ?_
    exact j_iret (pc := 8) dX9_lay_8 rfl hf
def f_X9_moved_154 (k15 : Nat → Int32 → Int32 → Hp → Option (Int32 × Hp)) (a0 : Nat) (x2 : Int32) (x3 : Int32) (h : Hp) : Option (Int32 × Hp) := lt (x3 + 1) (fun v11 => k15 a0 x2 v11 h)
set_option maxHeartbeats 4000000 in
set_option maxRecDepth 100000 in
theorem t_X9_moved_154 {l : Launch} {D : va_G} {ad : Nat → Nat} {cA : Nat → ClassId} {d : Nat} (hdp : 23 ≤ d) {o : Int32 × Hp} {k15 : Nat → Int32 → Int32 → Hp → Option (Int32 × Hp)} (hk15 : ∀ {a0 : Nat} {x2 : Int32} {x3 : Int32} (k0 : kd a0 = 9) {h : Hp}, k15 a0 x2 x3 h = some o → J l D ad cA (fun _ => True) (rmd (d + 1)) (0, 0) (mQ D ad cA (some (.int o.1)) o.2) cX9_moved RX9 5 (some .int) 15 [(0, .ref (ad a0)), (2, .int x2), (3, .int x3)] [] h) {a0 : Nat} {x2 : Int32} {x3 : Int32} (k0 : kd a0 = 9) {h : Hp} (hf : f_X9_moved_154 k15 a0 x2 x3 h = some o) : J l D ad cA (fun _ => True) (rmd (d + 1)) (0, 0) (mQ D ad cA (some (.int o.1)) o.2) cX9_moved RX9 5 (some .int) 154 [(0, .ref (ad a0)), (2, .int x2), (3, .int x3)] [] h := by
  unfold f_X9_moved_154 at hf
  refine j_iinc (pc := 154) 2 (c := 1) (lv' := fun v11 => [(3, .int v11), (0, .ref (ad a0)), (2, .int x2)]) dX9_moved_154 rfl (by decide) (by decide) (fun _ => rfl) hf (fun v11 hf => ?_)
  refine j_goto (pc := 157) (tgt := 15) dX9_moved_157 (by decide) ?_
  refine j_sub [1, 2, 0] rfl ?_
  exact hk15 k0 hf
def f_X9_moved_142 (k15 : Nat → Int32 → Int32 → Hp → Option (Int32 × Hp)) (k93 : Nat → Int32 → Int32 → Int32 → Hp → Option (Int32 × Hp)) (a0 : Nat) (x3 : Int32) (x4 : Int32) (y0 : Int32) (y1 : Int32) (y2 : Int32) (h : Hp) : Option (Int32 × Hp) := lt (y2 + (if 0 ≤ (y1 - y0) then (y1 - y0) else 0 - (y1 - y0))) (fun v12 => lt (x4 + 1) (fun v13 => k93 a0 v12 x3 v13 h))
set_option maxHeartbeats 4000000 in
set_option maxRecDepth 100000 in
theorem t_X9_moved_142 {l : Launch} {D : va_G} {ad : Nat → Nat} {cA : Nat → ClassId} {d : Nat} (hdp : 23 ≤ d) {o : Int32 × Hp} {k15 : Nat → Int32 → Int32 → Hp → Option (Int32 × Hp)} (hk15 : ∀ {a0 : Nat} {x2 : Int32} {x3 : Int32} (k0 : kd a0 = 9) {h : Hp}, k15 a0 x2 x3 h = some o → J l D ad cA (fun _ => True) (rmd (d + 1)) (0, 0) (mQ D ad cA (some (.int o.1)) o.2) cX9_moved RX9 5 (some .int) 15 [(0, .ref (ad a0)), (2, .int x2), (3, .int x3)] [] h) {k93 : Nat → Int32 → Int32 → Int32 → Hp → Option (Int32 × Hp)} (hk93 : ∀ {a0 : Nat} {x2 : Int32} {x3 : Int32} {x4 : Int32} (k0 : kd a0 = 9) {h : Hp}, k93 a0 x2 x3 x4 h = some o → J l D ad cA (fun _ => True) (rmd (d + 1)) (0, 0) (mQ D ad cA (some (.int o.1)) o.2) cX9_moved RX9 5 (some .int) 93 [(0, .ref (ad a0)), (2, .int x2), (3, .int x3), (4, .int x4)] [] h) {a0 : Nat} {x3 : Int32} {x4 : Int32} {y0 : Int32} {y1 : Int32} {y2 : Int32} (k0 : kd a0 = 9) {h : Hp} (hf : f_X9_moved_142 k15 k93 a0 x3 x4 y0 y1 y2 h = some o) : J l D ad cA (fun _ => True) (rmd (d + 1)) (0, 0) (mQ D ad cA (some (.int o.1)) o.2) cX9_moved RX9 5 (some .int) 142 [(0, .ref (ad a0)), (3, .int x3), (4, .int x4)] [.int y0, .int y1, .int y2] h := by
  unfold f_X9_moved_142 at hf
  refine j_isub (pc := 142) dX9_moved_142  ?_
  refine j_mabs (pc := 143) dX9_moved_143 w_1198 w_mabs_s w_math w_mabs_c (Nat.le_of_ble_eq_true rfl) ?_
  refine j_iadd (pc := 146) dX9_moved_146  ?_
  refine j_istore_nN (pc := 147) (lv' := fun v12 => [(2, .int v12), (0, .ref (ad a0)), (3, .int x3), (4, .int x4)]) dX9_moved_147 rfl (by decide) (fun _ => rfl) hf (fun v12 hf => ?_)
  refine j_iinc (pc := 148) 3 (c := 1) (lv' := fun v13 => [(4, .int v13), (2, .int v12), (0, .ref (ad a0)), (3, .int x3)]) dX9_moved_148 rfl (by decide) (by decide) (fun _ => rfl) hf (fun v13 hf => ?_)
  refine j_goto (pc := 151) (tgt := 93) dX9_moved_151 (by decide) ?_
  refine j_sub [2, 1, 3, 0] rfl ?_
  exact hk93 k0 hf
def f_X9_moved_93 (k15 : Nat → Int32 → Int32 → Hp → Option (Int32 × Hp)) (k93 : Nat → Int32 → Int32 → Int32 → Hp → Option (Int32 × Hp)) (a0 : Nat) (x2 : Int32) (x3 : Int32) (x4 : Int32) (h : Hp) : Option (Int32 × Hp) := if 6 ≤ x4 then (f_X9_moved_154 k15 a0 x2 x3 h) else ((f_X9_seatsOf a0 x3 h).bind (fun q10 => if q10.1 ≤ 0 then (f_X9_moved_154 k15 a0 x2 x3 q10.2) else (if ix ((6 * x3) + x4) 24 = true then (if ix x4 6 = true then (if (q10.2.1 (a0 + 5) (Int32.toNatClampNeg x4)) = 0 then (f_X9_moved_142 k15 k93 a0 x3 x4 0 (q10.2.1 (a0 + 23) (Int32.toNatClampNeg ((6 * x3) + x4))) x2 q10.2) else (if ix x4 6 = true then (f_X9_moved_142 k15 k93 a0 x3 x4 (q10.2.1 (a0 + 8) (Int32.toNatClampNeg x4)) (q10.2.1 (a0 + 23) (Int32.toNatClampNeg ((6 * x3) + x4))) x2 q10.2) else none)) else none) else none)))
set_option maxHeartbeats 4000000 in
set_option maxRecDepth 100000 in
theorem t_X9_moved_93 {l : Launch} {D : va_G} {ad : Nat → Nat} {cA : Nat → ClassId} {d : Nat} (hdp : 23 ≤ d) {o : Int32 × Hp} {k15 : Nat → Int32 → Int32 → Hp → Option (Int32 × Hp)} (hk15 : ∀ {a0 : Nat} {x2 : Int32} {x3 : Int32} (k0 : kd a0 = 9) {h : Hp}, k15 a0 x2 x3 h = some o → J l D ad cA (fun _ => True) (rmd (d + 1)) (0, 0) (mQ D ad cA (some (.int o.1)) o.2) cX9_moved RX9 5 (some .int) 15 [(0, .ref (ad a0)), (2, .int x2), (3, .int x3)] [] h) : ∀ (n : Nat) {a0 : Nat} {x2 : Int32} {x3 : Int32} {x4 : Int32} (k0 : kd a0 = 9) {h : Hp}, lp (F := Nat → Int32 → Int32 → Int32 → Hp → Option (Int32 × Hp)) (fun _ _ _ _ _ => none) (f_X9_moved_93 k15) n a0 x2 x3 x4 h = some o → J l D ad cA (fun _ => True) (rmd (d + 1)) (0, 0) (mQ D ad cA (some (.int o.1)) o.2) cX9_moved RX9 5 (some .int) 93 [(0, .ref (ad a0)), (2, .int x2), (3, .int x3), (4, .int x4)] [] h := by
  intro n
  induction n with
  | zero =>
    intro a0 x2 x3 x4 k0 h hf
    have hf : (none : Option (Int32 × Hp)) = some o := hf
    cases hf
  | succ n hk93 =>
    intro a0 x2 x3 x4 k0 h hf
    have hf : f_X9_moved_93 k15 (lp (F := Nat → Int32 → Int32 → Int32 → Hp → Option (Int32 × Hp)) (fun _ _ _ _ _ => none) (f_X9_moved_93 k15) n) a0 x2 x3 x4 h = some o := hf
    unfold f_X9_moved_93 at hf
    refine j_iload (pc := 93) 3 dX9_moved_93 rfl ?_
    refine j_bipush (pc := 95) dX9_moved_95 (v := 6) (by decide) ?_
    refine j_icmp_ge (pc := 97) (tgt := 154) dX9_moved_97 (by decide) hf (fun _ hf => ?_) (fun _ hf => ?_)
    · refine j_sub [0, 1, 2] rfl ?_
      exact t_X9_moved_154 hdp hk15 k0 hf
    · refine j_aload_n (pc := 100) 0 dX9_moved_100 rfl rfl ?_
      refine j_iload_n (pc := 101) 2 dX9_moved_101 rfl rfl ?_
      refine j_callVi (pc := 102) (d := d) (As := [.int x3]) (st := []) dX9_moved_102 s1275 k0 (by decide) rfl rfl (by decide) (Nat.le_of_ble_eq_true rfl) (fun q hq => t_X9_seatsOf k0 hq) hf (fun q10 hf => ?_)
      refine j_if_le (pc := 105) (tgt := 154) dX9_moved_105 (by decide) hf (fun _ hf => ?_) (fun _ hf => ?_)
      · refine j_sub [0, 1, 2] rfl ?_
        exact t_X9_moved_154 hdp hk15 k0 hf
      · refine j_iload_n (pc := 108) 1 dX9_moved_108 rfl rfl ?_
        refine j_aload_n (pc := 109) 0 dX9_moved_109 rfl rfl ?_
        refine j_getR (pc := 110) (n := 23) dX9_moved_110 fl880 k0 (by decide) rfl ?_
        refine j_bipush (pc := 113) dX9_moved_113 (v := 6) (by decide) ?_
        refine j_iload_n (pc := 115) 2 dX9_moved_115 rfl rfl ?_
        refine j_imul (pc := 116) dX9_moved_116  ?_
        refine j_iload (pc := 117) 3 dX9_moved_117 rfl ?_
        refine j_iadd (pc := 119) dX9_moved_119  ?_
        refine j_iaload (pc := 120) dX9_moved_120 (lk_9_34 k0) (ll_9_34 k0) hf (fun _ hf => ?_)
        refine j_aload_n (pc := 121) 0 dX9_moved_121 rfl rfl ?_
        refine j_getR (pc := 122) (n := 5) dX9_moved_122 fl855 k0 (by decide) rfl ?_
        refine j_iload (pc := 125) 3 dX9_moved_125 rfl ?_
        refine j_zaload (pc := 127) dX9_moved_127 (lk_9_9 k0) (ll_9_9 k0) hf (fun _ hf => ?_)
        refine j_if_eq (pc := 128) (tgt := 141) dX9_moved_128 (by decide) hf (fun _ hf => ?_) (fun _ hf => ?_)
        · refine j_iconst (pc := 141) dX9_moved_141 (v := 0) (by decide) ?_
          refine j_sub [0, 2, 3] rfl ?_
          exact t_X9_moved_142 hdp hk15 hk93 k0 hf
        · refine j_aload_n (pc := 131) 0 dX9_moved_131 rfl rfl ?_
          refine j_getR (pc := 132) (n := 8) dX9_moved_132 fl858 k0 (by decide) rfl ?_
          refine j_iload (pc := 135) 3 dX9_moved_135 rfl ?_
          refine j_iaload (pc := 137) dX9_moved_137 (lk_9_12 k0) (ll_9_12 k0) hf (fun _ hf => ?_)
          refine j_goto (pc := 138) (tgt := 142) dX9_moved_138 (by decide) ?_
          refine j_sub [0, 2, 3] rfl ?_
          exact t_X9_moved_142 hdp hk15 hk93 k0 hf
def f_X9_moved_90 (k15 : Nat → Int32 → Int32 → Hp → Option (Int32 × Hp)) (a0 : Nat) (x2 : Int32) (x3 : Int32) (h : Hp) : Option (Int32 × Hp) := lp (F := Nat → Int32 → Int32 → Int32 → Hp → Option (Int32 × Hp)) (fun _ _ _ _ _ => none) (f_X9_moved_93 k15) 1000 a0 x2 x3 0 h
set_option maxHeartbeats 4000000 in
set_option maxRecDepth 100000 in
theorem t_X9_moved_90 {l : Launch} {D : va_G} {ad : Nat → Nat} {cA : Nat → ClassId} {d : Nat} (hdp : 23 ≤ d) {o : Int32 × Hp} {k15 : Nat → Int32 → Int32 → Hp → Option (Int32 × Hp)} (hk15 : ∀ {a0 : Nat} {x2 : Int32} {x3 : Int32} (k0 : kd a0 = 9) {h : Hp}, k15 a0 x2 x3 h = some o → J l D ad cA (fun _ => True) (rmd (d + 1)) (0, 0) (mQ D ad cA (some (.int o.1)) o.2) cX9_moved RX9 5 (some .int) 15 [(0, .ref (ad a0)), (2, .int x2), (3, .int x3)] [] h) {a0 : Nat} {x2 : Int32} {x3 : Int32} (k0 : kd a0 = 9) {h : Hp} (hf : f_X9_moved_90 k15 a0 x2 x3 h = some o) : J l D ad cA (fun _ => True) (rmd (d + 1)) (0, 0) (mQ D ad cA (some (.int o.1)) o.2) cX9_moved RX9 5 (some .int) 90 [(0, .ref (ad a0)), (2, .int x2), (3, .int x3)] [] h := by
  unfold f_X9_moved_90 at hf
  refine j_iconst (pc := 90) dX9_moved_90 (v := 0) (by decide) ?_
  refine j_istore (pc := 91) (lv' := [(4, .int 0), (0, .ref (ad a0)), (2, .int x2), (3, .int x3)]) dX9_moved_91 (by decide) rfl ?_
  refine j_sub [1, 2, 3, 0] rfl ?_
  exact t_X9_moved_93 hdp hk15 1000 k0 hf
def f_X9_moved_57 (k15 : Nat → Int32 → Int32 → Hp → Option (Int32 × Hp)) (k27 : Nat → Int32 → Int32 → Int32 → Hp → Option (Int32 × Hp)) (a0 : Nat) (x2 : Int32) (x3 : Int32) (x4 : Int32) (h : Hp) : Option (Int32 × Hp) := lt (x4 + 1) (fun v14 => k27 a0 x2 x3 v14 h)
set_option maxHeartbeats 4000000 in
set_option maxRecDepth 100000 in
theorem t_X9_moved_57 {l : Launch} {D : va_G} {ad : Nat → Nat} {cA : Nat → ClassId} {d : Nat} (hdp : 23 ≤ d) {o : Int32 × Hp} {k15 : Nat → Int32 → Int32 → Hp → Option (Int32 × Hp)} (hk15 : ∀ {a0 : Nat} {x2 : Int32} {x3 : Int32} (k0 : kd a0 = 9) {h : Hp}, k15 a0 x2 x3 h = some o → J l D ad cA (fun _ => True) (rmd (d + 1)) (0, 0) (mQ D ad cA (some (.int o.1)) o.2) cX9_moved RX9 5 (some .int) 15 [(0, .ref (ad a0)), (2, .int x2), (3, .int x3)] [] h) {k27 : Nat → Int32 → Int32 → Int32 → Hp → Option (Int32 × Hp)} (hk27 : ∀ {a0 : Nat} {x2 : Int32} {x3 : Int32} {x4 : Int32} (k0 : kd a0 = 9) {h : Hp}, k27 a0 x2 x3 x4 h = some o → J l D ad cA (fun _ => True) (rmd (d + 1)) (0, 0) (mQ D ad cA (some (.int o.1)) o.2) cX9_moved RX9 5 (some .int) 27 [(0, .ref (ad a0)), (2, .int x2), (3, .int x3), (4, .int x4)] [] h) {a0 : Nat} {x2 : Int32} {x3 : Int32} {x4 : Int32} (k0 : kd a0 = 9) {h : Hp} (hf : f_X9_moved_57 k15 k27 a0 x2 x3 x4 h = some o) : J l D ad cA (fun _ => True) (rmd (d + 1)) (0, 0) (mQ D ad cA (some (.int o.1)) o.2) cX9_moved RX9 5 (some .int) 57 [(0, .ref (ad a0)), (2, .int x2), (3, .int x3), (4, .int x4)] [] h := by
  unfold f_X9_moved_57 at hf
  refine j_iinc (pc := 57) 3 (c := 1) (lv' := fun v14 => [(4, .int v14), (0, .ref (ad a0)), (2, .int x2), (3, .int x3)]) dX9_moved_57 rfl (by decide) (by decide) (fun _ => rfl) hf (fun v14 hf => ?_)
  refine j_goto (pc := 60) (tgt := 27) dX9_moved_60 (by decide) ?_
  refine j_sub [1, 2, 3, 0] rfl ?_
  exact hk27 k0 hf
def f_X9_moved_27 (k15 : Nat → Int32 → Int32 → Hp → Option (Int32 × Hp)) (k27 : Nat → Int32 → Int32 → Int32 → Hp → Option (Int32 × Hp)) (a0 : Nat) (x2 : Int32) (x3 : Int32) (x4 : Int32) (h : Hp) : Option (Int32 × Hp) := if 6 ≤ x4 then ((f_X9_seatsOf a0 x3 h).bind (fun q3 => if q3.1 ≤ 0 then (f_X9_moved_90 k15 a0 x2 x3 q3.2) else ((f_X9_wayNow a0 q3.2).bind (fun q4 => (f_X9_seatsOf a0 x3 q4.2).bind (fun q5 => (f_X9_gives a0 q4.1 q5.1 q5.2).bind (fun q6 => if q6.1 = 0 then (some ((-3), q6.2)) else (f_X9_moved_90 k15 a0 x2 x3 q6.2))))))) else ((f_X9_isIn a0 x4 h).bind (fun q7 => if q7.1 = 0 then (f_X9_moved_57 k15 k27 a0 x2 x3 x4 q7.2) else ((f_X9_votesOf a0 x3 x4 q7.2).bind (fun q8 => (f_X9_claims a0 x4 q8.1 0 q8.2).bind (fun q9 => f_X9_moved_57 k15 k27 a0 x2 x3 x4 q9.2)))))
set_option maxHeartbeats 4000000 in
set_option maxRecDepth 100000 in
theorem t_X9_moved_27 {l : Launch} {D : va_G} {ad : Nat → Nat} {cA : Nat → ClassId} {d : Nat} (hdp : 23 ≤ d) {o : Int32 × Hp} {k15 : Nat → Int32 → Int32 → Hp → Option (Int32 × Hp)} (hk15 : ∀ {a0 : Nat} {x2 : Int32} {x3 : Int32} (k0 : kd a0 = 9) {h : Hp}, k15 a0 x2 x3 h = some o → J l D ad cA (fun _ => True) (rmd (d + 1)) (0, 0) (mQ D ad cA (some (.int o.1)) o.2) cX9_moved RX9 5 (some .int) 15 [(0, .ref (ad a0)), (2, .int x2), (3, .int x3)] [] h) : ∀ (n : Nat) {a0 : Nat} {x2 : Int32} {x3 : Int32} {x4 : Int32} (k0 : kd a0 = 9) {h : Hp}, lp (F := Nat → Int32 → Int32 → Int32 → Hp → Option (Int32 × Hp)) (fun _ _ _ _ _ => none) (f_X9_moved_27 k15) n a0 x2 x3 x4 h = some o → J l D ad cA (fun _ => True) (rmd (d + 1)) (0, 0) (mQ D ad cA (some (.int o.1)) o.2) cX9_moved RX9 5 (some .int) 27 [(0, .ref (ad a0)), (2, .int x2), (3, .int x3), (4, .int x4)] [] h := by
  intro n
  induction n with
  | zero =>
    intro a0 x2 x3 x4 k0 h hf
    have hf : (none : Option (Int32 × Hp)) = some o := hf
    cases hf
  | succ n hk27 =>
    intro a0 x2 x3 x4 k0 h hf
    have hf : f_X9_moved_27 k15 (lp (F := Nat → Int32 → Int32 → Int32 → Hp → Option (Int32 × Hp)) (fun _ _ _ _ _ => none) (f_X9_moved_27 k15) n) a0 x2 x3 x4 h = some o := hf
    unfold f_X9_moved_27 at hf
    refine j_iload (pc := 27) 3 dX9_moved_27 rfl ?_
    refine j_bipush (pc := 29) dX9_moved_29 (v := 6) (by decide) ?_
    refine j_icmp_ge (pc := 31) (tgt := 63) dX9_moved_31 (by decide) hf (fun _ hf => ?_) (fun _ hf => ?_)
    · refine j_aload_n (pc := 63) 0 dX9_moved_63 rfl rfl ?_
      refine j_iload_n (pc := 64) 2 dX9_moved_64 rfl rfl ?_
      refine j_callVi (pc := 65) (d := d) (As := [.int x3]) (st := []) dX9_moved_65 s1275 k0 (by decide) rfl rfl (by decide) (Nat.le_of_ble_eq_true rfl) (fun q hq => t_X9_seatsOf k0 hq) hf (fun q3 hf => ?_)
      refine j_if_le (pc := 68) (tgt := 90) dX9_moved_68 (by decide) hf (fun _ hf => ?_) (fun _ hf => ?_)
      · refine j_sub [0, 1, 2] rfl ?_
        exact t_X9_moved_90 hdp hk15 k0 hf
      · refine j_aload_n (pc := 71) 0 dX9_moved_71 rfl rfl ?_
        refine j_aload_n (pc := 72) 0 dX9_moved_72 rfl rfl ?_
        refine j_callVi (pc := 73) (d := d) (As := []) (st := [.ref (ad a0)]) dX9_moved_73 s1079 k0 (by decide) rfl rfl (by decide) (Nat.le_of_ble_eq_true rfl) (fun q hq => t_X9_wayNow k0 hq) hf (fun q4 hf => ?_)
        refine j_aload_n (pc := 76) 0 dX9_moved_76 rfl rfl ?_
        refine j_iload_n (pc := 77) 2 dX9_moved_77 rfl rfl ?_
        refine j_callVi (pc := 78) (d := d) (As := [.int x3]) (st := [.int q4.1, .ref (ad a0)]) dX9_moved_78 s1275 k0 (by decide) rfl rfl (by decide) (Nat.le_of_ble_eq_true rfl) (fun q hq => t_X9_seatsOf k0 hq) hf (fun q5 hf => ?_)
        refine j_callVi (pc := 81) (d := d) (As := [.int q4.1, .int q5.1]) (st := []) dX9_moved_81 s1138 k0 (by decide) rfl rfl (by decide) (Nat.le_of_ble_eq_true rfl) (fun q hq => t_X9_gives (by omega) k0 hq) hf (fun q6 hf => ?_)
        refine j_if_ne (pc := 84) (tgt := 90) dX9_moved_84 (by decide) hf (fun _ hf => ?_) (fun _ hf => ?_)
        · refine j_sub [0, 1, 2] rfl ?_
          exact t_X9_moved_90 hdp hk15 k0 hf
        · refine j_bipush (pc := 87) dX9_moved_87 (v := -3) (by decide) ?_
          exact j_iret (pc := 89) dX9_moved_89 rfl hf
    · refine j_aload_n (pc := 34) 0 dX9_moved_34 rfl rfl ?_
      refine j_iload (pc := 35) 3 dX9_moved_35 rfl ?_
      refine j_callVi (pc := 37) (d := d) (As := [.int x4]) (st := []) dX9_moved_37 s1106 k0 (by decide) rfl rfl (by decide) (Nat.le_of_ble_eq_true rfl) (fun q hq => t_X9_isIn (by omega) k0 hq) hf (fun q7 hf => ?_)
      refine j_if_eq (pc := 40) (tgt := 57) dX9_moved_40 (by decide) hf (fun _ hf => ?_) (fun _ hf => ?_)
      · refine j_sub [0, 1, 2, 3] rfl ?_
        exact t_X9_moved_57 hdp hk15 hk27 k0 hf
      · refine j_aload_n (pc := 43) 0 dX9_moved_43 rfl rfl ?_
        refine j_iload (pc := 44) 3 dX9_moved_44 rfl ?_
        refine j_aload_n (pc := 46) 0 dX9_moved_46 rfl rfl ?_
        refine j_iload_n (pc := 47) 2 dX9_moved_47 rfl rfl ?_
        refine j_iload (pc := 48) 3 dX9_moved_48 rfl ?_
        refine j_callVi (pc := 50) (d := d) (As := [.int x3, .int x4]) (st := [.int x4, .ref (ad a0)]) dX9_moved_50 s1006 k0 (by decide) rfl rfl (by decide) (Nat.le_of_ble_eq_true rfl) (fun q hq => t_X9_votesOf k0 hq) hf (fun q8 hf => ?_)
        refine j_iconst (pc := 53) dX9_moved_53 (v := 0) (by decide) ?_
        refine j_callVv (pc := 54) (d := d) (As := [.int x4, .int q8.1, .int 0]) (st := []) dX9_moved_54 s1134 k0 (by decide) rfl rfl (by decide) (Nat.le_of_ble_eq_true rfl) (fun q hq => t_X9_claims k0 hq) hf (fun q9 hf => ?_)
        refine j_sub [0, 1, 2, 3] rfl ?_
        exact t_X9_moved_57 hdp hk15 hk27 k0 hf
def f_X9_moved_15 (k15 : Nat → Int32 → Int32 → Hp → Option (Int32 × Hp)) (a0 : Nat) (x2 : Int32) (x3 : Int32) (h : Hp) : Option (Int32 × Hp) := if 4 ≤ x3 then (if 2 = 0 then none else (some (x2 / 2, h))) else ((f_X9_nobodyClaims a0 h).bind (fun q2 => lp (F := Nat → Int32 → Int32 → Int32 → Hp → Option (Int32 × Hp)) (fun _ _ _ _ _ => none) (f_X9_moved_27 k15) 1000 a0 x2 x3 0 q2.2))
set_option maxHeartbeats 4000000 in
set_option maxRecDepth 100000 in
theorem t_X9_moved_15 {l : Launch} {D : va_G} {ad : Nat → Nat} {cA : Nat → ClassId} {d : Nat} (hdp : 23 ≤ d) {o : Int32 × Hp}  : ∀ (n : Nat) {a0 : Nat} {x2 : Int32} {x3 : Int32} (k0 : kd a0 = 9) {h : Hp}, lp (F := Nat → Int32 → Int32 → Hp → Option (Int32 × Hp)) (fun _ _ _ _ => none) (f_X9_moved_15) n a0 x2 x3 h = some o → J l D ad cA (fun _ => True) (rmd (d + 1)) (0, 0) (mQ D ad cA (some (.int o.1)) o.2) cX9_moved RX9 5 (some .int) 15 [(0, .ref (ad a0)), (2, .int x2), (3, .int x3)] [] h := by
  intro n
  induction n with
  | zero =>
    intro a0 x2 x3 k0 h hf
    have hf : (none : Option (Int32 × Hp)) = some o := hf
    cases hf
  | succ n hk15 =>
    intro a0 x2 x3 k0 h hf
    have hf : f_X9_moved_15  (lp (F := Nat → Int32 → Int32 → Hp → Option (Int32 × Hp)) (fun _ _ _ _ => none) (f_X9_moved_15) n) a0 x2 x3 h = some o := hf
    unfold f_X9_moved_15 at hf
    refine j_iload_n (pc := 15) 2 dX9_moved_15 rfl rfl ?_
    refine j_iconst (pc := 16) dX9_moved_16 (v := 4) (by decide) ?_
    refine j_icmp_ge (pc := 17) (tgt := 160) dX9_moved_17 (by decide) hf (fun _ hf => ?_) (fun _ hf => ?_)
    · refine j_iload_n (pc := 160) 1 dX9_moved_160 rfl rfl ?_
      refine j_iconst (pc := 161) dX9_moved_161 (v := 2) (by decide) ?_
      refine j_idiv (pc := 162) dX9_moved_162 hf (fun hf => ?_)
      exact j_iret (pc := 163) dX9_moved_163 rfl hf
    · refine j_aload_n (pc := 20) 0 dX9_moved_20 rfl rfl ?_
      refine j_callVv (pc := 21) (d := d) (As := []) (st := []) dX9_moved_21 s1122 k0 (by decide) rfl rfl (by decide) (Nat.le_of_ble_eq_true rfl) (fun q hq => t_X9_nobodyClaims k0 hq) hf (fun q2 hf => ?_)
      refine j_iconst (pc := 24) dX9_moved_24 (v := 0) (by decide) ?_
      refine j_istore (pc := 25) (lv' := [(4, .int 0), (0, .ref (ad a0)), (2, .int x2), (3, .int x3)]) dX9_moved_25 (by decide) rfl ?_
      refine j_sub [1, 2, 3, 0] rfl ?_
      exact t_X9_moved_27 hdp hk15 1000 k0 hf
def f_X9_moved (a0 : Nat) (h : Hp) : Option (Int32 × Hp) := (f_X9_solves a0 h).bind (fun q1 => if 0 ≤ q1.1 then (lp (F := Nat → Int32 → Int32 → Hp → Option (Int32 × Hp)) (fun _ _ _ _ => none) (f_X9_moved_15) 1000 a0 0 0 q1.2) else (some (q1.1, q1.2)))
set_option maxHeartbeats 4000000 in
set_option maxRecDepth 100000 in
theorem t_X9_moved {l : Launch} {D : va_G} {ad : Nat → Nat} {cA : Nat → ClassId} {d : Nat} (hdp : 24 ≤ d) {a0 : Nat} (k0 : kd a0 = 9) {h : Hp} {o : Int32 × Hp} (hf : f_X9_moved a0 h = some o) : Cr l D ad cA d yX9_moved cX9_moved 5 (some .int) [.ref (ad a0)] h (some (.int o.1)) o.2 := by
  obtain ⟨d, rfl⟩ : ∃ e, d = e + 1 := ⟨d - 1, by omega⟩
  have hdp : 23 ≤ d := by omega
  unfold f_X9_moved at hf
  refine Cr_of (by decide +kernel) rfl (Nat.le_of_ble_eq_true rfl) (lv0 := [(0, .ref (ad a0))]) rfl ?_
  refine j_aload_n (pc := 0) 0 dX9_moved_0 rfl rfl ?_
  refine j_callVi (pc := 1) (d := d) (As := []) (st := []) dX9_moved_1 s1259 k0 (by decide) rfl rfl (by decide) (Nat.le_of_ble_eq_true rfl) (fun q hq => t_X9_solves (by omega) k0 hq) hf (fun q1 hf => ?_)
  refine j_istore_n (pc := 4) (lv' := [(1, .int q1.1), (0, .ref (ad a0))]) dX9_moved_4 rfl (by decide) rfl ?_
  refine j_iload_n (pc := 5) 0 dX9_moved_5 rfl rfl ?_
  refine j_if_ge (pc := 6) (tgt := 11) dX9_moved_6 (by decide) hf (fun _ hf => ?_) (fun _ hf => ?_)
  · refine j_iconst (pc := 11) dX9_moved_11 (v := 0) (by decide) ?_
    refine j_istore_n (pc := 12) (lv' := [(2, .int 0), (1, .int q1.1), (0, .ref (ad a0))]) dX9_moved_12 rfl (by decide) rfl ?_
    refine j_iconst (pc := 13) dX9_moved_13 (v := 0) (by decide) ?_
    refine j_istore_n (pc := 14) (lv' := [(3, .int 0), (2, .int 0), (1, .int q1.1), (0, .ref (ad a0))]) dX9_moved_14 rfl (by decide) rfl ?_
    refine j_sub [3, 1, 0] rfl ?_
    exact t_X9_moved_15 hdp  1000 k0 hf
  · refine j_iload_n (pc := 9) 0 dX9_moved_9 rfl rfl ?_
    exact j_iret (pc := 10) dX9_moved_10 rfl hf
def f_X9_solve (a0 : Nat) (h : Hp) : Option (Int32 × Hp) := (f_X9_solves a0 h).bind (fun q1 => some (q1.1, q1.2))
set_option maxHeartbeats 4000000 in
set_option maxRecDepth 100000 in
theorem t_X9_solve {l : Launch} {D : va_G} {ad : Nat → Nat} {cA : Nat → ClassId} {d : Nat} (hdp : 24 ≤ d) {a0 : Nat} (k0 : kd a0 = 9) {h : Hp} {o : Int32 × Hp} (hf : f_X9_solve a0 h = some o) : Cr l D ad cA d yX9_solve cX9_solve 1 (some .int) [.ref (ad a0)] h (some (.int o.1)) o.2 := by
  obtain ⟨d, rfl⟩ : ∃ e, d = e + 1 := ⟨d - 1, by omega⟩
  have hdp : 23 ≤ d := by omega
  unfold f_X9_solve at hf
  refine Cr_of (by decide +kernel) rfl (Nat.le_of_ble_eq_true rfl) (lv0 := [(0, .ref (ad a0))]) rfl ?_
  refine j_aload_n (pc := 0) 0 dX9_solve_0 rfl rfl ?_
  refine j_callVi (pc := 1) (d := d) (As := []) (st := []) dX9_solve_1 s1259 k0 (by decide) rfl rfl (by decide) (Nat.le_of_ble_eq_true rfl) (fun q hq => t_X9_solves (by omega) k0 hq) hf (fun q1 hf => ?_)
  exact j_iret (pc := 4) dX9_solve_4 rfl hf
def f_X9_spellPlan_46 (k18 : Nat → Int32 → Hp → Option (Int32 × Hp)) (a0 : Nat) (x2 : Int32) (h : Hp) : Option (Int32 × Hp) := if ix x2 24 = true then ((f_X9_writesNumber a0 (h.1 (a0 + 23) (Int32.toNatClampNeg x2)) h).bind (fun q3 => lt (x2 + 1) (fun v4 => k18 a0 v4 q3.2))) else none
set_option maxHeartbeats 4000000 in
set_option maxRecDepth 100000 in
theorem t_X9_spellPlan_46 {l : Launch} {D : va_G} {ad : Nat → Nat} {cA : Nat → ClassId} {d : Nat} (hdp : 23 ≤ d) {o : Int32 × Hp} {k18 : Nat → Int32 → Hp → Option (Int32 × Hp)} (hk18 : ∀ {a0 : Nat} {x2 : Int32} (k0 : kd a0 = 9) {h : Hp}, k18 a0 x2 h = some o → J l D ad cA (fun _ => True) (rmd (d + 1)) (0, 0) (mQ D ad cA (some (.int o.1)) o.2) cX9_spellPlan RX9 3 (some .int) 18 [(0, .ref (ad a0)), (2, .int x2)] [] h) {a0 : Nat} {x2 : Int32} (k0 : kd a0 = 9) {h : Hp} (hf : f_X9_spellPlan_46 k18 a0 x2 h = some o) : J l D ad cA (fun _ => True) (rmd (d + 1)) (0, 0) (mQ D ad cA (some (.int o.1)) o.2) cX9_spellPlan RX9 3 (some .int) 46 [(0, .ref (ad a0)), (2, .int x2)] [] h := by
  unfold f_X9_spellPlan_46 at hf
  refine j_aload_n (pc := 46) 0 dX9_spellPlan_46 rfl rfl ?_
  refine j_aload_n (pc := 47) 0 dX9_spellPlan_47 rfl rfl ?_
  refine j_getR (pc := 48) (n := 23) dX9_spellPlan_48 fl880 k0 (by decide) rfl ?_
  refine j_iload_n (pc := 51) 1 dX9_spellPlan_51 rfl rfl ?_
  refine j_iaload (pc := 52) dX9_spellPlan_52 (lk_9_34 k0) (ll_9_34 k0) hf (fun _ hf => ?_)
  refine j_callVv (pc := 53) (d := d) (As := [.int (h.1 (a0 + 23) (Int32.toNatClampNeg x2))]) (st := []) dX9_spellPlan_53 s1247 k0 (by decide) rfl rfl (by decide) (Nat.le_of_ble_eq_true rfl) (fun q hq => t_X9_writesNumber (by omega) k0 hq) hf (fun q3 hf => ?_)
  refine j_iinc (pc := 56) 1 (c := 1) (lv' := fun v4 => [(2, .int v4), (0, .ref (ad a0))]) dX9_spellPlan_56 rfl (by decide) (by decide) (fun _ => rfl) hf (fun v4 hf => ?_)
  refine j_goto (pc := 59) (tgt := 18) dX9_spellPlan_59 (by decide) ?_
  refine j_sub [1, 0] rfl ?_
  exact hk18 k0 hf
def f_X9_spellPlan_43 (k18 : Nat → Int32 → Hp → Option (Int32 × Hp)) (a0 : Nat) (x2 : Int32) (y0 : Int32) (b1 : Nat) (h : Hp) : Option (Int32 × Hp) := (f_X9_writes b1 y0 h).bind (fun q5 => f_X9_spellPlan_46 k18 a0 x2 q5.2)
set_option maxHeartbeats 4000000 in
set_option maxRecDepth 100000 in
theorem t_X9_spellPlan_43 {l : Launch} {D : va_G} {ad : Nat → Nat} {cA : Nat → ClassId} {d : Nat} (hdp : 23 ≤ d) {o : Int32 × Hp} {k18 : Nat → Int32 → Hp → Option (Int32 × Hp)} (hk18 : ∀ {a0 : Nat} {x2 : Int32} (k0 : kd a0 = 9) {h : Hp}, k18 a0 x2 h = some o → J l D ad cA (fun _ => True) (rmd (d + 1)) (0, 0) (mQ D ad cA (some (.int o.1)) o.2) cX9_spellPlan RX9 3 (some .int) 18 [(0, .ref (ad a0)), (2, .int x2)] [] h) {a0 : Nat} {x2 : Int32} {y0 : Int32} {b1 : Nat} (k0 : kd a0 = 9) (kb1 : kd b1 = 9) {h : Hp} (hf : f_X9_spellPlan_43 k18 a0 x2 y0 b1 h = some o) : J l D ad cA (fun _ => True) (rmd (d + 1)) (0, 0) (mQ D ad cA (some (.int o.1)) o.2) cX9_spellPlan RX9 3 (some .int) 43 [(0, .ref (ad a0)), (2, .int x2)] [.int y0, .ref (ad b1)] h := by
  unfold f_X9_spellPlan_43 at hf
  refine j_callVv (pc := 43) (d := d) (As := [.int y0]) (st := []) dX9_spellPlan_43 s1243 kb1 (by decide) rfl rfl (by decide) (Nat.le_of_ble_eq_true rfl) (fun q hq => t_X9_writes kb1 hq) hf (fun q5 hf => ?_)
  refine j_sub [0, 1] rfl ?_
  exact t_X9_spellPlan_46 hdp hk18 k0 hf
def f_X9_spellPlan_18 (k18 : Nat → Int32 → Hp → Option (Int32 × Hp)) (a0 : Nat) (x2 : Int32) (h : Hp) : Option (Int32 × Hp) := if 24 ≤ x2 then (some (h.1 a0 28, h)) else (if x2 ≤ 0 then (f_X9_spellPlan_46 k18 a0 x2 h) else (if 6 = 0 then none else (if (x2 - x2 / 6 * 6) = 0 then (f_X9_spellPlan_43 k18 a0 x2 47 a0 h) else (f_X9_spellPlan_43 k18 a0 x2 44 a0 h))))
set_option maxHeartbeats 4000000 in
set_option maxRecDepth 100000 in
theorem t_X9_spellPlan_18 {l : Launch} {D : va_G} {ad : Nat → Nat} {cA : Nat → ClassId} {d : Nat} (hdp : 23 ≤ d) {o : Int32 × Hp}  : ∀ (n : Nat) {a0 : Nat} {x2 : Int32} (k0 : kd a0 = 9) {h : Hp}, lp (F := Nat → Int32 → Hp → Option (Int32 × Hp)) (fun _ _ _ => none) (f_X9_spellPlan_18) n a0 x2 h = some o → J l D ad cA (fun _ => True) (rmd (d + 1)) (0, 0) (mQ D ad cA (some (.int o.1)) o.2) cX9_spellPlan RX9 3 (some .int) 18 [(0, .ref (ad a0)), (2, .int x2)] [] h := by
  intro n
  induction n with
  | zero =>
    intro a0 x2 k0 h hf
    have hf : (none : Option (Int32 × Hp)) = some o := hf
    cases hf
  | succ n hk18 =>
    intro a0 x2 k0 h hf
    have hf : f_X9_spellPlan_18  (lp (F := Nat → Int32 → Hp → Option (Int32 × Hp)) (fun _ _ _ => none) (f_X9_spellPlan_18) n) a0 x2 h = some o := hf
    unfold f_X9_spellPlan_18 at hf
    refine j_iload_n (pc := 18) 1 dX9_spellPlan_18 rfl rfl ?_
    refine j_bipush (pc := 19) dX9_spellPlan_19 (v := 24) (by decide) ?_
    refine j_icmp_ge (pc := 21) (tgt := 62) dX9_spellPlan_21 (by decide) hf (fun _ hf => ?_) (fun _ hf => ?_)
    · refine j_aload_n (pc := 62) 0 dX9_spellPlan_62 rfl rfl ?_
      refine j_getI (pc := 63) dX9_spellPlan_63 fl874 k0 (by decide) rfl ?_
      exact j_iret (pc := 66) dX9_spellPlan_66 rfl hf
    · refine j_iload_n (pc := 24) 1 dX9_spellPlan_24 rfl rfl ?_
      refine j_if_le (pc := 25) (tgt := 46) dX9_spellPlan_25 (by decide) hf (fun _ hf => ?_) (fun _ hf => ?_)
      · refine j_sub [0, 1] rfl ?_
        exact t_X9_spellPlan_46 hdp hk18 k0 hf
      · refine j_aload_n (pc := 28) 0 dX9_spellPlan_28 rfl rfl ?_
        refine j_iload_n (pc := 29) 1 dX9_spellPlan_29 rfl rfl ?_
        refine j_bipush (pc := 30) dX9_spellPlan_30 (v := 6) (by decide) ?_
        refine j_irem (pc := 32) dX9_spellPlan_32 hf (fun hf => ?_)
        refine j_if_ne (pc := 33) (tgt := 41) dX9_spellPlan_33 (by decide) hf (fun _ hf => ?_) (fun _ hf => ?_)
        · refine j_bipush (pc := 41) dX9_spellPlan_41 (v := 44) (by decide) ?_
          refine j_sub [0, 1] rfl ?_
          exact t_X9_spellPlan_43 hdp hk18 k0 k0 hf
        · refine j_bipush (pc := 36) dX9_spellPlan_36 (v := 47) (by decide) ?_
          refine j_goto (pc := 38) (tgt := 43) dX9_spellPlan_38 (by decide) ?_
          refine j_sub [0, 1] rfl ?_
          exact t_X9_spellPlan_43 hdp hk18 k0 k0 hf
def f_X9_spellPlan (a0 : Nat) (h : Hp) : Option (Int32 × Hp) := (f_X9_solves a0 h).bind (fun q1 => if 0 ≤ q1.1 then (lt (sI q1.2 a0 28 0) (fun m2 => lp (F := Nat → Int32 → Hp → Option (Int32 × Hp)) (fun _ _ _ => none) (f_X9_spellPlan_18) 1000 a0 0 m2)) else (some (q1.1, q1.2)))
set_option maxHeartbeats 4000000 in
set_option maxRecDepth 100000 in
theorem t_X9_spellPlan {l : Launch} {D : va_G} {ad : Nat → Nat} {cA : Nat → ClassId} {d : Nat} (hdp : 24 ≤ d) {a0 : Nat} (k0 : kd a0 = 9) {h : Hp} {o : Int32 × Hp} (hf : f_X9_spellPlan a0 h = some o) : Cr l D ad cA d yX9_spellPlan cX9_spellPlan 3 (some .int) [.ref (ad a0)] h (some (.int o.1)) o.2 := by
  obtain ⟨d, rfl⟩ : ∃ e, d = e + 1 := ⟨d - 1, by omega⟩
  have hdp : 23 ≤ d := by omega
  unfold f_X9_spellPlan at hf
  refine Cr_of (by decide +kernel) rfl (Nat.le_of_ble_eq_true rfl) (lv0 := [(0, .ref (ad a0))]) rfl ?_
  refine j_aload_n (pc := 0) 0 dX9_spellPlan_0 rfl rfl ?_
  refine j_callVi (pc := 1) (d := d) (As := []) (st := []) dX9_spellPlan_1 s1259 k0 (by decide) rfl rfl (by decide) (Nat.le_of_ble_eq_true rfl) (fun q hq => t_X9_solves (by omega) k0 hq) hf (fun q1 hf => ?_)
  refine j_istore_n (pc := 4) (lv' := [(1, .int q1.1), (0, .ref (ad a0))]) dX9_spellPlan_4 rfl (by decide) rfl ?_
  refine j_iload_n (pc := 5) 0 dX9_spellPlan_5 rfl rfl ?_
  refine j_if_ge (pc := 6) (tgt := 11) dX9_spellPlan_6 (by decide) hf (fun _ hf => ?_) (fun _ hf => ?_)
  · refine j_aload_n (pc := 11) 1 dX9_spellPlan_11 rfl rfl ?_
    refine j_iconst (pc := 12) dX9_spellPlan_12 (v := 0) (by decide) ?_
    refine j_putI (pc := 13) dX9_spellPlan_13 fl874 fp9_28 k0 (by decide) rfl hf (fun m2 hf => ?_)
    refine j_iconst (pc := 16) dX9_spellPlan_16 (v := 0) (by decide) ?_
    refine j_istore_n (pc := 17) (lv' := [(2, .int 0), (1, .int q1.1), (0, .ref (ad a0))]) dX9_spellPlan_17 rfl (by decide) rfl ?_
    refine j_sub [2, 0] rfl ?_
    exact t_X9_spellPlan_18 hdp  1000 k0 hf
  · refine j_iload_n (pc := 9) 0 dX9_spellPlan_9 rfl rfl ?_
    exact j_iret (pc := 10) dX9_spellPlan_10 rfl hf
