def f_X1_fill_80 (k39 : Nat → Nat → Int32 → Int32 → Hp → Option (Int32 × Hp)) (k80 : Nat → Nat → Int32 → Int32 → Int32 → Hp → Option (Int32 × Hp)) (a0 : Nat) (a1 : Nat) (x2 : Int32) (x4 : Int32) (x5 : Int32) (h : Hp) : Option (Int32 × Hp) := if 6 ≤ x5 then (lt (x4 + 1) (fun v8 => k39 a0 a1 x2 v8 h)) else (if ix x5 6 = true then (if ix x5 6 = true then (if ix x5 6 = true then (lt (sI h (a0 + 10) (Int32.toNatClampNeg x5) ((h.1 (a0 + 10) (Int32.toNatClampNeg x5)) + (h.1 (a0 + 11 + 1) (Int32.toNatClampNeg x5)))) (fun m9 => lt (x5 + 1) (fun v10 => k80 a0 a1 x2 x4 v10 m9))) else none) else none) else none)
set_option maxHeartbeats 4000000 in
set_option maxRecDepth 100000 in
theorem t_X1_fill_80 {l : Launch} {D : va_G} {ad : Nat → Nat} {cA : Nat → ClassId} {d : Nat} (hdp : 4 ≤ d) {o : Int32 × Hp} {k39 : Nat → Nat → Int32 → Int32 → Hp → Option (Int32 × Hp)} (hk39 : ∀ {a0 : Nat} {a1 : Nat} {x2 : Int32} {x4 : Int32} (k0 : kd a0 = 1) (k1 : kd a1 = 3) {h : Hp}, k39 a0 a1 x2 x4 h = some o → J l D ad cA (fun _ => True) (rmd (d + 1)) (0, 0) (mQ D ad cA (some (.int o.1)) o.2) cX1_fill RX1 6 (some .boolean) 39 [(0, .ref (ad a0)), (1, .ref (ad a1)), (2, .int x2), (4, .int x4)] [] h) : ∀ (n : Nat) {a0 : Nat} {a1 : Nat} {x2 : Int32} {x4 : Int32} {x5 : Int32} (k0 : kd a0 = 1) (k1 : kd a1 = 3) {h : Hp}, lp (F := Nat → Nat → Int32 → Int32 → Int32 → Hp → Option (Int32 × Hp)) (fun _ _ _ _ _ _ => none) (f_X1_fill_80 k39) n a0 a1 x2 x4 x5 h = some o → J l D ad cA (fun _ => True) (rmd (d + 1)) (0, 0) (mQ D ad cA (some (.int o.1)) o.2) cX1_fill RX1 6 (some .boolean) 80 [(0, .ref (ad a0)), (1, .ref (ad a1)), (2, .int x2), (4, .int x4), (5, .int x5)] [] h := by
  intro n
  induction n with
  | zero =>
    intro a0 a1 x2 x4 x5 k0 k1 h hf
    have hf : (none : Option (Int32 × Hp)) = some o := hf
    cases hf
  | succ n hk80 =>
    intro a0 a1 x2 x4 x5 k0 k1 h hf
    have hf : f_X1_fill_80 k39 (lp (F := Nat → Nat → Int32 → Int32 → Int32 → Hp → Option (Int32 × Hp)) (fun _ _ _ _ _ _ => none) (f_X1_fill_80 k39) n) a0 a1 x2 x4 x5 h = some o := hf
    unfold f_X1_fill_80 at hf
    refine j_iload (pc := 80) 4 dX1_fill_80 rfl ?_
    refine j_bipush (pc := 82) dX1_fill_82 (v := 6) (by decide) ?_
    refine j_icmp_ge (pc := 84) (tgt := 113) dX1_fill_84 (by decide) hf (fun _ hf => ?_) (fun _ hf => ?_)
    · refine j_iinc (pc := 113) 3 (c := 1) (lv' := fun v8 => [(4, .int v8), (0, .ref (ad a0)), (1, .ref (ad a1)), (2, .int x2), (5, .int x5)]) dX1_fill_113 rfl (by decide) (by decide) (fun _ => rfl) hf (fun v8 hf => ?_)
      refine j_goto (pc := 116) (tgt := 39) dX1_fill_116 (by decide) ?_
      refine j_sub [1, 2, 3, 0] rfl ?_
      exact hk39 k0 k1 hf
    · refine j_aload_n (pc := 87) 0 dX1_fill_87 rfl rfl ?_
      refine j_getR (pc := 88) (n := 10) dX1_fill_88 fl195 k0 (by decide) rfl ?_
      refine j_iload (pc := 91) 4 dX1_fill_91 rfl ?_
      refine j_dup2 (pc := 93) dX1_fill_93 rfl rfl ?_
      refine j_iaload (pc := 94) dX1_fill_94 (lk_1_1 k0) (ll_1_1 k0) hf (fun _ hf => ?_)
      refine j_aload_n (pc := 95) 0 dX1_fill_95 rfl rfl ?_
      refine j_getR (pc := 96) (n := 11) dX1_fill_96 fl200 k0 (by decide) rfl ?_
      refine j_getR (pc := 99) (n := 1) dX1_fill_99 fl153 (lk_1_3 k0) (by decide) rfl ?_
      refine j_iload (pc := 102) 4 dX1_fill_102 rfl ?_
      refine j_iaload (pc := 104) dX1_fill_104 (lk_0_0 (lk_1_3 k0)) (ll_0_0 (lk_1_3 k0)) hf (fun _ hf => ?_)
      refine j_iadd (pc := 105) dX1_fill_105  ?_
      refine j_iastore (pc := 106) dX1_fill_106 (lk_1_1 k0) (ll_1_1 k0) hf (fun m9 hf => ?_)
      refine j_iinc (pc := 107) 4 (c := 1) (lv' := fun v10 => [(5, .int v10), (0, .ref (ad a0)), (1, .ref (ad a1)), (2, .int x2), (4, .int x4)]) dX1_fill_107 rfl (by decide) (by decide) (fun _ => rfl) hf (fun v10 hf => ?_)
      refine j_goto (pc := 110) (tgt := 80) dX1_fill_110 (by decide) ?_
      refine j_sub [1, 2, 3, 4, 0] rfl ?_
      exact hk80 k0 k1 hf
def f_X1_fill_39 (k39 : Nat → Nat → Int32 → Int32 → Hp → Option (Int32 × Hp)) (a0 : Nat) (a1 : Nat) (x2 : Int32) (x4 : Int32) (h : Hp) : Option (Int32 × Hp) := if 6 ≤ x4 then (if isB 1 = true then some (1, h) else none) else ((f_X1_enterMembers a0 a1 x4 h).bind (fun q6 => if ix x4 6 = true then ((f_X0_give (a0 + 11) a1 x2 (q6.2.1 (a0 + 1 + 1) (Int32.toNatClampNeg x4)) q6.2).bind (fun q7 => if q7.1 = 0 then (if isB 0 = true then some (0, q7.2) else none) else (lp (F := Nat → Nat → Int32 → Int32 → Int32 → Hp → Option (Int32 × Hp)) (fun _ _ _ _ _ _ => none) (f_X1_fill_80 k39) 1000 a0 a1 x2 x4 0 q7.2))) else none))
set_option maxHeartbeats 4000000 in
set_option maxRecDepth 100000 in
theorem t_X1_fill_39 {l : Launch} {D : va_G} {ad : Nat → Nat} {cA : Nat → ClassId} {d : Nat} (hdp : 4 ≤ d) {o : Int32 × Hp}  : ∀ (n : Nat) {a0 : Nat} {a1 : Nat} {x2 : Int32} {x4 : Int32} (k0 : kd a0 = 1) (k1 : kd a1 = 3) {h : Hp}, lp (F := Nat → Nat → Int32 → Int32 → Hp → Option (Int32 × Hp)) (fun _ _ _ _ _ => none) (f_X1_fill_39) n a0 a1 x2 x4 h = some o → J l D ad cA (fun _ => True) (rmd (d + 1)) (0, 0) (mQ D ad cA (some (.int o.1)) o.2) cX1_fill RX1 6 (some .boolean) 39 [(0, .ref (ad a0)), (1, .ref (ad a1)), (2, .int x2), (4, .int x4)] [] h := by
  intro n
  induction n with
  | zero =>
    intro a0 a1 x2 x4 k0 k1 h hf
    have hf : (none : Option (Int32 × Hp)) = some o := hf
    cases hf
  | succ n hk39 =>
    intro a0 a1 x2 x4 k0 k1 h hf
    have hf : f_X1_fill_39  (lp (F := Nat → Nat → Int32 → Int32 → Hp → Option (Int32 × Hp)) (fun _ _ _ _ _ => none) (f_X1_fill_39) n) a0 a1 x2 x4 h = some o := hf
    unfold f_X1_fill_39 at hf
    refine j_iload (pc := 39) 3 dX1_fill_39 rfl ?_
    refine j_bipush (pc := 41) dX1_fill_41 (v := 6) (by decide) ?_
    refine j_icmp_ge (pc := 43) (tgt := 119) dX1_fill_43 (by decide) hf (fun _ hf => ?_) (fun _ hf => ?_)
    · refine j_iconst (pc := 119) dX1_fill_119 (v := 1) (by decide) ?_
      exact j_zret (pc := 120) dX1_fill_120 rfl hf
    · refine j_aload_n (pc := 46) 0 dX1_fill_46 rfl rfl ?_
      refine j_aload_n (pc := 47) 1 dX1_fill_47 rfl rfl ?_
      refine j_iload (pc := 48) 3 dX1_fill_48 rfl ?_
      refine j_callVv (pc := 50) (d := d) (As := [.ref (ad a1), .int x4]) (st := []) dX1_fill_50 s551 k0 (by decide) rfl rfl (by decide) (Nat.le_of_ble_eq_true rfl) (fun q hq => t_X1_enterMembers (by omega) k0 k1 hq) hf (fun q6 hf => ?_)
      refine j_aload_n (pc := 53) 0 dX1_fill_53 rfl rfl ?_
      refine j_getR (pc := 54) (n := 11) dX1_fill_54 fl200 k0 (by decide) rfl ?_
      refine j_aload_n (pc := 57) 1 dX1_fill_57 rfl rfl ?_
      refine j_iload_n (pc := 58) 2 dX1_fill_58 rfl rfl ?_
      refine j_aload_n (pc := 59) 0 dX1_fill_59 rfl rfl ?_
      refine j_getR (pc := 60) (n := 1) dX1_fill_60 fl193 k0 (by decide) rfl ?_
      refine j_getR (pc := 63) (n := 1) dX1_fill_63 fl153 (lk_1_0 k0) (by decide) rfl ?_
      refine j_iload (pc := 66) 3 dX1_fill_66 rfl ?_
      refine j_iaload (pc := 68) dX1_fill_68 (lk_0_0 (lk_1_0 k0)) (ll_0_0 (lk_1_0 k0)) hf (fun _ hf => ?_)
      refine j_callVi (pc := 69) (d := d) (As := [.ref (ad a1), .int x2, .int (q6.2.1 (a0 + 1 + 1) (Int32.toNatClampNeg x4))]) (st := []) dX1_fill_69 s508 (lk_1_3 k0) (by decide) rfl rfl (by decide) (Nat.le_of_ble_eq_true rfl) (fun q hq => t_X0_give (by omega) (lk_1_3 k0) k1 hq) hf (fun q7 hf => ?_)
      refine j_if_ne (pc := 72) (tgt := 77) dX1_fill_72 (by decide) hf (fun _ hf => ?_) (fun _ hf => ?_)
      · refine j_iconst (pc := 77) dX1_fill_77 (v := 0) (by decide) ?_
        refine j_istore (pc := 78) (lv' := [(5, .int 0), (0, .ref (ad a0)), (1, .ref (ad a1)), (2, .int x2), (4, .int x4)]) dX1_fill_78 (by decide) rfl ?_
        refine j_sub [1, 2, 3, 4, 0] rfl ?_
        exact t_X1_fill_80 hdp hk39 1000 k0 k1 hf
      · refine j_iconst (pc := 75) dX1_fill_75 (v := 0) (by decide) ?_
        exact j_zret (pc := 76) dX1_fill_76 rfl hf
def f_X1_fill (a0 : Nat) (a1 : Nat) (x2 : Int32) (x3 : Int32) (h : Hp) : Option (Int32 × Hp) := (f_J7_fill_53178 (a0 + 10) 0 h).bind (fun q1 => (f_X3_inBits a1 q1.2).bind (fun q2 => lt (sI q2.2 a0 2 q2.1) (fun m3 => (f_X1_enterLists a0 a1 m3).bind (fun q4 => (f_X0_give (a0 + 1) a1 x2 x3 q4.2).bind (fun q5 => if q5.1 = 0 then (if isB 0 = true then some (0, q5.2) else none) else (lp (F := Nat → Nat → Int32 → Int32 → Hp → Option (Int32 × Hp)) (fun _ _ _ _ _ => none) (f_X1_fill_39) 1000 a0 a1 x2 0 q5.2))))))
set_option maxHeartbeats 4000000 in
set_option maxRecDepth 100000 in
theorem t_X1_fill {l : Launch} {D : va_G} {ad : Nat → Nat} {cA : Nat → ClassId} {d : Nat} (hdp : 5 ≤ d) {a0 : Nat} {a1 : Nat} {x2 : Int32} {x3 : Int32} (k0 : kd a0 = 1) (k1 : kd a1 = 3) {h : Hp} {o : Int32 × Hp} (hf : f_X1_fill a0 a1 x2 x3 h = some o) : Cr l D ad cA d yX1_fill cX1_fill 6 (some .boolean) [.ref (ad a0), .ref (ad a1), .int x2, .int x3] h (some (.int o.1)) o.2 := by
  obtain ⟨d, rfl⟩ : ∃ e, d = e + 1 := ⟨d - 1, by omega⟩
  have hdp : 4 ≤ d := by omega
  unfold f_X1_fill at hf
  refine Cr_of (by decide +kernel) rfl (Nat.le_of_ble_eq_true rfl) (lv0 := [(0, .ref (ad a0)), (1, .ref (ad a1)), (2, .int x2), (3, .int x3)]) rfl ?_
  refine j_aload_n (pc := 0) 0 dX1_fill_0 rfl rfl ?_
  refine j_getR (pc := 1) (n := 10) dX1_fill_1 fl195 k0 (by decide) rfl ?_
  refine j_iconst (pc := 4) dX1_fill_4 (v := 0) (by decide) ?_
  refine j_callSv (pc := 5) (d := d) (As := [.ref (ad (a0 + 10)), .int 0]) (st := []) dX1_fill_5 s486 rfl rfl (by decide) (Nat.le_of_ble_eq_true rfl) (fun q hq => t_J7_fill_53178 (lk_1_1 k0) hq) hf (fun q1 hf => ?_)
  refine j_aload_n (pc := 8) 0 dX1_fill_8 rfl rfl ?_
  refine j_aload_n (pc := 9) 1 dX1_fill_9 rfl rfl ?_
  refine j_callVi (pc := 10) (d := d) (As := []) (st := [.ref (ad a0)]) dX1_fill_10 s487 k1 (by decide) rfl rfl (by decide) (Nat.le_of_ble_eq_true rfl) (fun q hq => t_X3_inBits (by omega) k1 hq) hf (fun q2 hf => ?_)
  refine j_putI (pc := 13) dX1_fill_13 fl198 fp1_2 k0 (by decide) rfl hf (fun m3 hf => ?_)
  refine j_aload_n (pc := 16) 0 dX1_fill_16 rfl rfl ?_
  refine j_aload_n (pc := 17) 1 dX1_fill_17 rfl rfl ?_
  refine j_callVv (pc := 18) (d := d) (As := [.ref (ad a1)]) (st := []) dX1_fill_18 s488 k0 (by decide) rfl rfl (by decide) (Nat.le_of_ble_eq_true rfl) (fun q hq => t_X1_enterLists (by omega) k0 k1 hq) hf (fun q4 hf => ?_)
  refine j_aload_n (pc := 21) 0 dX1_fill_21 rfl rfl ?_
  refine j_getR (pc := 22) (n := 1) dX1_fill_22 fl193 k0 (by decide) rfl ?_
  refine j_aload_n (pc := 25) 1 dX1_fill_25 rfl rfl ?_
  refine j_iload_n (pc := 26) 2 dX1_fill_26 rfl rfl ?_
  refine j_iload_n (pc := 27) 3 dX1_fill_27 rfl rfl ?_
  refine j_callVi (pc := 28) (d := d) (As := [.ref (ad a1), .int x2, .int x3]) (st := []) dX1_fill_28 s508 (lk_1_0 k0) (by decide) rfl rfl (by decide) (Nat.le_of_ble_eq_true rfl) (fun q hq => t_X0_give (by omega) (lk_1_0 k0) k1 hq) hf (fun q5 hf => ?_)
  refine j_if_ne (pc := 31) (tgt := 36) dX1_fill_31 (by decide) hf (fun _ hf => ?_) (fun _ hf => ?_)
  · refine j_iconst (pc := 36) dX1_fill_36 (v := 0) (by decide) ?_
    refine j_istore (pc := 37) (lv' := [(4, .int 0), (0, .ref (ad a0)), (1, .ref (ad a1)), (2, .int x2), (3, .int x3)]) dX1_fill_37 (by decide) rfl ?_
    refine j_sub [1, 2, 3, 0] rfl ?_
    exact t_X1_fill_39 hdp  1000 k0 k1 hf
  · refine j_iconst (pc := 34) dX1_fill_34 (v := 0) (by decide) ?_
    exact j_zret (pc := 35) dX1_fill_35 rfl hf
def f_X2_elsewhere_148 (k4 : Nat → Nat → Int32 → Int32 → Hp → Option (Int32 × Hp)) (a0 : Nat) (a1 : Nat) (x2 : Int32) (x3 : Int32) (h : Hp) : Option (Int32 × Hp) := lt (x3 + 1) (fun v2 => k4 a0 a1 x2 v2 h)
set_option maxHeartbeats 4000000 in
set_option maxRecDepth 100000 in
theorem t_X2_elsewhere_148 {l : Launch} {D : va_G} {ad : Nat → Nat} {cA : Nat → ClassId} {d : Nat} (hdp : 4 ≤ d) {o : Int32 × Hp} {k4 : Nat → Nat → Int32 → Int32 → Hp → Option (Int32 × Hp)} (hk4 : ∀ {a0 : Nat} {a1 : Nat} {x2 : Int32} {x3 : Int32} (k0 : kd a0 = 2) (k1 : kd a1 = 3) {h : Hp}, k4 a0 a1 x2 x3 h = some o → J l D ad cA (fun _ => True) (rmd (d + 1)) (0, 0) (mQ D ad cA (some (.int o.1)) o.2) cX2_elsewhere RX2 5 (some .int) 4 [(0, .ref (ad a0)), (1, .ref (ad a1)), (2, .int x2), (3, .int x3)] [] h) {a0 : Nat} {a1 : Nat} {x2 : Int32} {x3 : Int32} (k0 : kd a0 = 2) (k1 : kd a1 = 3) {h : Hp} (hf : f_X2_elsewhere_148 k4 a0 a1 x2 x3 h = some o) : J l D ad cA (fun _ => True) (rmd (d + 1)) (0, 0) (mQ D ad cA (some (.int o.1)) o.2) cX2_elsewhere RX2 5 (some .int) 148 [(0, .ref (ad a0)), (1, .ref (ad a1)), (2, .int x2), (3, .int x3)] [] h := by
  unfold f_X2_elsewhere_148 at hf
  refine j_iinc (pc := 148) 3 (c := 1) (lv' := fun v2 => [(3, .int v2), (0, .ref (ad a0)), (1, .ref (ad a1)), (2, .int x2)]) dX2_elsewhere_148 rfl (by decide) (by decide) (fun _ => rfl) hf (fun v2 hf => ?_)
  refine j_goto (pc := 151) (tgt := 4) dX2_elsewhere_151 (by decide) ?_
  refine j_sub [1, 2, 3, 0] rfl ?_
  exact hk4 k0 k1 hf
def f_X2_elsewhere_107 (k4 : Nat → Nat → Int32 → Int32 → Hp → Option (Int32 × Hp)) (k107 : Nat → Nat → Int32 → Int32 → Int32 → Hp → Option (Int32 × Hp)) (a0 : Nat) (a1 : Nat) (x2 : Int32) (x3 : Int32) (x4 : Int32) (h : Hp) : Option (Int32 × Hp) := if 6 ≤ x4 then (f_X2_elsewhere_148 k4 a0 a1 x2 x3 h) else ((f_X8_cellOf x3 x4 h).bind (fun q7 => if ix q7.1 24 = true then (if ix x4 6 = true then (lt (x2 + (if 0 ≤ ((q7.2.1 (a0 + 1) (Int32.toNatClampNeg q7.1)) - (q7.2.1 (a0 + 31 + 1) (Int32.toNatClampNeg x4))) then ((q7.2.1 (a0 + 1) (Int32.toNatClampNeg q7.1)) - (q7.2.1 (a0 + 31 + 1) (Int32.toNatClampNeg x4))) else 0 - ((q7.2.1 (a0 + 1) (Int32.toNatClampNeg q7.1)) - (q7.2.1 (a0 + 31 + 1) (Int32.toNatClampNeg x4))))) (fun v8 => lt (x4 + 1) (fun v9 => k107 a0 a1 v8 x3 v9 q7.2))) else none) else none))
set_option maxHeartbeats 4000000 in
set_option maxRecDepth 100000 in
theorem t_X2_elsewhere_107 {l : Launch} {D : va_G} {ad : Nat → Nat} {cA : Nat → ClassId} {d : Nat} (hdp : 4 ≤ d) {o : Int32 × Hp} {k4 : Nat → Nat → Int32 → Int32 → Hp → Option (Int32 × Hp)} (hk4 : ∀ {a0 : Nat} {a1 : Nat} {x2 : Int32} {x3 : Int32} (k0 : kd a0 = 2) (k1 : kd a1 = 3) {h : Hp}, k4 a0 a1 x2 x3 h = some o → J l D ad cA (fun _ => True) (rmd (d + 1)) (0, 0) (mQ D ad cA (some (.int o.1)) o.2) cX2_elsewhere RX2 5 (some .int) 4 [(0, .ref (ad a0)), (1, .ref (ad a1)), (2, .int x2), (3, .int x3)] [] h) : ∀ (n : Nat) {a0 : Nat} {a1 : Nat} {x2 : Int32} {x3 : Int32} {x4 : Int32} (k0 : kd a0 = 2) (k1 : kd a1 = 3) {h : Hp}, lp (F := Nat → Nat → Int32 → Int32 → Int32 → Hp → Option (Int32 × Hp)) (fun _ _ _ _ _ _ => none) (f_X2_elsewhere_107 k4) n a0 a1 x2 x3 x4 h = some o → J l D ad cA (fun _ => True) (rmd (d + 1)) (0, 0) (mQ D ad cA (some (.int o.1)) o.2) cX2_elsewhere RX2 5 (some .int) 107 [(0, .ref (ad a0)), (1, .ref (ad a1)), (2, .int x2), (3, .int x3), (4, .int x4)] [] h := by
  intro n
  induction n with
  | zero =>
    intro a0 a1 x2 x3 x4 k0 k1 h hf
    have hf : (none : Option (Int32 × Hp)) = some o := hf
    cases hf
  | succ n hk107 =>
    intro a0 a1 x2 x3 x4 k0 k1 h hf
    have hf : f_X2_elsewhere_107 k4 (lp (F := Nat → Nat → Int32 → Int32 → Int32 → Hp → Option (Int32 × Hp)) (fun _ _ _ _ _ _ => none) (f_X2_elsewhere_107 k4) n) a0 a1 x2 x3 x4 h = some o := hf
    unfold f_X2_elsewhere_107 at hf
    refine j_iload (pc := 107) 4 dX2_elsewhere_107 rfl ?_
    refine j_bipush (pc := 109) dX2_elsewhere_109 (v := 6) (by decide) ?_
    refine j_icmp_ge (pc := 111) (tgt := 148) dX2_elsewhere_111 (by decide) hf (fun _ hf => ?_) (fun _ hf => ?_)
    · refine j_sub [0, 1, 2, 3] rfl ?_
      exact t_X2_elsewhere_148 hdp hk4 k0 k1 hf
    · refine j_iload_n (pc := 114) 2 dX2_elsewhere_114 rfl rfl ?_
      refine j_aload_n (pc := 115) 0 dX2_elsewhere_115 rfl rfl ?_
      refine j_getR (pc := 116) (n := 1) dX2_elsewhere_116 fl263 k0 (by decide) rfl ?_
      refine j_iload_n (pc := 119) 3 dX2_elsewhere_119 rfl rfl ?_
      refine j_iload (pc := 120) 4 dX2_elsewhere_120 rfl ?_
      refine j_callNi (pc := 122) (d := d) (As := [.int x3, .int x4]) (st := [.ref (ad (a0 + 1)), .int x2]) dX2_elsewhere_122 s685 rfl rfl (by decide) (Nat.le_of_ble_eq_true rfl) (fun q hq => t_X8_cellOf  hq) hf (fun q7 hf => ?_)
      refine j_iaload (pc := 125) dX2_elsewhere_125 (lk_2_0 k0) (ll_2_0 k0) hf (fun _ hf => ?_)
      refine j_aload_n (pc := 126) 0 dX2_elsewhere_126 rfl rfl ?_
      refine j_getR (pc := 127) (n := 31) dX2_elsewhere_127 fl268 k0 (by decide) rfl ?_
      refine j_getR (pc := 130) (n := 1) dX2_elsewhere_130 fl154 (lk_2_3 k0) (by decide) rfl ?_
      refine j_iload (pc := 133) 4 dX2_elsewhere_133 rfl ?_
      refine j_iaload (pc := 135) dX2_elsewhere_135 (lk_0_0 (lk_2_3 k0)) (ll_0_0 (lk_2_3 k0)) hf (fun _ hf => ?_)
      refine j_isub (pc := 136) dX2_elsewhere_136  ?_
      refine j_mabs (pc := 137) dX2_elsewhere_137 w_776 w_mabs_s w_math w_mabs_c (Nat.le_of_ble_eq_true rfl) ?_
      refine j_iadd (pc := 140) dX2_elsewhere_140  ?_
      refine j_istore_nN (pc := 141) (lv' := fun v8 => [(2, .int v8), (0, .ref (ad a0)), (1, .ref (ad a1)), (3, .int x3), (4, .int x4)]) dX2_elsewhere_141 rfl (by decide) (fun _ => rfl) hf (fun v8 hf => ?_)
      refine j_iinc (pc := 142) 4 (c := 1) (lv' := fun v9 => [(4, .int v9), (2, .int v8), (0, .ref (ad a0)), (1, .ref (ad a1)), (3, .int x3)]) dX2_elsewhere_142 rfl (by decide) (by decide) (fun _ => rfl) hf (fun v9 hf => ?_)
      refine j_goto (pc := 145) (tgt := 107) dX2_elsewhere_145 (by decide) ?_
      refine j_sub [2, 3, 1, 4, 0] rfl ?_
      exact hk107 k0 k1 hf
def f_X2_elsewhere_74 (k4 : Nat → Nat → Int32 → Int32 → Hp → Option (Int32 × Hp)) (k31 : Nat → Nat → Int32 → Int32 → Int32 → Hp → Option (Int32 × Hp)) (a0 : Nat) (a1 : Nat) (x2 : Int32) (x3 : Int32) (x4 : Int32) (h : Hp) : Option (Int32 × Hp) := lt (x4 + 1) (fun v10 => k31 a0 a1 x2 x3 v10 h)
set_option maxHeartbeats 4000000 in
set_option maxRecDepth 100000 in
theorem t_X2_elsewhere_74 {l : Launch} {D : va_G} {ad : Nat → Nat} {cA : Nat → ClassId} {d : Nat} (hdp : 4 ≤ d) {o : Int32 × Hp} {k4 : Nat → Nat → Int32 → Int32 → Hp → Option (Int32 × Hp)} (hk4 : ∀ {a0 : Nat} {a1 : Nat} {x2 : Int32} {x3 : Int32} (k0 : kd a0 = 2) (k1 : kd a1 = 3) {h : Hp}, k4 a0 a1 x2 x3 h = some o → J l D ad cA (fun _ => True) (rmd (d + 1)) (0, 0) (mQ D ad cA (some (.int o.1)) o.2) cX2_elsewhere RX2 5 (some .int) 4 [(0, .ref (ad a0)), (1, .ref (ad a1)), (2, .int x2), (3, .int x3)] [] h) {k31 : Nat → Nat → Int32 → Int32 → Int32 → Hp → Option (Int32 × Hp)} (hk31 : ∀ {a0 : Nat} {a1 : Nat} {x2 : Int32} {x3 : Int32} {x4 : Int32} (k0 : kd a0 = 2) (k1 : kd a1 = 3) {h : Hp}, k31 a0 a1 x2 x3 x4 h = some o → J l D ad cA (fun _ => True) (rmd (d + 1)) (0, 0) (mQ D ad cA (some (.int o.1)) o.2) cX2_elsewhere RX2 5 (some .int) 31 [(0, .ref (ad a0)), (1, .ref (ad a1)), (2, .int x2), (3, .int x3), (4, .int x4)] [] h) {a0 : Nat} {a1 : Nat} {x2 : Int32} {x3 : Int32} {x4 : Int32} (k0 : kd a0 = 2) (k1 : kd a1 = 3) {h : Hp} (hf : f_X2_elsewhere_74 k4 k31 a0 a1 x2 x3 x4 h = some o) : J l D ad cA (fun _ => True) (rmd (d + 1)) (0, 0) (mQ D ad cA (some (.int o.1)) o.2) cX2_elsewhere RX2 5 (some .int) 74 [(0, .ref (ad a0)), (1, .ref (ad a1)), (2, .int x2), (3, .int x3), (4, .int x4)] [] h := by
  unfold f_X2_elsewhere_74 at hf
  refine j_iinc (pc := 74) 4 (c := 1) (lv' := fun v10 => [(4, .int v10), (0, .ref (ad a0)), (1, .ref (ad a1)), (2, .int x2), (3, .int x3)]) dX2_elsewhere_74 rfl (by decide) (by decide) (fun _ => rfl) hf (fun v10 hf => ?_)
  refine j_goto (pc := 77) (tgt := 31) dX2_elsewhere_77 (by decide) ?_
  refine j_sub [1, 2, 3, 4, 0] rfl ?_
  exact hk31 k0 k1 hf
def f_X2_elsewhere_31 (k4 : Nat → Nat → Int32 → Int32 → Hp → Option (Int32 × Hp)) (k31 : Nat → Nat → Int32 → Int32 → Int32 → Hp → Option (Int32 × Hp)) (a0 : Nat) (a1 : Nat) (x2 : Int32) (x3 : Int32) (x4 : Int32) (h : Hp) : Option (Int32 × Hp) := if 6 ≤ x4 then (if ix x3 4 = true then ((f_X0_give (a0 + 31) a1 (h.1 a1 5) (h.1 (a1 + 2) (Int32.toNatClampNeg x3)) h).bind (fun q3 => if q3.1 = 0 then (some ((-3), q3.2)) else (lp (F := Nat → Nat → Int32 → Int32 → Int32 → Hp → Option (Int32 × Hp)) (fun _ _ _ _ _ _ => none) (f_X2_elsewhere_107 k4) 1000 a0 a1 x2 x3 0 q3.2))) else none) else ((f_X8_holds (h.1 (a0 + 11) 2) x4 h).bind (fun q4 => if q4.1 = 0 then (f_X2_elsewhere_74 k4 k31 a0 a1 x2 x3 x4 q4.2) else ((f_X8_cellOf x3 x4 q4.2).bind (fun q5 => if ix q5.1 24 = true then ((f_X0_enter (a0 + 31) x4 (q5.2.1 (a1 + 1) (Int32.toNatClampNeg q5.1)) 0 q5.2).bind (fun q6 => f_X2_elsewhere_74 k4 k31 a0 a1 x2 x3 x4 q6.2)) else none))))
set_option maxHeartbeats 4000000 in
set_option maxRecDepth 100000 in
theorem t_X2_elsewhere_31 {l : Launch} {D : va_G} {ad : Nat → Nat} {cA : Nat → ClassId} {d : Nat} (hdp : 4 ≤ d) {o : Int32 × Hp} {k4 : Nat → Nat → Int32 → Int32 → Hp → Option (Int32 × Hp)} (hk4 : ∀ {a0 : Nat} {a1 : Nat} {x2 : Int32} {x3 : Int32} (k0 : kd a0 = 2) (k1 : kd a1 = 3) {h : Hp}, k4 a0 a1 x2 x3 h = some o → J l D ad cA (fun _ => True) (rmd (d + 1)) (0, 0) (mQ D ad cA (some (.int o.1)) o.2) cX2_elsewhere RX2 5 (some .int) 4 [(0, .ref (ad a0)), (1, .ref (ad a1)), (2, .int x2), (3, .int x3)] [] h) : ∀ (n : Nat) {a0 : Nat} {a1 : Nat} {x2 : Int32} {x3 : Int32} {x4 : Int32} (k0 : kd a0 = 2) (k1 : kd a1 = 3) {h : Hp}, lp (F := Nat → Nat → Int32 → Int32 → Int32 → Hp → Option (Int32 × Hp)) (fun _ _ _ _ _ _ => none) (f_X2_elsewhere_31 k4) n a0 a1 x2 x3 x4 h = some o → J l D ad cA (fun _ => True) (rmd (d + 1)) (0, 0) (mQ D ad cA (some (.int o.1)) o.2) cX2_elsewhere RX2 5 (some .int) 31 [(0, .ref (ad a0)), (1, .ref (ad a1)), (2, .int x2), (3, .int x3), (4, .int x4)] [] h := by
  intro n
  induction n with
  | zero =>
    intro a0 a1 x2 x3 x4 k0 k1 h hf
    have hf : (none : Option (Int32 × Hp)) = some o := hf
    cases hf
  | succ n hk31 =>
    intro a0 a1 x2 x3 x4 k0 k1 h hf
    have hf : f_X2_elsewhere_31 k4 (lp (F := Nat → Nat → Int32 → Int32 → Int32 → Hp → Option (Int32 × Hp)) (fun _ _ _ _ _ _ => none) (f_X2_elsewhere_31 k4) n) a0 a1 x2 x3 x4 h = some o := hf
    unfold f_X2_elsewhere_31 at hf
    refine j_iload (pc := 31) 4 dX2_elsewhere_31 rfl ?_
    refine j_bipush (pc := 33) dX2_elsewhere_33 (v := 6) (by decide) ?_
    refine j_icmp_ge (pc := 35) (tgt := 80) dX2_elsewhere_35 (by decide) hf (fun _ hf => ?_) (fun _ hf => ?_)
    · refine j_aload_n (pc := 80) 0 dX2_elsewhere_80 rfl rfl ?_
      refine j_getR (pc := 81) (n := 31) dX2_elsewhere_81 fl268 k0 (by decide) rfl ?_
      refine j_aload_n (pc := 84) 1 dX2_elsewhere_84 rfl rfl ?_
      refine j_aload_n (pc := 85) 1 dX2_elsewhere_85 rfl rfl ?_
      refine j_getI (pc := 86) dX2_elsewhere_86 fl115 k1 (by decide) rfl ?_
      refine j_aload_n (pc := 89) 1 dX2_elsewhere_89 rfl rfl ?_
      refine j_getR (pc := 90) (n := 2) dX2_elsewhere_90 fl105 k1 (by decide) rfl ?_
      refine j_iload_n (pc := 93) 3 dX2_elsewhere_93 rfl rfl ?_
      refine j_iaload (pc := 94) dX2_elsewhere_94 (lk_3_1 k1) (ll_3_1 k1) hf (fun _ hf => ?_)
      refine j_callVi (pc := 95) (d := d) (As := [.ref (ad a1), .int (h.1 a1 5), .int (h.1 (a1 + 2) (Int32.toNatClampNeg x3))]) (st := []) dX2_elsewhere_95 s775 (lk_2_3 k0) (by decide) rfl rfl (by decide) (Nat.le_of_ble_eq_true rfl) (fun q hq => t_X0_give (by omega) (lk_2_3 k0) k1 hq) hf (fun q3 hf => ?_)
      refine j_if_ne (pc := 98) (tgt := 104) dX2_elsewhere_98 (by decide) hf (fun _ hf => ?_) (fun _ hf => ?_)
      · refine j_iconst (pc := 104) dX2_elsewhere_104 (v := 0) (by decide) ?_
        refine j_istore (pc := 105) (lv' := [(4, .int 0), (0, .ref (ad a0)), (1, .ref (ad a1)), (2, .int x2), (3, .int x3)]) dX2_elsewhere_105 (by decide) rfl ?_
        refine j_sub [1, 2, 3, 4, 0] rfl ?_
        exact t_X2_elsewhere_107 hdp hk4 1000 k0 k1 hf
      · refine j_bipush (pc := 101) dX2_elsewhere_101 (v := -3) (by decide) ?_
        exact j_iret (pc := 103) dX2_elsewhere_103 rfl hf
    · refine j_aload_n (pc := 38) 0 dX2_elsewhere_38 rfl rfl ?_
      refine j_getR (pc := 39) (n := 11) dX2_elsewhere_39 fl267 k0 (by decide) rfl ?_
      refine j_getI (pc := 42) dX2_elsewhere_42 fl199 (lk_2_2 k0) (by decide) rfl ?_
      refine j_iload (pc := 45) 4 dX2_elsewhere_45 rfl ?_
      refine j_callNi (pc := 47) (d := d) (As := [.int (h.1 (a0 + 11) 2), .int x4]) (st := []) dX2_elsewhere_47 s742 rfl rfl (by decide) (Nat.le_of_ble_eq_true rfl) (fun q hq => t_X8_holds  hq) hf (fun q4 hf => ?_)
      refine j_if_eq (pc := 50) (tgt := 74) dX2_elsewhere_50 (by decide) hf (fun _ hf => ?_) (fun _ hf => ?_)
      · refine j_sub [0, 1, 2, 3, 4] rfl ?_
        exact t_X2_elsewhere_74 hdp hk4 hk31 k0 k1 hf
      · refine j_aload_n (pc := 53) 0 dX2_elsewhere_53 rfl rfl ?_
        refine j_getR (pc := 54) (n := 31) dX2_elsewhere_54 fl268 k0 (by decide) rfl ?_
        refine j_iload (pc := 57) 4 dX2_elsewhere_57 rfl ?_
        refine j_aload_n (pc := 59) 1 dX2_elsewhere_59 rfl rfl ?_
        refine j_getR (pc := 60) (n := 1) dX2_elsewhere_60 fl102 k1 (by decide) rfl ?_
        refine j_iload_n (pc := 63) 3 dX2_elsewhere_63 rfl rfl ?_
        refine j_iload (pc := 64) 4 dX2_elsewhere_64 rfl ?_
        refine j_callNi (pc := 66) (d := d) (As := [.int x3, .int x4]) (st := [.ref (ad (a1 + 1)), .int x4, .ref (ad (a0 + 31))]) dX2_elsewhere_66 s685 rfl rfl (by decide) (Nat.le_of_ble_eq_true rfl) (fun q hq => t_X8_cellOf  hq) hf (fun q5 hf => ?_)
        refine j_iaload (pc := 69) dX2_elsewhere_69 (lk_3_0 k1) (ll_3_0 k1) hf (fun _ hf => ?_)
        refine j_iconst (pc := 70) dX2_elsewhere_70 (v := 0) (by decide) ?_
        refine j_callVv (pc := 71) (d := d) (As := [.int x4, .int (q5.2.1 (a1 + 1) (Int32.toNatClampNeg q5.1)), .int 0]) (st := []) dX2_elsewhere_71 s774 (lk_2_3 k0) (by decide) rfl rfl (by decide) (Nat.le_of_ble_eq_true rfl) (fun q hq => t_X0_enter (lk_2_3 k0) hq) hf (fun q6 hf => ?_)
        refine j_sub [0, 1, 2, 3, 4] rfl ?_
        exact t_X2_elsewhere_74 hdp hk4 hk31 k0 k1 hf
def f_X2_elsewhere_4 (k4 : Nat → Nat → Int32 → Int32 → Hp → Option (Int32 × Hp)) (a0 : Nat) (a1 : Nat) (x2 : Int32) (x3 : Int32) (h : Hp) : Option (Int32 × Hp) := if 4 ≤ x3 then (if 2 = 0 then none else (some (x2 / 2, h))) else (if ix x3 4 = true then (if (h.1 (a1 + 2) (Int32.toNatClampNeg x3)) = 0 then (f_X2_elsewhere_148 k4 a0 a1 x2 x3 h) else ((f_X0_empty (a0 + 31) h).bind (fun q1 => lp (F := Nat → Nat → Int32 → Int32 → Int32 → Hp → Option (Int32 × Hp)) (fun _ _ _ _ _ _ => none) (f_X2_elsewhere_31 k4) 1000 a0 a1 x2 x3 0 q1.2))) else none)
set_option maxHeartbeats 4000000 in
set_option maxRecDepth 100000 in
theorem t_X2_elsewhere_4 {l : Launch} {D : va_G} {ad : Nat → Nat} {cA : Nat → ClassId} {d : Nat} (hdp : 4 ≤ d) {o : Int32 × Hp}  : ∀ (n : Nat) {a0 : Nat} {a1 : Nat} {x2 : Int32} {x3 : Int32} (k0 : kd a0 = 2) (k1 : kd a1 = 3) {h : Hp}, lp (F := Nat → Nat → Int32 → Int32 → Hp → Option (Int32 × Hp)) (fun _ _ _ _ _ => none) (f_X2_elsewhere_4) n a0 a1 x2 x3 h = some o → J l D ad cA (fun _ => True) (rmd (d + 1)) (0, 0) (mQ D ad cA (some (.int o.1)) o.2) cX2_elsewhere RX2 5 (some .int) 4 [(0, .ref (ad a0)), (1, .ref (ad a1)), (2, .int x2), (3, .int x3)] [] h := by
  intro n
  induction n with
  | zero =>
    intro a0 a1 x2 x3 k0 k1 h hf
    have hf : (none : Option (Int32 × Hp)) = some o := hf
    cases hf
  | succ n hk4 =>
    intro a0 a1 x2 x3 k0 k1 h hf
    have hf : f_X2_elsewhere_4  (lp (F := Nat → Nat → Int32 → Int32 → Hp → Option (Int32 × Hp)) (fun _ _ _ _ _ => none) (f_X2_elsewhere_4) n) a0 a1 x2 x3 h = some o := hf
    unfold f_X2_elsewhere_4 at hf
    refine j_iload_n (pc := 4) 3 dX2_elsewhere_4 rfl rfl ?_
    refine j_iconst (pc := 5) dX2_elsewhere_5 (v := 4) (by decide) ?_
    refine j_icmp_ge (pc := 6) (tgt := 154) dX2_elsewhere_6 (by decide) hf (fun _ hf => ?_) (fun _ hf => ?_)
    · refine j_iload_n (pc := 154) 2 dX2_elsewhere_154 rfl rfl ?_
      refine j_iconst (pc := 155) dX2_elsewhere_155 (v := 2) (by decide) ?_
      refine j_idiv (pc := 156) dX2_elsewhere_156 hf (fun hf => ?_)
      exact j_iret (pc := 157) dX2_elsewhere_157 rfl hf
    · refine j_aload_n (pc := 9) 1 dX2_elsewhere_9 rfl rfl ?_
      refine j_getR (pc := 10) (n := 2) dX2_elsewhere_10 fl105 k1 (by decide) rfl ?_
      refine j_iload_n (pc := 13) 3 dX2_elsewhere_13 rfl rfl ?_
      refine j_iaload (pc := 14) dX2_elsewhere_14 (lk_3_1 k1) (ll_3_1 k1) hf (fun _ hf => ?_)
      refine j_if_ne (pc := 15) (tgt := 21) dX2_elsewhere_15 (by decide) hf (fun _ hf => ?_) (fun _ hf => ?_)
      · refine j_aload_n (pc := 21) 0 dX2_elsewhere_21 rfl rfl ?_
        refine j_getR (pc := 22) (n := 31) dX2_elsewhere_22 fl268 k0 (by decide) rfl ?_
        refine j_callVv (pc := 25) (d := d) (As := []) (st := []) dX2_elsewhere_25 s773 (lk_2_3 k0) (by decide) rfl rfl (by decide) (Nat.le_of_ble_eq_true rfl) (fun q hq => t_X0_empty (by omega) (lk_2_3 k0) hq) hf (fun q1 hf => ?_)
        refine j_iconst (pc := 28) dX2_elsewhere_28 (v := 0) (by decide) ?_
        refine j_istore (pc := 29) (lv' := [(4, .int 0), (0, .ref (ad a0)), (1, .ref (ad a1)), (2, .int x2), (3, .int x3)]) dX2_elsewhere_29 (by decide) rfl ?_
        refine j_sub [1, 2, 3, 4, 0] rfl ?_
        exact t_X2_elsewhere_31 hdp hk4 1000 k0 k1 hf
      · refine j_goto (pc := 18) (tgt := 148) dX2_elsewhere_18 (by decide) ?_
        refine j_sub [0, 1, 2, 3] rfl ?_
        exact t_X2_elsewhere_148 hdp hk4 k0 k1 hf
def f_X2_elsewhere (a0 : Nat) (a1 : Nat) (h : Hp) : Option (Int32 × Hp) := lp (F := Nat → Nat → Int32 → Int32 → Hp → Option (Int32 × Hp)) (fun _ _ _ _ _ => none) (f_X2_elsewhere_4) 1000 a0 a1 0 0 h
set_option maxHeartbeats 4000000 in
set_option maxRecDepth 100000 in
theorem t_X2_elsewhere {l : Launch} {D : va_G} {ad : Nat → Nat} {cA : Nat → ClassId} {d : Nat} (hdp : 5 ≤ d) {a0 : Nat} {a1 : Nat} (k0 : kd a0 = 2) (k1 : kd a1 = 3) {h : Hp} {o : Int32 × Hp} (hf : f_X2_elsewhere a0 a1 h = some o) : Cr l D ad cA d yX2_elsewhere cX2_elsewhere 5 (some .int) [.ref (ad a0), .ref (ad a1)] h (some (.int o.1)) o.2 := by
  obtain ⟨d, rfl⟩ : ∃ e, d = e + 1 := ⟨d - 1, by omega⟩
  have hdp : 4 ≤ d := by omega
  unfold f_X2_elsewhere at hf
  refine Cr_of (by decide +kernel) rfl (Nat.le_of_ble_eq_true rfl) (lv0 := [(0, .ref (ad a0)), (1, .ref (ad a1))]) rfl ?_
  refine j_iconst (pc := 0) dX2_elsewhere_0 (v := 0) (by decide) ?_
  refine j_istore_n (pc := 1) (lv' := [(2, .int 0), (0, .ref (ad a0)), (1, .ref (ad a1))]) dX2_elsewhere_1 rfl (by decide) rfl ?_
  refine j_iconst (pc := 2) dX2_elsewhere_2 (v := 0) (by decide) ?_
  refine j_istore_n (pc := 3) (lv' := [(3, .int 0), (2, .int 0), (0, .ref (ad a0)), (1, .ref (ad a1))]) dX2_elsewhere_3 rfl (by decide) rfl ?_
  refine j_sub [2, 3, 1, 0] rfl ?_
  exact t_X2_elsewhere_4 hdp  1000 k0 k1 hf
def f_X9_gives (a0 : Nat) (x1 : Int32) (x2 : Int32) (h : Hp) : Option (Int32 × Hp) := lt (sI h a0 14 0) (fun m1 => lt (sI m1 a0 15 0) (fun m2 => if x1 = 6 then ((f_X9_givesByRests a0 x2 m2).bind (fun q4 => if isB q4.1 = true then some (q4.1, q4.2) else none)) else ((f_X9_givesByPrice a0 x1 x2 m2).bind (fun q3 => if isB q3.1 = true then some (q3.1, q3.2) else none))))
set_option maxHeartbeats 4000000 in
set_option maxRecDepth 100000 in
theorem t_X9_gives {l : Launch} {D : va_G} {ad : Nat → Nat} {cA : Nat → ClassId} {d : Nat} (hdp : 5 ≤ d) {a0 : Nat} {x1 : Int32} {x2 : Int32} (k0 : kd a0 = 9) {h : Hp} {o : Int32 × Hp} (hf : f_X9_gives a0 x1 x2 h = some o) : Cr l D ad cA d yX9_gives cX9_gives 3 (some .boolean) [.ref (ad a0), .int x1, .int x2] h (some (.int o.1)) o.2 := by
  obtain ⟨d, rfl⟩ : ∃ e, d = e + 1 := ⟨d - 1, by omega⟩
  have hdp : 4 ≤ d := by omega
  unfold f_X9_gives at hf
  refine Cr_of (by decide +kernel) rfl (Nat.le_of_ble_eq_true rfl) (lv0 := [(0, .ref (ad a0)), (1, .int x1), (2, .int x2)]) rfl ?_
  refine j_aload_n (pc := 0) 0 dX9_gives_0 rfl rfl ?_
  refine j_iconst (pc := 1) dX9_gives_1 (v := 0) (by decide) ?_
  refine j_putI (pc := 2) dX9_gives_2 fl860 fp9_14 k0 (by decide) rfl hf (fun m1 hf => ?_)
  refine j_aload_n (pc := 5) 0 dX9_gives_5 rfl rfl ?_
  refine j_iconst (pc := 6) dX9_gives_6 (v := 0) (by decide) ?_
  refine j_putI (pc := 7) dX9_gives_7 fl861 fp9_15 k0 (by decide) rfl hf (fun m2 hf => ?_)
  refine j_iload_n (pc := 10) 1 dX9_gives_10 rfl rfl ?_
  refine j_bipush (pc := 11) dX9_gives_11 (v := 6) (by decide) ?_
  refine j_icmp_ne (pc := 13) (tgt := 24) dX9_gives_13 (by decide) hf (fun _ hf => ?_) (fun _ hf => ?_)
  · refine j_aload_n (pc := 24) 0 dX9_gives_24 rfl rfl ?_
    refine j_iload_n (pc := 25) 1 dX9_gives_25 rfl rfl ?_
    refine j_iload_n (pc := 26) 2 dX9_gives_26 rfl rfl ?_
    refine j_callVi (pc := 27) (d := d) (As := [.int x1, .int x2]) (st := []) dX9_gives_27 s1154 k0 (by decide) rfl rfl (by decide) (Nat.le_of_ble_eq_true rfl) (fun q hq => t_X9_givesByPrice (by omega) k0 hq) hf (fun q3 hf => ?_)
    exact j_zret (pc := 30) dX9_gives_30 rfl hf
  · refine j_aload_n (pc := 16) 0 dX9_gives_16 rfl rfl ?_
    refine j_iload_n (pc := 17) 2 dX9_gives_17 rfl rfl ?_
    refine j_callVi (pc := 18) (d := d) (As := [.int x2]) (st := []) dX9_gives_18 s1142 k0 (by decide) rfl rfl (by decide) (Nat.le_of_ble_eq_true rfl) (fun q hq => t_X9_givesByRests (by omega) k0 hq) hf (fun q4 hf => ?_)
    refine j_goto (pc := 21) (tgt := 30) dX9_gives_21 (by decide) ?_
    exact j_zret (pc := 30) dX9_gives_30 rfl hf
def f_X9_told (a0 : Nat) (x1 : Int32) (h : Hp) : Option (Int32 × Hp) := (f_X9_within (Int32.toInt64 x1) 10 13 h).bind (fun q1 => if q1.1 = 0 then ((f_X9_within (Int32.toInt64 x1) 20 25 q1.2).bind (fun q2 => if q2.1 = 0 then ((f_X9_within (Int32.toInt64 x1) 30 35 q2.2).bind (fun q3 => if q3.1 = 0 then (if x1 = 0 then ((f_X9_all a0 q3.2).bind (fun q4 => some (q4.1, q4.2))) else (if x1 = 1 then ((f_X9_allSeats a0 q3.2).bind (fun q6 => some (q6.1, q6.2))) else (if x1 = 2 then ((f_X9_wayNow a0 q3.2).bind (fun q8 => some (q8.1, q8.2))) else (if x1 = 3 then (if ix 40 44 = true then (some (q3.2.1 (a0 + 1) (Int32.toNatClampNeg 40), q3.2)) else none) else (if x1 = 4 then (if ix 42 44 = true then (some (q3.2.1 (a0 + 1) (Int32.toNatClampNeg 42), q3.2)) else none) else (if x1 = 5 then (if ix 43 44 = true then (some (q3.2.1 (a0 + 1) (Int32.toNatClampNeg 43), q3.2)) else none) else (if x1 = 6 then (some (q3.2.1 a0 6, q3.2)) else (if x1 = 7 then (some (q3.2.1 a0 28, q3.2)) else (if x1 = 8 then ((f_X9_listsIn a0 q3.2).bind (fun q15 => some (q15.1, q15.2))) else (if x1 = 9 then ((f_X9_wardsWithSeats a0 q3.2).bind (fun q17 => some (q17.1, q17.2))) else (some ((-1), q3.2)))))))))))) else ((f_X9_listOf a0 (x1 - 30) q3.2).bind (fun q19 => some (q19.1, q19.2))))) else ((f_X9_leastOf a0 (x1 - 20) q2.2).bind (fun q20 => some (q20.1, q20.2))))) else ((f_X9_seatsOf a0 (x1 - 10) q1.2).bind (fun q21 => some (q21.1, q21.2))))
set_option maxHeartbeats 4000000 in
set_option maxRecDepth 100000 in
theorem t_X9_told {l : Launch} {D : va_G} {ad : Nat → Nat} {cA : Nat → ClassId} {d : Nat} (hdp : 5 ≤ d) {a0 : Nat} {x1 : Int32} (k0 : kd a0 = 9) {h : Hp} {o : Int32 × Hp} (hf : f_X9_told a0 x1 h = some o) : Cr l D ad cA d yX9_told cX9_told 2 (some .int) [.ref (ad a0), .int x1] h (some (.int o.1)) o.2 := by
  obtain ⟨d, rfl⟩ : ∃ e, d = e + 1 := ⟨d - 1, by omega⟩
  have hdp : 4 ≤ d := by omega
  unfold f_X9_told at hf
  refine Cr_of (by decide +kernel) rfl (Nat.le_of_ble_eq_true rfl) (lv0 := [(0, .ref (ad a0)), (1, .int x1)]) rfl ?_
  refine j_iload_n (pc := 0) 1 dX9_told_0 rfl rfl ?_
  refine j_i2l (pc := 1) dX9_told_1  ?_
  refine j_ldc2_w (pc := 2) dX9_told_2 (v := 10) w_c1373 ?_
  refine j_ldc2_w (pc := 5) dX9_told_5 (v := 13) w_c1374 ?_
  refine j_callSi (pc := 8) (d := d) (As := [.long (Int32.toInt64 x1), .long 10, .long 13]) (st := []) dX9_told_8 s982 rfl rfl (by decide) (Nat.le_of_ble_eq_true rfl) (fun q hq => t_X9_within  hq) hf (fun q1 hf => ?_)
  refine j_if_eq (pc := 11) (tgt := 23) dX9_told_11 (by decide) hf (fun _ hf => ?_) (fun _ hf => ?_)
  · refine j_iload_n (pc := 23) 1 dX9_told_23 rfl rfl ?_
    refine j_i2l (pc := 24) dX9_told_24  ?_
    refine j_ldc2_w (pc := 25) dX9_told_25 (v := 20) w_c1375 ?_
    refine j_ldc2_w (pc := 28) dX9_told_28 (v := 25) w_c1376 ?_
    refine j_callSi (pc := 31) (d := d) (As := [.long (Int32.toInt64 x1), .long 20, .long 25]) (st := []) dX9_told_31 s982 rfl rfl (by decide) (Nat.le_of_ble_eq_true rfl) (fun q hq => t_X9_within  hq) hf (fun q2 hf => ?_)
    refine j_if_eq (pc := 34) (tgt := 46) dX9_told_34 (by decide) hf (fun _ hf => ?_) (fun _ hf => ?_)
    · refine j_iload_n (pc := 46) 1 dX9_told_46 rfl rfl ?_
      refine j_i2l (pc := 47) dX9_told_47  ?_
      refine j_ldc2_w (pc := 48) dX9_told_48 (v := 30) w_c1018 ?_
      refine j_ldc2_w (pc := 51) dX9_told_51 (v := 35) w_c1377 ?_
      refine j_callSi (pc := 54) (d := d) (As := [.long (Int32.toInt64 x1), .long 30, .long 35]) (st := []) dX9_told_54 s982 rfl rfl (by decide) (Nat.le_of_ble_eq_true rfl) (fun q hq => t_X9_within  hq) hf (fun q3 hf => ?_)
      refine j_if_eq (pc := 57) (tgt := 69) dX9_told_57 (by decide) hf (fun _ hf => ?_) (fun _ hf => ?_)
      · refine j_iload_n (pc := 69) 1 dX9_told_69 rfl rfl ?_
        refine j_ite hf (fun hc5 hf => ?_) (fun hc5 hf => ?_)
        · refine j_tin (pc := 70) (tgt := 124) dX9_told_70 (by rw [hc5]; decide) (by rw [hc5]; decide) (by rw [hc5]; rfl) (by decide) ?_
          refine j_aload_n (pc := 124) 0 dX9_told_124 rfl rfl ?_
          refine j_callVi (pc := 125) (d := d) (As := []) (st := []) dX9_told_125 s998 k0 (by decide) rfl rfl (by decide) (Nat.le_of_ble_eq_true rfl) (fun q hq => t_X9_all (by omega) k0 hq) hf (fun q4 hf => ?_)
          exact j_iret (pc := 128) dX9_told_128 rfl hf
        refine j_ite hf (fun hc7 hf => ?_) (fun hc7 hf => ?_)
        · refine j_tin (pc := 70) (tgt := 129) dX9_told_70 (by rw [hc7]; decide) (by rw [hc7]; decide) (by rw [hc7]; rfl) (by decide) ?_
          refine j_aload_n (pc := 129) 0 dX9_told_129 rfl rfl ?_
          refine j_callVi (pc := 130) (d := d) (As := []) (st := []) dX9_told_130 s1271 k0 (by decide) rfl rfl (by decide) (Nat.le_of_ble_eq_true rfl) (fun q hq => t_X9_allSeats (by omega) k0 hq) hf (fun q6 hf => ?_)
          exact j_iret (pc := 133) dX9_told_133 rfl hf
        refine j_ite hf (fun hc9 hf => ?_) (fun hc9 hf => ?_)
        · refine j_tin (pc := 70) (tgt := 134) dX9_told_70 (by rw [hc9]; decide) (by rw [hc9]; decide) (by rw [hc9]; rfl) (by decide) ?_
          refine j_aload_n (pc := 134) 0 dX9_told_134 rfl rfl ?_
          refine j_callVi (pc := 135) (d := d) (As := []) (st := []) dX9_told_135 s1079 k0 (by decide) rfl rfl (by decide) (Nat.le_of_ble_eq_true rfl) (fun q hq => t_X9_wayNow k0 hq) hf (fun q8 hf => ?_)
          exact j_iret (pc := 138) dX9_told_138 rfl hf
        refine j_ite hf (fun hc10 hf => ?_) (fun hc10 hf => ?_)
        · refine j_tin (pc := 70) (tgt := 139) dX9_told_70 (by rw [hc10]; decide) (by rw [hc10]; decide) (by rw [hc10]; rfl) (by decide) ?_
          refine j_aload_n (pc := 139) 0 dX9_told_139 rfl rfl ?_
          refine j_getR (pc := 140) (n := 1) dX9_told_140 fl846 k0 (by decide) rfl ?_
          refine j_bipush (pc := 143) dX9_told_143 (v := 40) (by decide) ?_
          refine j_iaload (pc := 145) dX9_told_145 (lk_9_0 k0) (ll_9_0 k0) hf (fun _ hf => ?_)
          exact j_iret (pc := 146) dX9_told_146 rfl hf
        refine j_ite hf (fun hc11 hf => ?_) (fun hc11 hf => ?_)
        · refine j_tin (pc := 70) (tgt := 147) dX9_told_70 (by rw [hc11]; decide) (by rw [hc11]; decide) (by rw [hc11]; rfl) (by decide) ?_
          refine j_aload_n (pc := 147) 0 dX9_told_147 rfl rfl ?_
          refine j_getR (pc := 148) (n := 1) dX9_told_148 fl846 k0 (by decide) rfl ?_
          refine j_bipush (pc := 151) dX9_told_151 (v := 42) (by decide) ?_
          refine j_iaload (pc := 153) dX9_told_153 (lk_9_0 k0) (ll_9_0 k0) hf (fun _ hf => ?_)
          exact j_iret (pc := 154) dX9_told_154 rfl hf
        refine j_ite hf (fun hc12 hf => ?_) (fun hc12 hf => ?_)
        · refine j_tin (pc := 70) (tgt := 155) dX9_told_70 (by rw [hc12]; decide) (by rw [hc12]; decide) (by rw [hc12]; rfl) (by decide) ?_
          refine j_aload_n (pc := 155) 0 dX9_told_155 rfl rfl ?_
          refine j_getR (pc := 156) (n := 1) dX9_told_156 fl846 k0 (by decide) rfl ?_
          refine j_bipush (pc := 159) dX9_told_159 (v := 43) (by decide) ?_
          refine j_iaload (pc := 161) dX9_told_161 (lk_9_0 k0) (ll_9_0 k0) hf (fun _ hf => ?_)
          exact j_iret (pc := 162) dX9_told_162 rfl hf
        refine j_ite hf (fun hc13 hf => ?_) (fun hc13 hf => ?_)
        · refine j_tin (pc := 70) (tgt := 163) dX9_told_70 (by rw [hc13]; decide) (by rw [hc13]; decide) (by rw [hc13]; rfl) (by decide) ?_
          refine j_aload_n (pc := 163) 0 dX9_told_163 rfl rfl ?_
          refine j_getI (pc := 164) dX9_told_164 fl852 k0 (by decide) rfl ?_
          exact j_iret (pc := 167) dX9_told_167 rfl hf
        refine j_ite hf (fun hc14 hf => ?_) (fun hc14 hf => ?_)
        · refine j_tin (pc := 70) (tgt := 168) dX9_told_70 (by rw [hc14]; decide) (by rw [hc14]; decide) (by rw [hc14]; rfl) (by decide) ?_
          refine j_aload_n (pc := 168) 0 dX9_told_168 rfl rfl ?_
          refine j_getI (pc := 169) dX9_told_169 fl874 k0 (by decide) rfl ?_
          exact j_iret (pc := 172) dX9_told_172 rfl hf
        refine j_ite hf (fun hc16 hf => ?_) (fun hc16 hf => ?_)
        · refine j_tin (pc := 70) (tgt := 173) dX9_told_70 (by rw [hc16]; decide) (by rw [hc16]; decide) (by rw [hc16]; rfl) (by decide) ?_
          refine j_aload_n (pc := 173) 0 dX9_told_173 rfl rfl ?_
          refine j_callVi (pc := 174) (d := d) (As := []) (st := []) dX9_told_174 s1378 k0 (by decide) rfl rfl (by decide) (Nat.le_of_ble_eq_true rfl) (fun q hq => t_X9_listsIn (by omega) k0 hq) hf (fun q15 hf => ?_)
          exact j_iret (pc := 177) dX9_told_177 rfl hf
        refine j_ite hf (fun hc18 hf => ?_) (fun hc18 hf => ?_)
        · refine j_tin (pc := 70) (tgt := 178) dX9_told_70 (by rw [hc18]; decide) (by rw [hc18]; decide) (by rw [hc18]; rfl) (by decide) ?_
          refine j_aload_n (pc := 178) 0 dX9_told_178 rfl rfl ?_
          refine j_callVi (pc := 179) (d := d) (As := []) (st := []) dX9_told_179 s1382 k0 (by decide) rfl rfl (by decide) (Nat.le_of_ble_eq_true rfl) (fun q hq => t_X9_wardsWithSeats (by omega) k0 hq) hf (fun q17 hf => ?_)
          exact j_iret (pc := 182) dX9_told_182 rfl hf
        refine j_tout (pc := 70) (tgt := 183) dX9_told_70 (tsw (lo := 0) (hi := 9) (by decide) (fun j h1 h2 => by
            rcases (show j = 0 ∨ j = 1 ∨ j = 2 ∨ j = 3 ∨ j = 4 ∨ j = 5 ∨ j = 6 ∨ j = 7 ∨ j = 8 ∨ j = 9 by omega) with rfl | rfl | rfl | rfl | rfl | rfl | rfl | rfl | rfl | rfl
            · exact hc5
            · exact hc7
            · exact hc9
            · exact hc10
            · exact hc11
            · exact hc12
            · exact hc13
            · exact hc14
            · exact hc16
            · exact hc18)) (by decide) ?_
        refine j_iconst (pc := 183) dX9_told_183 (v := -1) (by decide) ?_
        exact j_iret (pc := 184) dX9_told_184 rfl hf
      · refine j_aload_n (pc := 60) 0 dX9_told_60 rfl rfl ?_
        refine j_iload_n (pc := 61) 1 dX9_told_61 rfl rfl ?_
        refine j_bipush (pc := 62) dX9_told_62 (v := 30) (by decide) ?_
        refine j_isub (pc := 64) dX9_told_64  ?_
        refine j_callVi (pc := 65) (d := d) (As := [.int (x1 - 30)]) (st := []) dX9_told_65 s1126 k0 (by decide) rfl rfl (by decide) (Nat.le_of_ble_eq_true rfl) (fun q hq => t_X9_listOf k0 hq) hf (fun q19 hf => ?_)
        exact j_iret (pc := 68) dX9_told_68 rfl hf
    · refine j_aload_n (pc := 37) 0 dX9_told_37 rfl rfl ?_
      refine j_iload_n (pc := 38) 1 dX9_told_38 rfl rfl ?_
      refine j_bipush (pc := 39) dX9_told_39 (v := 20) (by decide) ?_
      refine j_isub (pc := 41) dX9_told_41  ?_
      refine j_callVi (pc := 42) (d := d) (As := [.int (x1 - 20)]) (st := []) dX9_told_42 s1130 k0 (by decide) rfl rfl (by decide) (Nat.le_of_ble_eq_true rfl) (fun q hq => t_X9_leastOf k0 hq) hf (fun q20 hf => ?_)
      exact j_iret (pc := 45) dX9_told_45 rfl hf
  · refine j_aload_n (pc := 14) 0 dX9_told_14 rfl rfl ?_
    refine j_iload_n (pc := 15) 1 dX9_told_15 rfl rfl ?_
    refine j_bipush (pc := 16) dX9_told_16 (v := 10) (by decide) ?_
    refine j_isub (pc := 18) dX9_told_18  ?_
    refine j_callVi (pc := 19) (d := d) (As := [.int (x1 - 10)]) (st := []) dX9_told_19 s1275 k0 (by decide) rfl rfl (by decide) (Nat.le_of_ble_eq_true rfl) (fun q hq => t_X9_seatsOf k0 hq) hf (fun q21 hf => ?_)
    exact j_iret (pc := 22) dX9_told_22 rfl hf
def f_X8_differ (a0 : Nat) (x1 : Int32) (x2 : Int32) (x3 : Int32) (h : Hp) : Option (Int32 × Hp) := (f_X8_within x2 6 h).bind (fun q1 => if q1.1 = 0 then (some ((-1), q1.2)) else ((f_X8_within x3 6 q1.2).bind (fun q2 => if q2.1 = 0 then (some ((-1), q2.2)) else ((f_X8_within x1 60 q2.2).bind (fun q3 => if q3.1 = 0 then (some ((-2), q3.2)) else ((f_X1_fill (a0 + 16) (a0 + 1) x2 x1 q3.2).bind (fun q4 => if q4.1 = 0 then (some ((-3), q4.2)) else ((f_X1_fill (a0 + 36) (a0 + 1) x3 x1 q4.2).bind (fun q5 => if q5.1 = 0 then (some ((-3), q5.2)) else ((f_X1_awayFrom (a0 + 16) (a0 + 36) q5.2).bind (fun q6 => if 2 = 0 then none else (some (q6.1 / 2, q6.2)))))))))))))
set_option maxHeartbeats 4000000 in
set_option maxRecDepth 100000 in
theorem t_X8_differ {l : Launch} {D : va_G} {ad : Nat → Nat} {cA : Nat → ClassId} {d : Nat} (hdp : 6 ≤ d) {a0 : Nat} {x1 : Int32} {x2 : Int32} {x3 : Int32} (k0 : kd a0 = 8) {h : Hp} {o : Int32 × Hp} (hf : f_X8_differ a0 x1 x2 x3 h = some o) : Cr l D ad cA d yX8_differ cX8_differ 4 (some .int) [.ref (ad a0), .int x1, .int x2, .int x3] h (some (.int o.1)) o.2 := by
  obtain ⟨d, rfl⟩ : ∃ e, d = e + 1 := ⟨d - 1, by omega⟩
  have hdp : 5 ≤ d := by omega
  unfold f_X8_differ at hf
  refine Cr_of (by decide +kernel) rfl (Nat.le_of_ble_eq_true rfl) (lv0 := [(0, .ref (ad a0)), (1, .int x1), (2, .int x2), (3, .int x3)]) rfl ?_
  refine j_iload_n (pc := 0) 2 dX8_differ_0 rfl rfl ?_
  refine j_bipush (pc := 1) dX8_differ_1 (v := 6) (by decide) ?_
  refine j_callSi (pc := 3) (d := d) (As := [.int x2, .int 6]) (st := []) dX8_differ_3 s370 rfl rfl (by decide) (Nat.le_of_ble_eq_true rfl) (fun q hq => t_X8_within  hq) hf (fun q1 hf => ?_)
  refine j_if_eq (pc := 6) (tgt := 18) dX8_differ_6 (by decide) hf (fun _ hf => ?_) (fun _ hf => ?_)
  · refine j_iconst (pc := 18) dX8_differ_18 (v := -1) (by decide) ?_
    exact j_iret (pc := 19) dX8_differ_19 rfl hf
  · refine j_iload_n (pc := 9) 3 dX8_differ_9 rfl rfl ?_
    refine j_bipush (pc := 10) dX8_differ_10 (v := 6) (by decide) ?_
    refine j_callSi (pc := 12) (d := d) (As := [.int x3, .int 6]) (st := []) dX8_differ_12 s370 rfl rfl (by decide) (Nat.le_of_ble_eq_true rfl) (fun q hq => t_X8_within  hq) hf (fun q2 hf => ?_)
    refine j_if_ne (pc := 15) (tgt := 20) dX8_differ_15 (by decide) hf (fun _ hf => ?_) (fun _ hf => ?_)
    · refine j_iload_n (pc := 20) 1 dX8_differ_20 rfl rfl ?_
      refine j_bipush (pc := 21) dX8_differ_21 (v := 60) (by decide) ?_
      refine j_callSi (pc := 23) (d := d) (As := [.int x1, .int 60]) (st := []) dX8_differ_23 s370 rfl rfl (by decide) (Nat.le_of_ble_eq_true rfl) (fun q hq => t_X8_within  hq) hf (fun q3 hf => ?_)
      refine j_if_ne (pc := 26) (tgt := 32) dX8_differ_26 (by decide) hf (fun _ hf => ?_) (fun _ hf => ?_)
      · refine j_aload_n (pc := 32) 0 dX8_differ_32 rfl rfl ?_
        refine j_getR (pc := 33) (n := 16) dX8_differ_33 fl335 k0 (by decide) rfl ?_
        refine j_aload_n (pc := 36) 0 dX8_differ_36 rfl rfl ?_
        refine j_getR (pc := 37) (n := 1) dX8_differ_37 fl332 k0 (by decide) rfl ?_
        refine j_iload_n (pc := 40) 2 dX8_differ_40 rfl rfl ?_
        refine j_iload_n (pc := 41) 1 dX8_differ_41 rfl rfl ?_
        refine j_callVi (pc := 42) (d := d) (As := [.ref (ad (a0 + 1)), .int x2, .int x1]) (st := []) dX8_differ_42 s482 (lk_8_3 k0) (by decide) rfl rfl (by decide) (Nat.le_of_ble_eq_true rfl) (fun q hq => t_X1_fill (by omega) (lk_8_3 k0) (lk_8_0 k0) hq) hf (fun q4 hf => ?_)
        refine j_if_eq (pc := 45) (tgt := 64) dX8_differ_45 (by decide) hf (fun _ hf => ?_) (fun _ hf => ?_)
        · refine j_bipush (pc := 64) dX8_differ_64 (v := -3) (by decide) ?_
          exact j_iret (pc := 66) dX8_differ_66 rfl hf
        · refine j_aload_n (pc := 48) 0 dX8_differ_48 rfl rfl ?_
          refine j_getR (pc := 49) (n := 36) dX8_differ_49 fl336 k0 (by decide) rfl ?_
          refine j_aload_n (pc := 52) 0 dX8_differ_52 rfl rfl ?_
          refine j_getR (pc := 53) (n := 1) dX8_differ_53 fl332 k0 (by decide) rfl ?_
          refine j_iload_n (pc := 56) 3 dX8_differ_56 rfl rfl ?_
          refine j_iload_n (pc := 57) 1 dX8_differ_57 rfl rfl ?_
          refine j_callVi (pc := 58) (d := d) (As := [.ref (ad (a0 + 1)), .int x3, .int x1]) (st := []) dX8_differ_58 s482 (lk_8_4 k0) (by decide) rfl rfl (by decide) (Nat.le_of_ble_eq_true rfl) (fun q hq => t_X1_fill (by omega) (lk_8_4 k0) (lk_8_0 k0) hq) hf (fun q5 hf => ?_)
          refine j_if_ne (pc := 61) (tgt := 67) dX8_differ_61 (by decide) hf (fun _ hf => ?_) (fun _ hf => ?_)
          · refine j_aload_n (pc := 67) 0 dX8_differ_67 rfl rfl ?_
            refine j_getR (pc := 68) (n := 16) dX8_differ_68 fl335 k0 (by decide) rfl ?_
            refine j_aload_n (pc := 71) 0 dX8_differ_71 rfl rfl ?_
            refine j_getR (pc := 72) (n := 36) dX8_differ_72 fl336 k0 (by decide) rfl ?_
            refine j_callVi (pc := 75) (d := d) (As := [.ref (ad (a0 + 36))]) (st := []) dX8_differ_75 s575 (lk_8_3 k0) (by decide) rfl rfl (by decide) (Nat.le_of_ble_eq_true rfl) (fun q hq => t_X1_awayFrom (by omega) (lk_8_3 k0) (lk_8_4 k0) hq) hf (fun q6 hf => ?_)
            refine j_iconst (pc := 78) dX8_differ_78 (v := 2) (by decide) ?_
            refine j_idiv (pc := 79) dX8_differ_79 hf (fun hf => ?_)
            exact j_iret (pc := 80) dX8_differ_80 rfl hf
          · refine j_bipush (pc := 64) dX8_differ_64 (v := -3) (by decide) ?_
            exact j_iret (pc := 66) dX8_differ_66 rfl hf
      · refine j_bipush (pc := 29) dX8_differ_29 (v := -2) (by decide) ?_
        exact j_iret (pc := 31) dX8_differ_31 rfl hf
    · refine j_iconst (pc := 18) dX8_differ_18 (v := -1) (by decide) ?_
      exact j_iret (pc := 19) dX8_differ_19 rfl hf
def f_X8_fillByPrices (a0 : Nat) (x1 : Int32) (h : Hp) : Option (Int32 × Hp) := (f_X8_within x1 60 h).bind (fun q1 => if q1.1 = 0 then (some ((-2), q1.2)) else (if (q1.2.1 (a0 + 1) 5) = 6 then (some ((-3), q1.2)) else ((f_X1_fill (a0 + 16) (a0 + 1) (q1.2.1 (a0 + 1) 5) x1 q1.2).bind (fun q2 => if q2.1 = 0 then (some ((-3), q2.2)) else (some (0, q2.2))))))
set_option maxHeartbeats 4000000 in
set_option maxRecDepth 100000 in
theorem t_X8_fillByPrices {l : Launch} {D : va_G} {ad : Nat → Nat} {cA : Nat → ClassId} {d : Nat} (hdp : 6 ≤ d) {a0 : Nat} {x1 : Int32} (k0 : kd a0 = 8) {h : Hp} {o : Int32 × Hp} (hf : f_X8_fillByPrices a0 x1 h = some o) : Cr l D ad cA d yX8_fillByPrices cX8_fillByPrices 2 (some .int) [.ref (ad a0), .int x1] h (some (.int o.1)) o.2 := by
  obtain ⟨d, rfl⟩ : ∃ e, d = e + 1 := ⟨d - 1, by omega⟩
  have hdp : 5 ≤ d := by omega
  unfold f_X8_fillByPrices at hf
  refine Cr_of (by decide +kernel) rfl (Nat.le_of_ble_eq_true rfl) (lv0 := [(0, .ref (ad a0)), (1, .int x1)]) rfl ?_
  refine j_iload_n (pc := 0) 1 dX8_fillByPrices_0 rfl rfl ?_
  refine j_bipush (pc := 1) dX8_fillByPrices_1 (v := 60) (by decide) ?_
  refine j_callSi (pc := 3) (d := d) (As := [.int x1, .int 60]) (st := []) dX8_fillByPrices_3 s370 rfl rfl (by decide) (Nat.le_of_ble_eq_true rfl) (fun q hq => t_X8_within  hq) hf (fun q1 hf => ?_)
  refine j_if_ne (pc := 6) (tgt := 12) dX8_fillByPrices_6 (by decide) hf (fun _ hf => ?_) (fun _ hf => ?_)
  · refine j_aload_n (pc := 12) 0 dX8_fillByPrices_12 rfl rfl ?_
    refine j_getR (pc := 13) (n := 1) dX8_fillByPrices_13 fl332 k0 (by decide) rfl ?_
    refine j_getI (pc := 16) dX8_fillByPrices_16 fl117 (lk_8_0 k0) (by decide) rfl ?_
    refine j_bipush (pc := 19) dX8_fillByPrices_19 (v := 6) (by decide) ?_
    refine j_icmp_eq (pc := 21) (tgt := 50) dX8_fillByPrices_21 (by decide) hf (fun _ hf => ?_) (fun _ hf => ?_)
    · refine j_bipush (pc := 50) dX8_fillByPrices_50 (v := -3) (by decide) ?_
      exact j_iret (pc := 52) dX8_fillByPrices_52 rfl hf
    · refine j_aload_n (pc := 24) 0 dX8_fillByPrices_24 rfl rfl ?_
      refine j_getR (pc := 25) (n := 16) dX8_fillByPrices_25 fl335 k0 (by decide) rfl ?_
      refine j_aload_n (pc := 28) 0 dX8_fillByPrices_28 rfl rfl ?_
      refine j_getR (pc := 29) (n := 1) dX8_fillByPrices_29 fl332 k0 (by decide) rfl ?_
      refine j_aload_n (pc := 32) 0 dX8_fillByPrices_32 rfl rfl ?_
      refine j_getR (pc := 33) (n := 1) dX8_fillByPrices_33 fl332 k0 (by decide) rfl ?_
      refine j_getI (pc := 36) dX8_fillByPrices_36 fl117 (lk_8_0 k0) (by decide) rfl ?_
      refine j_iload_n (pc := 39) 1 dX8_fillByPrices_39 rfl rfl ?_
      refine j_callVi (pc := 40) (d := d) (As := [.ref (ad (a0 + 1)), .int (q1.2.1 (a0 + 1) 5), .int x1]) (st := []) dX8_fillByPrices_40 s482 (lk_8_3 k0) (by decide) rfl rfl (by decide) (Nat.le_of_ble_eq_true rfl) (fun q hq => t_X1_fill (by omega) (lk_8_3 k0) (lk_8_0 k0) hq) hf (fun q2 hf => ?_)
      refine j_if_eq (pc := 43) (tgt := 50) dX8_fillByPrices_43 (by decide) hf (fun _ hf => ?_) (fun _ hf => ?_)
      · refine j_bipush (pc := 50) dX8_fillByPrices_50 (v := -3) (by decide) ?_
        exact j_iret (pc := 52) dX8_fillByPrices_52 rfl hf
      · refine j_iconst (pc := 46) dX8_fillByPrices_46 (v := 0) (by decide) ?_
        refine j_goto (pc := 47) (tgt := 52) dX8_fillByPrices_47 (by decide) ?_
        exact j_iret (pc := 52) dX8_fillByPrices_52 rfl hf
  · refine j_bipush (pc := 9) dX8_fillByPrices_9 (v := -2) (by decide) ?_
    exact j_iret (pc := 11) dX8_fillByPrices_11 rfl hf
def f_X8_fillNow (a0 : Nat) (x1 : Int32) (h : Hp) : Option (Int32 × Hp) := (f_X8_within x1 60 h).bind (fun q1 => if q1.1 = 0 then (some ((-2), q1.2)) else ((f_X1_fill (a0 + 16) (a0 + 1) (q1.2.1 (a0 + 1) 5) x1 q1.2).bind (fun q2 => if q2.1 = 0 then (some ((-3), q2.2)) else (some (0, q2.2)))))
set_option maxHeartbeats 4000000 in
set_option maxRecDepth 100000 in
theorem t_X8_fillNow {l : Launch} {D : va_G} {ad : Nat → Nat} {cA : Nat → ClassId} {d : Nat} (hdp : 6 ≤ d) {a0 : Nat} {x1 : Int32} (k0 : kd a0 = 8) {h : Hp} {o : Int32 × Hp} (hf : f_X8_fillNow a0 x1 h = some o) : Cr l D ad cA d yX8_fillNow cX8_fillNow 2 (some .int) [.ref (ad a0), .int x1] h (some (.int o.1)) o.2 := by
  obtain ⟨d, rfl⟩ : ∃ e, d = e + 1 := ⟨d - 1, by omega⟩
  have hdp : 5 ≤ d := by omega
  unfold f_X8_fillNow at hf
  refine Cr_of (by decide +kernel) rfl (Nat.le_of_ble_eq_true rfl) (lv0 := [(0, .ref (ad a0)), (1, .int x1)]) rfl ?_
  refine j_iload_n (pc := 0) 1 dX8_fillNow_0 rfl rfl ?_
  refine j_bipush (pc := 1) dX8_fillNow_1 (v := 60) (by decide) ?_
  refine j_callSi (pc := 3) (d := d) (As := [.int x1, .int 60]) (st := []) dX8_fillNow_3 s370 rfl rfl (by decide) (Nat.le_of_ble_eq_true rfl) (fun q hq => t_X8_within  hq) hf (fun q1 hf => ?_)
  refine j_if_ne (pc := 6) (tgt := 12) dX8_fillNow_6 (by decide) hf (fun _ hf => ?_) (fun _ hf => ?_)
  · refine j_aload_n (pc := 12) 0 dX8_fillNow_12 rfl rfl ?_
    refine j_getR (pc := 13) (n := 16) dX8_fillNow_13 fl335 k0 (by decide) rfl ?_
    refine j_aload_n (pc := 16) 0 dX8_fillNow_16 rfl rfl ?_
    refine j_getR (pc := 17) (n := 1) dX8_fillNow_17 fl332 k0 (by decide) rfl ?_
    refine j_aload_n (pc := 20) 0 dX8_fillNow_20 rfl rfl ?_
    refine j_getR (pc := 21) (n := 1) dX8_fillNow_21 fl332 k0 (by decide) rfl ?_
    refine j_getI (pc := 24) dX8_fillNow_24 fl117 (lk_8_0 k0) (by decide) rfl ?_
    refine j_iload_n (pc := 27) 1 dX8_fillNow_27 rfl rfl ?_
    refine j_callVi (pc := 28) (d := d) (As := [.ref (ad (a0 + 1)), .int (q1.2.1 (a0 + 1) 5), .int x1]) (st := []) dX8_fillNow_28 s482 (lk_8_3 k0) (by decide) rfl rfl (by decide) (Nat.le_of_ble_eq_true rfl) (fun q hq => t_X1_fill (by omega) (lk_8_3 k0) (lk_8_0 k0) hq) hf (fun q2 hf => ?_)
    refine j_if_eq (pc := 31) (tgt := 38) dX8_fillNow_31 (by decide) hf (fun _ hf => ?_) (fun _ hf => ?_)
    · refine j_bipush (pc := 38) dX8_fillNow_38 (v := -3) (by decide) ?_
      exact j_iret (pc := 40) dX8_fillNow_40 rfl hf
    · refine j_iconst (pc := 34) dX8_fillNow_34 (v := 0) (by decide) ?_
      refine j_goto (pc := 35) (tgt := 40) dX8_fillNow_35 (by decide) ?_
      exact j_iret (pc := 40) dX8_fillNow_40 rfl hf
  · refine j_bipush (pc := 9) dX8_fillNow_9 (v := -2) (by decide) ?_
    exact j_iret (pc := 11) dX8_fillNow_11 rfl hf
def f_X8_loser (a0 : Nat) (x1 : Int32) (h : Hp) : Option (Int32 × Hp) := if x1 < 1 then (some ((-2), h)) else (if x1 ≤ 60 then ((f_X1_fill (a0 + 36) (a0 + 1) (h.1 (a0 + 1) 5) (x1 - 1) h).bind (fun q1 => if q1.1 = 0 then (some ((-5), q1.2)) else ((f_X1_fill (a0 + 16) (a0 + 1) (q1.2.1 (a0 + 1) 5) x1 q1.2).bind (fun q2 => if q2.1 = 0 then (some ((-5), q2.2)) else ((f_X1_leastBelow (a0 + 16) (a0 + 36) q2.2).bind (fun q3 => if q3.1 < 0 then (some ((-5), q3.2)) else (some (q3.1, q3.2)))))))) else (some ((-2), h)))
set_option maxHeartbeats 4000000 in
set_option maxRecDepth 100000 in
theorem t_X8_loser {l : Launch} {D : va_G} {ad : Nat → Nat} {cA : Nat → ClassId} {d : Nat} (hdp : 6 ≤ d) {a0 : Nat} {x1 : Int32} (k0 : kd a0 = 8) {h : Hp} {o : Int32 × Hp} (hf : f_X8_loser a0 x1 h = some o) : Cr l D ad cA d yX8_loser cX8_loser 3 (some .int) [.ref (ad a0), .int x1] h (some (.int o.1)) o.2 := by
  obtain ⟨d, rfl⟩ : ∃ e, d = e + 1 := ⟨d - 1, by omega⟩
  have hdp : 5 ≤ d := by omega
  unfold f_X8_loser at hf
  refine Cr_of (by decide +kernel) rfl (Nat.le_of_ble_eq_true rfl) (lv0 := [(0, .ref (ad a0)), (1, .int x1)]) rfl ?_
  refine j_iload_n (pc := 0) 1 dX8_loser_0 rfl rfl ?_
  refine j_iconst (pc := 1) dX8_loser_1 (v := 1) (by decide) ?_
  refine j_icmp_lt (pc := 2) (tgt := 11) dX8_loser_2 (by decide) hf (fun _ hf => ?_) (fun _ hf => ?_)
  · refine j_bipush (pc := 11) dX8_loser_11 (v := -2) (by decide) ?_
    exact j_iret (pc := 13) dX8_loser_13 rfl hf
  · refine j_iload_n (pc := 5) 1 dX8_loser_5 rfl rfl ?_
    refine j_bipush (pc := 6) dX8_loser_6 (v := 60) (by decide) ?_
    refine j_icmp_le (pc := 8) (tgt := 14) dX8_loser_8 (by decide) hf (fun _ hf => ?_) (fun _ hf => ?_)
    · refine j_aload_n (pc := 14) 0 dX8_loser_14 rfl rfl ?_
      refine j_getR (pc := 15) (n := 36) dX8_loser_15 fl336 k0 (by decide) rfl ?_
      refine j_aload_n (pc := 18) 0 dX8_loser_18 rfl rfl ?_
      refine j_getR (pc := 19) (n := 1) dX8_loser_19 fl332 k0 (by decide) rfl ?_
      refine j_aload_n (pc := 22) 0 dX8_loser_22 rfl rfl ?_
      refine j_getR (pc := 23) (n := 1) dX8_loser_23 fl332 k0 (by decide) rfl ?_
      refine j_getI (pc := 26) dX8_loser_26 fl117 (lk_8_0 k0) (by decide) rfl ?_
      refine j_iload_n (pc := 29) 1 dX8_loser_29 rfl rfl ?_
      refine j_iconst (pc := 30) dX8_loser_30 (v := 1) (by decide) ?_
      refine j_isub (pc := 31) dX8_loser_31  ?_
      refine j_callVi (pc := 32) (d := d) (As := [.ref (ad (a0 + 1)), .int (h.1 (a0 + 1) 5), .int (x1 - 1)]) (st := []) dX8_loser_32 s482 (lk_8_4 k0) (by decide) rfl rfl (by decide) (Nat.le_of_ble_eq_true rfl) (fun q hq => t_X1_fill (by omega) (lk_8_4 k0) (lk_8_0 k0) hq) hf (fun q1 hf => ?_)
      refine j_if_eq (pc := 35) (tgt := 60) dX8_loser_35 (by decide) hf (fun _ hf => ?_) (fun _ hf => ?_)
      · refine j_bipush (pc := 60) dX8_loser_60 (v := -5) (by decide) ?_
        exact j_iret (pc := 62) dX8_loser_62 rfl hf
      · refine j_aload_n (pc := 38) 0 dX8_loser_38 rfl rfl ?_
        refine j_getR (pc := 39) (n := 16) dX8_loser_39 fl335 k0 (by decide) rfl ?_
        refine j_aload_n (pc := 42) 0 dX8_loser_42 rfl rfl ?_
        refine j_getR (pc := 43) (n := 1) dX8_loser_43 fl332 k0 (by decide) rfl ?_
        refine j_aload_n (pc := 46) 0 dX8_loser_46 rfl rfl ?_
        refine j_getR (pc := 47) (n := 1) dX8_loser_47 fl332 k0 (by decide) rfl ?_
        refine j_getI (pc := 50) dX8_loser_50 fl117 (lk_8_0 k0) (by decide) rfl ?_
        refine j_iload_n (pc := 53) 1 dX8_loser_53 rfl rfl ?_
        refine j_callVi (pc := 54) (d := d) (As := [.ref (ad (a0 + 1)), .int (q1.2.1 (a0 + 1) 5), .int x1]) (st := []) dX8_loser_54 s482 (lk_8_3 k0) (by decide) rfl rfl (by decide) (Nat.le_of_ble_eq_true rfl) (fun q hq => t_X1_fill (by omega) (lk_8_3 k0) (lk_8_0 k0) hq) hf (fun q2 hf => ?_)
        refine j_if_ne (pc := 57) (tgt := 63) dX8_loser_57 (by decide) hf (fun _ hf => ?_) (fun _ hf => ?_)
        · refine j_aload_n (pc := 63) 0 dX8_loser_63 rfl rfl ?_
          refine j_getR (pc := 64) (n := 16) dX8_loser_64 fl335 k0 (by decide) rfl ?_
          refine j_aload_n (pc := 67) 0 dX8_loser_67 rfl rfl ?_
          refine j_getR (pc := 68) (n := 36) dX8_loser_68 fl336 k0 (by decide) rfl ?_
          refine j_callVi (pc := 71) (d := d) (As := [.ref (ad (a0 + 36))]) (st := []) dX8_loser_71 s586 (lk_8_3 k0) (by decide) rfl rfl (by decide) (Nat.le_of_ble_eq_true rfl) (fun q hq => t_X1_leastBelow (lk_8_3 k0) (lk_8_4 k0) hq) hf (fun q3 hf => ?_)
          refine j_istore_n (pc := 74) (lv' := [(2, .int q3.1), (0, .ref (ad a0)), (1, .int x1)]) dX8_loser_74 rfl (by decide) rfl ?_
          refine j_iload_n (pc := 75) 0 dX8_loser_75 rfl rfl ?_
          refine j_if_lt (pc := 76) (tgt := 83) dX8_loser_76 (by decide) hf (fun _ hf => ?_) (fun _ hf => ?_)
          · refine j_bipush (pc := 83) dX8_loser_83 (v := -5) (by decide) ?_
            exact j_iret (pc := 85) dX8_loser_85 rfl hf
          · refine j_iload_n (pc := 79) 0 dX8_loser_79 rfl rfl ?_
            refine j_goto (pc := 80) (tgt := 85) dX8_loser_80 (by decide) ?_
            exact j_iret (pc := 85) dX8_loser_85 rfl hf
        · refine j_bipush (pc := 60) dX8_loser_60 (v := -5) (by decide) ?_
          exact j_iret (pc := 62) dX8_loser_62 rfl hf
    · refine j_bipush (pc := 11) dX8_loser_11 (v := -2) (by decide) ?_
      exact j_iret (pc := 13) dX8_loser_13 rfl hf
def f_X8_loses_108 (k60 : Nat → Int32 → Nat → Nat → Int32 → Int32 → Hp → Option (Int32 × Hp)) (a0 : Nat) (x2 : Int32) (a3 : Nat) (a4 : Nat) (x6 : Int32) (x7 : Int32) (h : Hp) : Option (Int32 × Hp) := lt (x6 + 1) (fun v7 => k60 a0 x2 a4 a3 x7 v7 h)
set_option maxHeartbeats 4000000 in
set_option maxRecDepth 100000 in
theorem t_X8_loses_108 {l : Launch} {D : va_G} {ad : Nat → Nat} {cA : Nat → ClassId} {d : Nat} (hdp : 5 ≤ d) {o : Int32 × Hp} {k60 : Nat → Int32 → Nat → Nat → Int32 → Int32 → Hp → Option (Int32 × Hp)} (hk60 : ∀ {a0 : Nat} {x2 : Int32} {a3 : Nat} {a4 : Nat} {x5 : Int32} {x6 : Int32} (k0 : kd a0 = 8) (k3 : kd a3 = 1) (k4 : kd a4 = 1) {h : Hp}, k60 a0 x2 a3 a4 x5 x6 h = some o → J l D ad cA (fun _ => True) (rmd (d + 1)) (0, 0) (mQ D ad cA (some (.int o.1)) o.2) cX8_loses RX8 9 (some .int) 60 [(0, .ref (ad a0)), (2, .int x2), (3, .ref (ad a3)), (4, .ref (ad a4)), (5, .int x5), (6, .int x6)] [] h) {a0 : Nat} {x2 : Int32} {a3 : Nat} {a4 : Nat} {x6 : Int32} {x7 : Int32} (k0 : kd a0 = 8) (k3 : kd a3 = 1) (k4 : kd a4 = 1) {h : Hp} (hf : f_X8_loses_108 k60 a0 x2 a3 a4 x6 x7 h = some o) : J l D ad cA (fun _ => True) (rmd (d + 1)) (0, 0) (mQ D ad cA (some (.int o.1)) o.2) cX8_loses RX8 9 (some .int) 108 [(0, .ref (ad a0)), (2, .int x2), (3, .ref (ad a3)), (4, .ref (ad a4)), (6, .int x6), (7, .int x7)] [] h := by
  unfold f_X8_loses_108 at hf
  refine j_aload_n (pc := 108) 2 dX8_loses_108 rfl rfl ?_
  refine j_astore (pc := 109) (lv' := [(8, .ref (ad a3)), (0, .ref (ad a0)), (2, .int x2), (3, .ref (ad a3)), (4, .ref (ad a4)), (6, .int x6), (7, .int x7)]) dX8_loses_109 (by decide) rfl ?_
  refine j_aload (pc := 111) 4 dX8_loses_111 rfl ?_
  refine j_astore_n (pc := 113) (lv' := [(3, .ref (ad a4)), (8, .ref (ad a3)), (0, .ref (ad a0)), (2, .int x2), (4, .ref (ad a4)), (6, .int x6), (7, .int x7)]) dX8_loses_113 rfl (by decide) rfl ?_
  refine j_aload (pc := 114) 1 dX8_loses_114 rfl ?_
  refine j_astore (pc := 116) (lv' := [(4, .ref (ad a3)), (3, .ref (ad a4)), (8, .ref (ad a3)), (0, .ref (ad a0)), (2, .int x2), (6, .int x6), (7, .int x7)]) dX8_loses_116 (by decide) rfl ?_
  refine j_iload (pc := 118) 6 dX8_loses_118 rfl ?_
  refine j_istore (pc := 120) (lv' := [(5, .int x7), (4, .ref (ad a3)), (3, .ref (ad a4)), (8, .ref (ad a3)), (0, .ref (ad a0)), (2, .int x2), (6, .int x6), (7, .int x7)]) dX8_loses_120 (by decide) rfl ?_
  refine j_iinc (pc := 122) 6 (c := 1) (lv' := fun v7 => [(6, .int v7), (5, .int x7), (4, .ref (ad a3)), (3, .ref (ad a4)), (8, .ref (ad a3)), (0, .ref (ad a0)), (2, .int x2), (7, .int x7)]) dX8_loses_122 rfl (by decide) (by decide) (fun _ => rfl) hf (fun v7 hf => ?_)
  refine j_goto (pc := 125) (tgt := 60) dX8_loses_125 (by decide) ?_
  refine j_sub [5, 6, 3, 2, 1, 0] rfl ?_
  exact hk60 k0 k4 k3 hf
def f_X8_loses_60 (k60 : Nat → Int32 → Nat → Nat → Int32 → Int32 → Hp → Option (Int32 × Hp)) (a0 : Nat) (x2 : Int32) (a3 : Nat) (a4 : Nat) (x5 : Int32) (x6 : Int32) (h : Hp) : Option (Int32 × Hp) := if x2 < x6 then (some ((-5), h)) else ((f_X1_fill a4 (a0 + 1) (h.1 (a0 + 1) 5) x6 h).bind (fun q5 => if x5 = 0 then (f_X8_loses_108 k60 a0 x2 a3 a4 x6 q5.1 q5.2) else (if q5.1 = 0 then (f_X8_loses_108 k60 a0 x2 a3 a4 x6 q5.1 q5.2) else ((f_X1_leastBelow a4 a3 q5.2).bind (fun q6 => if q6.1 < 0 then (f_X8_loses_108 k60 a0 x2 a3 a4 x6 q5.1 q6.2) else (some (x6, q6.2)))))))
set_option maxHeartbeats 4000000 in
set_option maxRecDepth 100000 in
theorem t_X8_loses_60 {l : Launch} {D : va_G} {ad : Nat → Nat} {cA : Nat → ClassId} {d : Nat} (hdp : 5 ≤ d) {o : Int32 × Hp}  : ∀ (n : Nat) {a0 : Nat} {x2 : Int32} {a3 : Nat} {a4 : Nat} {x5 : Int32} {x6 : Int32} (k0 : kd a0 = 8) (k3 : kd a3 = 1) (k4 : kd a4 = 1) {h : Hp}, lp (F := Nat → Int32 → Nat → Nat → Int32 → Int32 → Hp → Option (Int32 × Hp)) (fun _ _ _ _ _ _ _ => none) (f_X8_loses_60) n a0 x2 a3 a4 x5 x6 h = some o → J l D ad cA (fun _ => True) (rmd (d + 1)) (0, 0) (mQ D ad cA (some (.int o.1)) o.2) cX8_loses RX8 9 (some .int) 60 [(0, .ref (ad a0)), (2, .int x2), (3, .ref (ad a3)), (4, .ref (ad a4)), (5, .int x5), (6, .int x6)] [] h := by
  intro n
  induction n with
  | zero =>
    intro a0 x2 a3 a4 x5 x6 k0 k3 k4 h hf
    have hf : (none : Option (Int32 × Hp)) = some o := hf
    cases hf
  | succ n hk60 =>
    intro a0 x2 a3 a4 x5 x6 k0 k3 k4 h hf
    have hf : f_X8_loses_60  (lp (F := Nat → Int32 → Nat → Nat → Int32 → Int32 → Hp → Option (Int32 × Hp)) (fun _ _ _ _ _ _ _ => none) (f_X8_loses_60) n) a0 x2 a3 a4 x5 x6 h = some o := hf
    unfold f_X8_loses_60 at hf
    refine j_iload (pc := 60) 5 dX8_loses_60 rfl ?_
    refine j_iload_n (pc := 62) 1 dX8_loses_62 rfl rfl ?_
    refine j_icmp_gt (pc := 63) (tgt := 128) dX8_loses_63 (by decide) hf (fun _ hf => ?_) (fun _ hf => ?_)
    · refine j_bipush (pc := 128) dX8_loses_128 (v := -5) (by decide) ?_
      exact j_iret (pc := 130) dX8_loses_130 rfl hf
    · refine j_aload (pc := 66) 3 dX8_loses_66 rfl ?_
      refine j_aload_n (pc := 68) 0 dX8_loses_68 rfl rfl ?_
      refine j_getR (pc := 69) (n := 1) dX8_loses_69 fl332 k0 (by decide) rfl ?_
      refine j_aload_n (pc := 72) 0 dX8_loses_72 rfl rfl ?_
      refine j_getR (pc := 73) (n := 1) dX8_loses_73 fl332 k0 (by decide) rfl ?_
      refine j_getI (pc := 76) dX8_loses_76 fl117 (lk_8_0 k0) (by decide) rfl ?_
      refine j_iload (pc := 79) 5 dX8_loses_79 rfl ?_
      refine j_callVi (pc := 81) (d := d) (As := [.ref (ad (a0 + 1)), .int (h.1 (a0 + 1) 5), .int x6]) (st := []) dX8_loses_81 s482 k4 (by decide) rfl rfl (by decide) (Nat.le_of_ble_eq_true rfl) (fun q hq => t_X1_fill (by omega) k4 (lk_8_0 k0) hq) hf (fun q5 hf => ?_)
      refine j_istore (pc := 84) (lv' := [(7, .int q5.1), (0, .ref (ad a0)), (2, .int x2), (3, .ref (ad a3)), (4, .ref (ad a4)), (5, .int x5), (6, .int x6)]) dX8_loses_84 (by decide) rfl ?_
      refine j_iload (pc := 86) 5 dX8_loses_86 rfl ?_
      refine j_if_eq (pc := 88) (tgt := 108) dX8_loses_88 (by decide) hf (fun _ hf => ?_) (fun _ hf => ?_)
      · refine j_sub [1, 2, 3, 4, 6, 0] rfl ?_
        exact t_X8_loses_108 hdp hk60 k0 k3 k4 hf
      · refine j_iload (pc := 91) 0 dX8_loses_91 rfl ?_
        refine j_if_eq (pc := 93) (tgt := 108) dX8_loses_93 (by decide) hf (fun _ hf => ?_) (fun _ hf => ?_)
        · refine j_sub [1, 2, 3, 4, 6, 0] rfl ?_
          exact t_X8_loses_108 hdp hk60 k0 k3 k4 hf
        · refine j_aload (pc := 96) 4 dX8_loses_96 rfl ?_
          refine j_aload_n (pc := 98) 3 dX8_loses_98 rfl rfl ?_
          refine j_callVi (pc := 99) (d := d) (As := [.ref (ad a3)]) (st := []) dX8_loses_99 s586 k4 (by decide) rfl rfl (by decide) (Nat.le_of_ble_eq_true rfl) (fun q hq => t_X1_leastBelow k4 k3 hq) hf (fun q6 hf => ?_)
          refine j_if_lt (pc := 102) (tgt := 108) dX8_loses_102 (by decide) hf (fun _ hf => ?_) (fun _ hf => ?_)
          · refine j_sub [1, 2, 3, 4, 6, 0] rfl ?_
            exact t_X8_loses_108 hdp hk60 k0 k3 k4 hf
          · refine j_iload (pc := 105) 6 dX8_loses_105 rfl ?_
            exact j_iret (pc := 107) dX8_loses_107 rfl hf
def f_X8_loses (a0 : Nat) (x1 : Int32) (x2 : Int32) (h : Hp) : Option (Int32 × Hp) := (f_X8_within x1 60 h).bind (fun q1 => if q1.1 = 0 then (some ((-2), q1.2)) else ((f_X8_within x2 60 q1.2).bind (fun q2 => if q2.1 = 0 then (some ((-2), q2.2)) else (if x1 ≤ x2 then ((f_X1_fill (a0 + 16) (a0 + 1) (q2.2.1 (a0 + 1) 5) x1 q2.2).bind (fun q3 => lt (x1 + 1) (fun v4 => lp (F := Nat → Int32 → Nat → Nat → Int32 → Int32 → Hp → Option (Int32 × Hp)) (fun _ _ _ _ _ _ _ => none) (f_X8_loses_60) 1000 a0 x2 (a0 + 16) (a0 + 36) q3.1 v4 q3.2))) else (some ((-2), q2.2))))))
set_option maxHeartbeats 4000000 in
set_option maxRecDepth 100000 in
theorem t_X8_loses {l : Launch} {D : va_G} {ad : Nat → Nat} {cA : Nat → ClassId} {d : Nat} (hdp : 6 ≤ d) {a0 : Nat} {x1 : Int32} {x2 : Int32} (k0 : kd a0 = 8) {h : Hp} {o : Int32 × Hp} (hf : f_X8_loses a0 x1 x2 h = some o) : Cr l D ad cA d yX8_loses cX8_loses 9 (some .int) [.ref (ad a0), .int x1, .int x2] h (some (.int o.1)) o.2 := by
  obtain ⟨d, rfl⟩ : ∃ e, d = e + 1 := ⟨d - 1, by omega⟩
  have hdp : 5 ≤ d := by omega
  unfold f_X8_loses at hf
  refine Cr_of (by decide +kernel) rfl (Nat.le_of_ble_eq_true rfl) (lv0 := [(0, .ref (ad a0)), (1, .int x1), (2, .int x2)]) rfl ?_
  refine j_iload_n (pc := 0) 1 dX8_loses_0 rfl rfl ?_
  refine j_bipush (pc := 1) dX8_loses_1 (v := 60) (by decide) ?_
  refine j_callSi (pc := 3) (d := d) (As := [.int x1, .int 60]) (st := []) dX8_loses_3 s370 rfl rfl (by decide) (Nat.le_of_ble_eq_true rfl) (fun q hq => t_X8_within  hq) hf (fun q1 hf => ?_)
  refine j_if_eq (pc := 6) (tgt := 23) dX8_loses_6 (by decide) hf (fun _ hf => ?_) (fun _ hf => ?_)
  · refine j_bipush (pc := 23) dX8_loses_23 (v := -2) (by decide) ?_
    exact j_iret (pc := 25) dX8_loses_25 rfl hf
  · refine j_iload_n (pc := 9) 2 dX8_loses_9 rfl rfl ?_
    refine j_bipush (pc := 10) dX8_loses_10 (v := 60) (by decide) ?_
    refine j_callSi (pc := 12) (d := d) (As := [.int x2, .int 60]) (st := []) dX8_loses_12 s370 rfl rfl (by decide) (Nat.le_of_ble_eq_true rfl) (fun q hq => t_X8_within  hq) hf (fun q2 hf => ?_)
    refine j_if_eq (pc := 15) (tgt := 23) dX8_loses_15 (by decide) hf (fun _ hf => ?_) (fun _ hf => ?_)
    · refine j_bipush (pc := 23) dX8_loses_23 (v := -2) (by decide) ?_
      exact j_iret (pc := 25) dX8_loses_25 rfl hf
    · refine j_iload_n (pc := 18) 2 dX8_loses_18 rfl rfl ?_
      refine j_iload_n (pc := 19) 1 dX8_loses_19 rfl rfl ?_
      refine j_icmp_ge (pc := 20) (tgt := 26) dX8_loses_20 (by decide) hf (fun _ hf => ?_) (fun _ hf => ?_)
      · refine j_aload_n (pc := 26) 0 dX8_loses_26 rfl rfl ?_
        refine j_getR (pc := 27) (n := 16) dX8_loses_27 fl335 k0 (by decide) rfl ?_
        refine j_astore_n (pc := 30) (lv' := [(3, .ref (ad (a0 + 16))), (0, .ref (ad a0)), (1, .int x1), (2, .int x2)]) dX8_loses_30 rfl (by decide) rfl ?_
        refine j_aload_n (pc := 31) 1 dX8_loses_31 rfl rfl ?_
        refine j_getR (pc := 32) (n := 36) dX8_loses_32 fl336 k0 (by decide) rfl ?_
        refine j_astore (pc := 35) (lv' := [(4, .ref (ad (a0 + 36))), (3, .ref (ad (a0 + 16))), (0, .ref (ad a0)), (1, .int x1), (2, .int x2)]) dX8_loses_35 (by decide) rfl ?_
        refine j_aload_n (pc := 37) 1 dX8_loses_37 rfl rfl ?_
        refine j_aload_n (pc := 38) 2 dX8_loses_38 rfl rfl ?_
        refine j_getR (pc := 39) (n := 1) dX8_loses_39 fl332 k0 (by decide) rfl ?_
        refine j_aload_n (pc := 42) 2 dX8_loses_42 rfl rfl ?_
        refine j_getR (pc := 43) (n := 1) dX8_loses_43 fl332 k0 (by decide) rfl ?_
        refine j_getI (pc := 46) dX8_loses_46 fl117 (lk_8_0 k0) (by decide) rfl ?_
        refine j_iload_n (pc := 49) 3 dX8_loses_49 rfl rfl ?_
        refine j_callVi (pc := 50) (d := d) (As := [.ref (ad (a0 + 1)), .int (q2.2.1 (a0 + 1) 5), .int x1]) (st := []) dX8_loses_50 s482 (lk_8_3 k0) (by decide) rfl rfl (by decide) (Nat.le_of_ble_eq_true rfl) (fun q hq => t_X1_fill (by omega) (lk_8_3 k0) (lk_8_0 k0) hq) hf (fun q3 hf => ?_)
        refine j_istore (pc := 53) (lv' := [(5, .int q3.1), (4, .ref (ad (a0 + 36))), (3, .ref (ad (a0 + 16))), (0, .ref (ad a0)), (1, .int x1), (2, .int x2)]) dX8_loses_53 (by decide) rfl ?_
        refine j_iload_n (pc := 55) 4 dX8_loses_55 rfl rfl ?_
        refine j_iconst (pc := 56) dX8_loses_56 (v := 1) (by decide) ?_
        refine j_iadd (pc := 57) dX8_loses_57  ?_
        refine j_istoreN (pc := 58) (lv' := fun v4 => [(6, .int v4), (5, .int q3.1), (4, .ref (ad (a0 + 36))), (3, .ref (ad (a0 + 16))), (0, .ref (ad a0)), (1, .int x1), (2, .int x2)]) dX8_loses_58 (by decide) (fun _ => rfl) hf (fun v4 hf => ?_)
        refine j_sub [4, 6, 3, 2, 1, 0] rfl ?_
        exact t_X8_loses_60 hdp  1000 k0 (lk_8_3 k0) (lk_8_4 k0) hf
      · refine j_bipush (pc := 23) dX8_loses_23 (v := -2) (by decide) ?_
        exact j_iret (pc := 25) dX8_loses_25 rfl hf
def f_X8_would (a0 : Nat) (x1 : Int32) (x2 : Int32) (x3 : Int32) (x4 : Int32) (h : Hp) : Option (Int32 × Hp) := (f_X8_within x1 3 h).bind (fun q1 => if q1.1 = 0 then (some ((-1), q1.2)) else ((f_X8_within x2 5 q1.2).bind (fun q2 => if q2.1 = 0 then (some ((-1), q2.2)) else ((f_X8_within x3 100000 q2.2).bind (fun q3 => if q3.1 = 0 then (some ((-2), q3.2)) else ((f_X8_within x4 60 q3.2).bind (fun q4 => if q4.1 = 0 then (some ((-2), q4.2)) else ((f_X3_copyFrom (a0 + 11) (a0 + 1) q4.2).bind (fun q5 => (f_X8_cellOf x1 x2 q5.2).bind (fun q6 => if ix q6.1 24 = true then (lt (sI q6.2 (a0 + 11 + 1) (Int32.toNatClampNeg q6.1) x3) (fun m7 => (f_X1_fill (a0 + 36) (a0 + 11) (m7.1 (a0 + 1) 5) x4 m7).bind (fun q8 => if q8.1 = 0 then (some ((-3), q8.2)) else (if ix x2 6 = true then (some (q8.2.1 (a0 + 36 + 10) (Int32.toNatClampNeg x2), q8.2)) else none)))) else none))))))))))
set_option maxHeartbeats 4000000 in
set_option maxRecDepth 100000 in
theorem t_X8_would {l : Launch} {D : va_G} {ad : Nat → Nat} {cA : Nat → ClassId} {d : Nat} (hdp : 6 ≤ d) {a0 : Nat} {x1 : Int32} {x2 : Int32} {x3 : Int32} {x4 : Int32} (k0 : kd a0 = 8) {h : Hp} {o : Int32 × Hp} (hf : f_X8_would a0 x1 x2 x3 x4 h = some o) : Cr l D ad cA d yX8_would cX8_would 5 (some .int) [.ref (ad a0), .int x1, .int x2, .int x3, .int x4] h (some (.int o.1)) o.2 := by
  obtain ⟨d, rfl⟩ : ∃ e, d = e + 1 := ⟨d - 1, by omega⟩
  have hdp : 5 ≤ d := by omega
  unfold f_X8_would at hf
  refine Cr_of (by decide +kernel) rfl (Nat.le_of_ble_eq_true rfl) (lv0 := [(0, .ref (ad a0)), (1, .int x1), (2, .int x2), (3, .int x3), (4, .int x4)]) rfl ?_
  refine j_iload_n (pc := 0) 1 dX8_would_0 rfl rfl ?_
  refine j_iconst (pc := 1) dX8_would_1 (v := 3) (by decide) ?_
  refine j_callSi (pc := 2) (d := d) (As := [.int x1, .int 3]) (st := []) dX8_would_2 s370 rfl rfl (by decide) (Nat.le_of_ble_eq_true rfl) (fun q hq => t_X8_within  hq) hf (fun q1 hf => ?_)
  refine j_if_eq (pc := 5) (tgt := 16) dX8_would_5 (by decide) hf (fun _ hf => ?_) (fun _ hf => ?_)
  · refine j_iconst (pc := 16) dX8_would_16 (v := -1) (by decide) ?_
    exact j_iret (pc := 17) dX8_would_17 rfl hf
  · refine j_iload_n (pc := 8) 2 dX8_would_8 rfl rfl ?_
    refine j_iconst (pc := 9) dX8_would_9 (v := 5) (by decide) ?_
    refine j_callSi (pc := 10) (d := d) (As := [.int x2, .int 5]) (st := []) dX8_would_10 s370 rfl rfl (by decide) (Nat.le_of_ble_eq_true rfl) (fun q hq => t_X8_within  hq) hf (fun q2 hf => ?_)
    refine j_if_ne (pc := 13) (tgt := 18) dX8_would_13 (by decide) hf (fun _ hf => ?_) (fun _ hf => ?_)
    · refine j_iload_n (pc := 18) 3 dX8_would_18 rfl rfl ?_
      refine j_ldc (pc := 19) dX8_would_19 (v := 100000) w_c373 ?_
      refine j_callSi (pc := 21) (d := d) (As := [.int x3, .int 100000]) (st := []) dX8_would_21 s370 rfl rfl (by decide) (Nat.le_of_ble_eq_true rfl) (fun q hq => t_X8_within  hq) hf (fun q3 hf => ?_)
      refine j_if_eq (pc := 24) (tgt := 37) dX8_would_24 (by decide) hf (fun _ hf => ?_) (fun _ hf => ?_)
      · refine j_bipush (pc := 37) dX8_would_37 (v := -2) (by decide) ?_
        exact j_iret (pc := 39) dX8_would_39 rfl hf
      · refine j_iload (pc := 27) 4 dX8_would_27 rfl ?_
        refine j_bipush (pc := 29) dX8_would_29 (v := 60) (by decide) ?_
        refine j_callSi (pc := 31) (d := d) (As := [.int x4, .int 60]) (st := []) dX8_would_31 s370 rfl rfl (by decide) (Nat.le_of_ble_eq_true rfl) (fun q hq => t_X8_within  hq) hf (fun q4 hf => ?_)
        refine j_if_ne (pc := 34) (tgt := 40) dX8_would_34 (by decide) hf (fun _ hf => ?_) (fun _ hf => ?_)
        · refine j_aload_n (pc := 40) 0 dX8_would_40 rfl rfl ?_
          refine j_getR (pc := 41) (n := 11) dX8_would_41 fl334 k0 (by decide) rfl ?_
          refine j_aload_n (pc := 44) 0 dX8_would_44 rfl rfl ?_
          refine j_getR (pc := 45) (n := 1) dX8_would_45 fl332 k0 (by decide) rfl ?_
          refine j_callVv (pc := 48) (d := d) (As := [.ref (ad (a0 + 1))]) (st := []) dX8_would_48 s462 (lk_8_2 k0) (by decide) rfl rfl (by decide) (Nat.le_of_ble_eq_true rfl) (fun q hq => t_X3_copyFrom (by omega) (lk_8_2 k0) (lk_8_0 k0) hq) hf (fun q5 hf => ?_)
          refine j_aload_n (pc := 51) 0 dX8_would_51 rfl rfl ?_
          refine j_getR (pc := 52) (n := 11) dX8_would_52 fl334 k0 (by decide) rfl ?_
          refine j_getR (pc := 55) (n := 1) dX8_would_55 fl99 (lk_8_2 k0) (by decide) rfl ?_
          refine j_iload_n (pc := 58) 1 dX8_would_58 rfl rfl ?_
          refine j_iload_n (pc := 59) 2 dX8_would_59 rfl rfl ?_
          refine j_callSi (pc := 60) (d := d) (As := [.int x1, .int x2]) (st := [.ref (ad (a0 + 11 + 1))]) dX8_would_60 s374 rfl rfl (by decide) (Nat.le_of_ble_eq_true rfl) (fun q hq => t_X8_cellOf  hq) hf (fun q6 hf => ?_)
          refine j_iload_n (pc := 63) 3 dX8_would_63 rfl rfl ?_
          refine j_iastore (pc := 64) dX8_would_64 (lk_3_0 (lk_8_2 k0)) (ll_3_0 (lk_8_2 k0)) hf (fun m7 hf => ?_)
          refine j_aload_n (pc := 65) 0 dX8_would_65 rfl rfl ?_
          refine j_getR (pc := 66) (n := 36) dX8_would_66 fl336 k0 (by decide) rfl ?_
          refine j_aload_n (pc := 69) 0 dX8_would_69 rfl rfl ?_
          refine j_getR (pc := 70) (n := 11) dX8_would_70 fl334 k0 (by decide) rfl ?_
          refine j_aload_n (pc := 73) 0 dX8_would_73 rfl rfl ?_
          refine j_getR (pc := 74) (n := 1) dX8_would_74 fl332 k0 (by decide) rfl ?_
          refine j_getI (pc := 77) dX8_would_77 fl117 (lk_8_0 k0) (by decide) rfl ?_
          refine j_iload (pc := 80) 4 dX8_would_80 rfl ?_
          refine j_callVi (pc := 82) (d := d) (As := [.ref (ad (a0 + 11)), .int (m7.1 (a0 + 1) 5), .int x4]) (st := []) dX8_would_82 s482 (lk_8_4 k0) (by decide) rfl rfl (by decide) (Nat.le_of_ble_eq_true rfl) (fun q hq => t_X1_fill (by omega) (lk_8_4 k0) (lk_8_2 k0) hq) hf (fun q8 hf => ?_)
          refine j_if_eq (pc := 85) (tgt := 100) dX8_would_85 (by decide) hf (fun _ hf => ?_) (fun _ hf => ?_)
          · refine j_bipush (pc := 100) dX8_would_100 (v := -3) (by decide) ?_
            exact j_iret (pc := 102) dX8_would_102 rfl hf
          · refine j_aload_n (pc := 88) 0 dX8_would_88 rfl rfl ?_
            refine j_getR (pc := 89) (n := 36) dX8_would_89 fl336 k0 (by decide) rfl ?_
            refine j_getR (pc := 92) (n := 10) dX8_would_92 fl197 (lk_8_4 k0) (by decide) rfl ?_
            refine j_iload_n (pc := 95) 2 dX8_would_95 rfl rfl ?_
            refine j_iaload (pc := 96) dX8_would_96 (lk_1_1 (lk_8_4 k0)) (ll_1_1 (lk_8_4 k0)) hf (fun _ hf => ?_)
            refine j_goto (pc := 97) (tgt := 102) dX8_would_97 (by decide) ?_
            exact j_iret (pc := 102) dX8_would_102 rfl hf
        · refine j_bipush (pc := 37) dX8_would_37 (v := -2) (by decide) ?_
          exact j_iret (pc := 39) dX8_would_39 rfl hf
    · refine j_iconst (pc := 16) dX8_would_16 (v := -1) (by decide) ?_
      exact j_iret (pc := 17) dX8_would_17 rfl hf
