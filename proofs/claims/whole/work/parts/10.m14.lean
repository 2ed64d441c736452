def f_X9_judge_51 (k51 : Nat → Int32 → Int32 → Int32 → Int32 → Hp → Option (Int32 × Hp)) (a0 : Nat) (x1 : Int32) (x2 : Int32) (x3 : Int32) (x4 : Int32) (h : Hp) : Option (Int32 × Hp) := if 24 ≤ x4 then ((f_X9_isPlanned a0 h).bind (fun q4 => if q4.1 = 0 then (some ((-3), q4.2)) else ((f_X9_finds a0 (a0 + 28) q4.2).bind (fun q5 => if (q5.2.1 a0 38) = 0 then (if q5.1 = 0 then (some ((-5), q5.2)) else (if x3 = 0 then (some (q5.2.1 a0 35, q5.2)) else (if 4 = 0 then none else (lt ((x3 - 1) - (x3 - 1) / 4 * 4) (fun v6 => if v6 < (q5.2.1 a0 35) then (if 4 < x3 then (if ix v6 4 = true then (some (q5.2.1 (a0 + 25) (Int32.toNatClampNeg v6), q5.2)) else none) else (if ix v6 4 = true then (some (q5.2.1 (a0 + 24) (Int32.toNatClampNeg v6), q5.2)) else none)) else (some ((-5), q5.2))))))) else (some ((-6), q5.2)))))) else (if ix (((40 * x1) + x2) + x4) 160 = true then (if ix x4 24 = true then (lt (sI h (a0 + 28) (Int32.toNatClampNeg x4) (h.1 (a0 + 26) (Int32.toNatClampNeg (((40 * x1) + x2) + x4)))) (fun m7 => lt (x4 + 1) (fun v8 => k51 a0 x1 x2 x3 v8 m7))) else none) else none)
set_option maxHeartbeats 4000000 in
set_option maxRecDepth 100000 in
theorem t_X9_judge_51 {l : Launch} {D : va_G} {ad : Nat → Nat} {cA : Nat → ClassId} {d : Nat} (hdp : 21 ≤ d) {o : Int32 × Hp}  : ∀ (n : Nat) {a0 : Nat} {x1 : Int32} {x2 : Int32} {x3 : Int32} {x4 : Int32} (k0 : kd a0 = 9) {h : Hp}, lp (F := Nat → Int32 → Int32 → Int32 → Int32 → Hp → Option (Int32 × Hp)) (fun _ _ _ _ _ _ => none) (f_X9_judge_51) n a0 x1 x2 x3 x4 h = some o → J l D ad cA (fun _ => True) (rmd (d + 1)) (0, 0) (mQ D ad cA (some (.int o.1)) o.2) cX9_judge RX9 6 (some .int) 51 [(0, .ref (ad a0)), (1, .int x1), (2, .int x2), (3, .int x3), (4, .int x4)] [] h := by
  intro n
  induction n with
  | zero =>
    intro a0 x1 x2 x3 x4 k0 h hf
    have hf : (none : Option (Int32 × Hp)) = some o := hf
    cases hf
  | succ n hk51 =>
    intro a0 x1 x2 x3 x4 k0 h hf
    have hf : f_X9_judge_51  (lp (F := Nat → Int32 → Int32 → Int32 → Int32 → Hp → Option (Int32 × Hp)) (fun _ _ _ _ _ _ => none) (f_X9_judge_51) n) a0 x1 x2 x3 x4 h = some o := hf
    unfold f_X9_judge_51 at hf
    refine j_iload (pc := 51) 4 dX9_judge_51 rfl ?_
    refine j_bipush (pc := 53) dX9_judge_53 (v := 24) (by decide) ?_
    refine j_icmp_ge (pc := 55) (tgt := 85) dX9_judge_55 (by decide) hf (fun _ hf => ?_) (fun _ hf => ?_)
    · refine j_aload_n (pc := 85) 0 dX9_judge_85 rfl rfl ?_
      refine j_callVi (pc := 86) (d := d) (As := []) (st := []) dX9_judge_86 s1357 k0 (by decide) rfl rfl (by decide) (Nat.le_of_ble_eq_true rfl) (fun q hq => t_X9_isPlanned (by omega) k0 hq) hf (fun q4 hf => ?_)
      refine j_if_ne (pc := 89) (tgt := 95) dX9_judge_89 (by decide) hf (fun _ hf => ?_) (fun _ hf => ?_)
      · refine j_aload_n (pc := 95) 0 dX9_judge_95 rfl rfl ?_
        refine j_aload_n (pc := 96) 0 dX9_judge_96 rfl rfl ?_
        refine j_getR (pc := 97) (n := 28) dX9_judge_97 fl887 k0 (by decide) rfl ?_
        refine j_callVi (pc := 100) (d := d) (As := [.ref (ad (a0 + 28))]) (st := []) dX9_judge_100 s1284 k0 (by decide) rfl rfl (by decide) (Nat.le_of_ble_eq_true rfl) (fun q hq => t_X9_finds (by omega) k0 (lk_9_41 k0) hq) hf (fun q5 hf => ?_)
        refine j_istore (pc := 103) (lv' := [(4, .int q5.1), (0, .ref (ad a0)), (1, .int x1), (2, .int x2), (3, .int x3)]) dX9_judge_103 (by decide) rfl ?_
        refine j_aload_n (pc := 105) 1 dX9_judge_105 rfl rfl ?_
        refine j_getI (pc := 106) dX9_judge_106 fl884 k0 (by decide) rfl ?_
        refine j_if_eq (pc := 109) (tgt := 115) dX9_judge_109 (by decide) hf (fun _ hf => ?_) (fun _ hf => ?_)
        · refine j_iload (pc := 115) 0 dX9_judge_115 rfl ?_
          refine j_if_ne (pc := 117) (tgt := 123) dX9_judge_117 (by decide) hf (fun _ hf => ?_) (fun _ hf => ?_)
          · refine j_iload_n (pc := 123) 4 dX9_judge_123 rfl rfl ?_
            refine j_if_ne (pc := 124) (tgt := 132) dX9_judge_124 (by decide) hf (fun _ hf => ?_) (fun _ hf => ?_)
            · refine j_iload_n (pc := 132) 4 dX9_judge_132 rfl rfl ?_
              refine j_iconst (pc := 133) dX9_judge_133 (v := 1) (by decide) ?_
              refine j_isub (pc := 134) dX9_judge_134  ?_
              refine j_iconst (pc := 135) dX9_judge_135 (v := 4) (by decide) ?_
              refine j_irem (pc := 136) dX9_judge_136 hf (fun hf => ?_)
              refine j_istoreN (pc := 137) (lv' := fun v6 => [(5, .int v6), (4, .int q5.1), (0, .ref (ad a0)), (1, .int x1), (2, .int x2), (3, .int x3)]) dX9_judge_137 (by decide) (fun _ => rfl) hf (fun v6 hf => ?_)
              refine j_iload (pc := 139) 0 dX9_judge_139 rfl ?_
              refine j_aload_n (pc := 141) 2 dX9_judge_141 rfl rfl ?_
              refine j_getI (pc := 142) dX9_judge_142 fl881 k0 (by decide) rfl ?_
              refine j_icmp_lt (pc := 145) (tgt := 151) dX9_judge_145 (by decide) hf (fun _ hf => ?_) (fun _ hf => ?_)
              · refine j_iload_n (pc := 151) 5 dX9_judge_151 rfl rfl ?_
                refine j_iconst (pc := 152) dX9_judge_152 (v := 4) (by decide) ?_
                refine j_icmp_gt (pc := 153) (tgt := 166) dX9_judge_153 (by decide) hf (fun _ hf => ?_) (fun _ hf => ?_)
                · refine j_aload_n (pc := 166) 2 dX9_judge_166 rfl rfl ?_
                  refine j_getR (pc := 167) (n := 25) dX9_judge_167 fl883 k0 (by decide) rfl ?_
                  refine j_iload (pc := 170) 0 dX9_judge_170 rfl ?_
                  refine j_iaload (pc := 172) dX9_judge_172 (lk_9_37 k0) (ll_9_37 k0) hf (fun _ hf => ?_)
                  exact j_iret (pc := 173) dX9_judge_173 rfl hf
                · refine j_aload_n (pc := 156) 2 dX9_judge_156 rfl rfl ?_
                  refine j_getR (pc := 157) (n := 24) dX9_judge_157 fl882 k0 (by decide) rfl ?_
                  refine j_iload (pc := 160) 0 dX9_judge_160 rfl ?_
                  refine j_iaload (pc := 162) dX9_judge_162 (lk_9_36 k0) (ll_9_36 k0) hf (fun _ hf => ?_)
                  refine j_goto (pc := 163) (tgt := 173) dX9_judge_163 (by decide) ?_
                  exact j_iret (pc := 173) dX9_judge_173 rfl hf
              · refine j_bipush (pc := 148) dX9_judge_148 (v := -5) (by decide) ?_
                exact j_iret (pc := 150) dX9_judge_150 rfl hf
            · refine j_aload_n (pc := 127) 1 dX9_judge_127 rfl rfl ?_
              refine j_getI (pc := 128) dX9_judge_128 fl881 k0 (by decide) rfl ?_
              exact j_iret (pc := 131) dX9_judge_131 rfl hf
          · refine j_bipush (pc := 120) dX9_judge_120 (v := -5) (by decide) ?_
            exact j_iret (pc := 122) dX9_judge_122 rfl hf
        · refine j_bipush (pc := 112) dX9_judge_112 (v := -6) (by decide) ?_
          exact j_iret (pc := 114) dX9_judge_114 rfl hf
      · refine j_bipush (pc := 92) dX9_judge_92 (v := -3) (by decide) ?_
        exact j_iret (pc := 94) dX9_judge_94 rfl hf
    · refine j_aload_n (pc := 58) 0 dX9_judge_58 rfl rfl ?_
      refine j_getR (pc := 59) (n := 28) dX9_judge_59 fl887 k0 (by decide) rfl ?_
      refine j_iload (pc := 62) 4 dX9_judge_62 rfl ?_
      refine j_aload_n (pc := 64) 0 dX9_judge_64 rfl rfl ?_
      refine j_getR (pc := 65) (n := 26) dX9_judge_65 fl885 k0 (by decide) rfl ?_
      refine j_bipush (pc := 68) dX9_judge_68 (v := 40) (by decide) ?_
      refine j_iload_n (pc := 70) 1 dX9_judge_70 rfl rfl ?_
      refine j_imul (pc := 71) dX9_judge_71  ?_
      refine j_iload_n (pc := 72) 2 dX9_judge_72 rfl rfl ?_
      refine j_iadd (pc := 73) dX9_judge_73  ?_
      refine j_iload (pc := 74) 4 dX9_judge_74 rfl ?_
      refine j_iadd (pc := 76) dX9_judge_76  ?_
      refine j_iaload (pc := 77) dX9_judge_77 (lk_9_39 k0) (ll_9_39 k0) hf (fun _ hf => ?_)
      refine j_iastore (pc := 78) dX9_judge_78 (lk_9_41 k0) (ll_9_41 k0) hf (fun m7 hf => ?_)
      refine j_iinc (pc := 79) 4 (c := 1) (lv' := fun v8 => [(4, .int v8), (0, .ref (ad a0)), (1, .int x1), (2, .int x2), (3, .int x3)]) dX9_judge_79 rfl (by decide) (by decide) (fun _ => rfl) hf (fun v8 hf => ?_)
      refine j_goto (pc := 82) (tgt := 51) dX9_judge_82 (by decide) ?_
      refine j_sub [1, 2, 3, 4, 0] rfl ?_
      exact hk51 k0 hf
def f_X9_judge (a0 : Nat) (x1 : Int32) (x2 : Int32) (x3 : Int32) (h : Hp) : Option (Int32 × Hp) := (f_X9_isRow x1 h).bind (fun q1 => if q1.1 = 0 then (some ((-1), q1.2)) else ((f_X9_within (Int32.toInt64 x3) 0 8 q1.2).bind (fun q2 => if q2.1 = 0 then (some ((-1), q2.2)) else (if x2 < 0 then (some ((-3), q2.2)) else (if ix x1 4 = true then (if ((q2.2.1 (a0 + 27) (Int32.toNatClampNeg x1)) - 24) < x2 then (some ((-3), q2.2)) else ((f_X9_plans a0 q2.2).bind (fun q3 => if q3.1 = 0 then (some ((-3), q3.2)) else (lp (F := Nat → Int32 → Int32 → Int32 → Int32 → Hp → Option (Int32 × Hp)) (fun _ _ _ _ _ _ => none) (f_X9_judge_51) 1000 a0 x1 x2 x3 0 q3.2)))) else none)))))
set_option maxHeartbeats 4000000 in
set_option maxRecDepth 100000 in
theorem t_X9_judge {l : Launch} {D : va_G} {ad : Nat → Nat} {cA : Nat → ClassId} {d : Nat} (hdp : 22 ≤ d) {a0 : Nat} {x1 : Int32} {x2 : Int32} {x3 : Int32} (k0 : kd a0 = 9) {h : Hp} {o : Int32 × Hp} (hf : f_X9_judge a0 x1 x2 x3 h = some o) : Cr l D ad cA d yX9_judge cX9_judge 6 (some .int) [.ref (ad a0), .int x1, .int x2, .int x3] h (some (.int o.1)) o.2 := by
  obtain ⟨d, rfl⟩ : ∃ e, d = e + 1 := ⟨d - 1, by omega⟩
  have hdp : 21 ≤ d := by omega
  unfold f_X9_judge at hf
  refine Cr_of (by decide +kernel) rfl (Nat.le_of_ble_eq_true rfl) (lv0 := [(0, .ref (ad a0)), (1, .int x1), (2, .int x2), (3, .int x3)]) rfl ?_
  refine j_iload_n (pc := 0) 1 dX9_judge_0 rfl rfl ?_
  refine j_callSi (pc := 1) (d := d) (As := [.int x1]) (st := []) dX9_judge_1 s1337 rfl rfl (by decide) (Nat.le_of_ble_eq_true rfl) (fun q hq => t_X9_isRow (by omega)  hq) hf (fun q1 hf => ?_)
  refine j_if_eq (pc := 4) (tgt := 19) dX9_judge_4 (by decide) hf (fun _ hf => ?_) (fun _ hf => ?_)
  · refine j_iconst (pc := 19) dX9_judge_19 (v := -1) (by decide) ?_
    exact j_iret (pc := 20) dX9_judge_20 rfl hf
  · refine j_iload_n (pc := 7) 3 dX9_judge_7 rfl rfl ?_
    refine j_i2l (pc := 8) dX9_judge_8  ?_
    refine j_lconst (pc := 9) dX9_judge_9 (v := 0) rfl ?_
    refine j_ldc2_w (pc := 10) dX9_judge_10 (v := 8) w_c1356 ?_
    refine j_callSi (pc := 13) (d := d) (As := [.long (Int32.toInt64 x3), .long 0, .long 8]) (st := []) dX9_judge_13 s982 rfl rfl (by decide) (Nat.le_of_ble_eq_true rfl) (fun q hq => t_X9_within  hq) hf (fun q2 hf => ?_)
    refine j_if_ne (pc := 16) (tgt := 21) dX9_judge_16 (by decide) hf (fun _ hf => ?_) (fun _ hf => ?_)
    · refine j_iload_n (pc := 21) 2 dX9_judge_21 rfl rfl ?_
      refine j_if_lt (pc := 22) (tgt := 45) dX9_judge_22 (by decide) hf (fun _ hf => ?_) (fun _ hf => ?_)
      · refine j_bipush (pc := 45) dX9_judge_45 (v := -3) (by decide) ?_
        exact j_iret (pc := 47) dX9_judge_47 rfl hf
      · refine j_iload_n (pc := 25) 2 dX9_judge_25 rfl rfl ?_
        refine j_aload_n (pc := 26) 0 dX9_judge_26 rfl rfl ?_
        refine j_getR (pc := 27) (n := 27) dX9_judge_27 fl886 k0 (by decide) rfl ?_
        refine j_iload_n (pc := 30) 1 dX9_judge_30 rfl rfl ?_
        refine j_iaload (pc := 31) dX9_judge_31 (lk_9_40 k0) (ll_9_40 k0) hf (fun _ hf => ?_)
        refine j_bipush (pc := 32) dX9_judge_32 (v := 24) (by decide) ?_
        refine j_isub (pc := 34) dX9_judge_34  ?_
        refine j_icmp_gt (pc := 35) (tgt := 45) dX9_judge_35 (by decide) hf (fun _ hf => ?_) (fun _ hf => ?_)
        · refine j_bipush (pc := 45) dX9_judge_45 (v := -3) (by decide) ?_
          exact j_iret (pc := 47) dX9_judge_47 rfl hf
        · refine j_aload_n (pc := 38) 0 dX9_judge_38 rfl rfl ?_
          refine j_callVi (pc := 39) (d := d) (As := []) (st := []) dX9_judge_39 s1267 k0 (by decide) rfl rfl (by decide) (Nat.le_of_ble_eq_true rfl) (fun q hq => t_X9_plans (by omega) k0 hq) hf (fun q3 hf => ?_)
          refine j_if_ne (pc := 42) (tgt := 48) dX9_judge_42 (by decide) hf (fun _ hf => ?_) (fun _ hf => ?_)
          · refine j_iconst (pc := 48) dX9_judge_48 (v := 0) (by decide) ?_
            refine j_istore (pc := 49) (lv' := [(4, .int 0), (0, .ref (ad a0)), (1, .int x1), (2, .int x2), (3, .int x3)]) dX9_judge_49 (by decide) rfl ?_
            refine j_sub [1, 2, 3, 4, 0] rfl ?_
            exact t_X9_judge_51 hdp  1000 k0 hf
          · refine j_bipush (pc := 45) dX9_judge_45 (v := -3) (by decide) ?_
            exact j_iret (pc := 47) dX9_judge_47 rfl hf
    · refine j_iconst (pc := 19) dX9_judge_19 (v := -1) (by decide) ?_
      exact j_iret (pc := 20) dX9_judge_20 rfl hf
def f_X9_solvesAnew_46 (k16 : Nat → Int32 → Hp → Option (Int32 × Hp)) (k46 : Nat → Int32 → Int32 → Hp → Option (Int32 × Hp)) (a0 : Nat) (x1 : Int32) (x2 : Int32) (h : Hp) : Option (Int32 × Hp) := if (h.1 a0 35) ≤ x2 then (lt (x1 + 1) (fun v4 => k16 a0 v4 h)) else ((f_X9_givesUp a0 x2 h).bind (fun q5 => if ix q5.1 24 = true then (if ix q5.1 24 = true then (lt (sI q5.2 (a0 + 23) (Int32.toNatClampNeg q5.1) ((q5.2.1 (a0 + 23) (Int32.toNatClampNeg q5.1)) - 1)) (fun m6 => (f_X9_gains a0 x2 m6).bind (fun q7 => if ix q7.1 24 = true then (if ix q7.1 24 = true then (lt (sI q7.2 (a0 + 23) (Int32.toNatClampNeg q7.1) ((q7.2.1 (a0 + 23) (Int32.toNatClampNeg q7.1)) + 1)) (fun m8 => lt (x2 + 1) (fun v9 => k46 a0 x1 v9 m8))) else none) else none))) else none) else none))
set_option maxHeartbeats 4000000 in
set_option maxRecDepth 100000 in
theorem t_X9_solvesAnew_46 {l : Launch} {D : va_G} {ad : Nat → Nat} {cA : Nat → ClassId} {d : Nat} (hdp : 21 ≤ d) {o : Int32 × Hp} {k16 : Nat → Int32 → Hp → Option (Int32 × Hp)} (hk16 : ∀ {a0 : Nat} {x1 : Int32} (k0 : kd a0 = 9) {h : Hp}, k16 a0 x1 h = some o → J l D ad cA (fun _ => True) (rmd (d + 1)) (0, 0) (mQ D ad cA (some (.int o.1)) o.2) cX9_solvesAnew RX9 3 (some .int) 16 [(0, .ref (ad a0)), (1, .int x1)] [] h) : ∀ (n : Nat) {a0 : Nat} {x1 : Int32} {x2 : Int32} (k0 : kd a0 = 9) {h : Hp}, lp (F := Nat → Int32 → Int32 → Hp → Option (Int32 × Hp)) (fun _ _ _ _ => none) (f_X9_solvesAnew_46 k16) n a0 x1 x2 h = some o → J l D ad cA (fun _ => True) (rmd (d + 1)) (0, 0) (mQ D ad cA (some (.int o.1)) o.2) cX9_solvesAnew RX9 3 (some .int) 46 [(0, .ref (ad a0)), (1, .int x1), (2, .int x2)] [] h := by
  intro n
  induction n with
  | zero =>
    intro a0 x1 x2 k0 h hf
    have hf : (none : Option (Int32 × Hp)) = some o := hf
    cases hf
  | succ n hk46 =>
    intro a0 x1 x2 k0 h hf
    have hf : f_X9_solvesAnew_46 k16 (lp (F := Nat → Int32 → Int32 → Hp → Option (Int32 × Hp)) (fun _ _ _ _ => none) (f_X9_solvesAnew_46 k16) n) a0 x1 x2 h = some o := hf
    unfold f_X9_solvesAnew_46 at hf
    refine j_iload_n (pc := 46) 2 dX9_solvesAnew_46 rfl rfl ?_
    refine j_aload_n (pc := 47) 0 dX9_solvesAnew_47 rfl rfl ?_
    refine j_getI (pc := 48) dX9_solvesAnew_48 fl881 k0 (by decide) rfl ?_
    refine j_icmp_ge (pc := 51) (tgt := 88) dX9_solvesAnew_51 (by decide) hf (fun _ hf => ?_) (fun _ hf => ?_)
    · refine j_iinc (pc := 88) 1 (c := 1) (lv' := fun v4 => [(1, .int v4), (0, .ref (ad a0)), (2, .int x2)]) dX9_solvesAnew_88 rfl (by decide) (by decide) (fun _ => rfl) hf (fun v4 hf => ?_)
      refine j_goto (pc := 91) (tgt := 16) dX9_solvesAnew_91 (by decide) ?_
      refine j_sub [1, 0] rfl ?_
      exact hk16 k0 hf
    · refine j_aload_n (pc := 54) 0 dX9_solvesAnew_54 rfl rfl ?_
      refine j_getR (pc := 55) (n := 23) dX9_solvesAnew_55 fl880 k0 (by decide) rfl ?_
      refine j_aload_n (pc := 58) 0 dX9_solvesAnew_58 rfl rfl ?_
      refine j_iload_n (pc := 59) 2 dX9_solvesAnew_59 rfl rfl ?_
      refine j_callVi (pc := 60) (d := d) (As := [.int x2]) (st := [.ref (ad (a0 + 23))]) dX9_solvesAnew_60 s1308 k0 (by decide) rfl rfl (by decide) (Nat.le_of_ble_eq_true rfl) (fun q hq => t_X9_givesUp k0 hq) hf (fun q5 hf => ?_)
      refine j_dup2 (pc := 63) dX9_solvesAnew_63 rfl rfl ?_
      refine j_iaload (pc := 64) dX9_solvesAnew_64 (lk_9_34 k0) (ll_9_34 k0) hf (fun _ hf => ?_)
      refine j_iconst (pc := 65) dX9_solvesAnew_65 (v := 1) (by decide) ?_
      refine j_isub (pc := 66) dX9_solvesAnew_66  ?_
      refine j_iastore (pc := 67) dX9_solvesAnew_67 (lk_9_34 k0) (ll_9_34 k0) hf (fun m6 hf => ?_)
      refine j_aload_n (pc := 68) 0 dX9_solvesAnew_68 rfl rfl ?_
      refine j_getR (pc := 69) (n := 23) dX9_solvesAnew_69 fl880 k0 (by decide) rfl ?_
      refine j_aload_n (pc := 72) 0 dX9_solvesAnew_72 rfl rfl ?_
      refine j_iload_n (pc := 73) 2 dX9_solvesAnew_73 rfl rfl ?_
      refine j_callVi (pc := 74) (d := d) (As := [.int x2]) (st := [.ref (ad (a0 + 23))]) dX9_solvesAnew_74 s1304 k0 (by decide) rfl rfl (by decide) (Nat.le_of_ble_eq_true rfl) (fun q hq => t_X9_gains k0 hq) hf (fun q7 hf => ?_)
      refine j_dup2 (pc := 77) dX9_solvesAnew_77 rfl rfl ?_
      refine j_iaload (pc := 78) dX9_solvesAnew_78 (lk_9_34 k0) (ll_9_34 k0) hf (fun _ hf => ?_)
      refine j_iconst (pc := 79) dX9_solvesAnew_79 (v := 1) (by decide) ?_
      refine j_iadd (pc := 80) dX9_solvesAnew_80  ?_
      refine j_iastore (pc := 81) dX9_solvesAnew_81 (lk_9_34 k0) (ll_9_34 k0) hf (fun m8 hf => ?_)
      refine j_iinc (pc := 82) 2 (c := 1) (lv' := fun v9 => [(2, .int v9), (0, .ref (ad a0)), (1, .int x1)]) dX9_solvesAnew_82 rfl (by decide) (by decide) (fun _ => rfl) hf (fun v9 hf => ?_)
      refine j_goto (pc := 85) (tgt := 46) dX9_solvesAnew_85 (by decide) ?_
      refine j_sub [1, 2, 0] rfl ?_
      exact hk46 k0 hf
def f_X9_solvesAnew_16 (k16 : Nat → Int32 → Hp → Option (Int32 × Hp)) (a0 : Nat) (x1 : Int32) (h : Hp) : Option (Int32 × Hp) := if 200 ≤ x1 then (some (x1, h)) else ((f_X9_finds a0 (a0 + 23) h).bind (fun q3 => if q3.1 = 0 then (some (x1, q3.2)) else (if (q3.2.1 a0 38) = 0 then (lp (F := Nat → Int32 → Int32 → Hp → Option (Int32 × Hp)) (fun _ _ _ _ => none) (f_X9_solvesAnew_46 k16) 1000 a0 x1 0 q3.2) else (some ((-6), q3.2)))))
set_option maxHeartbeats 4000000 in
set_option maxRecDepth 100000 in
theorem t_X9_solvesAnew_16 {l : Launch} {D : va_G} {ad : Nat → Nat} {cA : Nat → ClassId} {d : Nat} (hdp : 21 ≤ d) {o : Int32 × Hp}  : ∀ (n : Nat) {a0 : Nat} {x1 : Int32} (k0 : kd a0 = 9) {h : Hp}, lp (F := Nat → Int32 → Hp → Option (Int32 × Hp)) (fun _ _ _ => none) (f_X9_solvesAnew_16) n a0 x1 h = some o → J l D ad cA (fun _ => True) (rmd (d + 1)) (0, 0) (mQ D ad cA (some (.int o.1)) o.2) cX9_solvesAnew RX9 3 (some .int) 16 [(0, .ref (ad a0)), (1, .int x1)] [] h := by
  intro n
  induction n with
  | zero =>
    intro a0 x1 k0 h hf
    have hf : (none : Option (Int32 × Hp)) = some o := hf
    cases hf
  | succ n hk16 =>
    intro a0 x1 k0 h hf
    have hf : f_X9_solvesAnew_16  (lp (F := Nat → Int32 → Hp → Option (Int32 × Hp)) (fun _ _ _ => none) (f_X9_solvesAnew_16) n) a0 x1 h = some o := hf
    unfold f_X9_solvesAnew_16 at hf
    refine j_iload_n (pc := 16) 1 dX9_solvesAnew_16 rfl rfl ?_
    refine j_sipush (pc := 17) dX9_solvesAnew_17 (v := 200) (by decide) ?_
    refine j_icmp_ge (pc := 20) (tgt := 94) dX9_solvesAnew_20 (by decide) hf (fun _ hf => ?_) (fun _ hf => ?_)
    · refine j_iload_n (pc := 94) 1 dX9_solvesAnew_94 rfl rfl ?_
      exact j_iret (pc := 95) dX9_solvesAnew_95 rfl hf
    · refine j_aload_n (pc := 23) 0 dX9_solvesAnew_23 rfl rfl ?_
      refine j_aload_n (pc := 24) 0 dX9_solvesAnew_24 rfl rfl ?_
      refine j_getR (pc := 25) (n := 23) dX9_solvesAnew_25 fl880 k0 (by decide) rfl ?_
      refine j_callVi (pc := 28) (d := d) (As := [.ref (ad (a0 + 23))]) (st := []) dX9_solvesAnew_28 s1284 k0 (by decide) rfl rfl (by decide) (Nat.le_of_ble_eq_true rfl) (fun q hq => t_X9_finds (by omega) k0 (lk_9_34 k0) hq) hf (fun q3 hf => ?_)
      refine j_if_eq (pc := 31) (tgt := 94) dX9_solvesAnew_31 (by decide) hf (fun _ hf => ?_) (fun _ hf => ?_)
      · refine j_iload_n (pc := 94) 1 dX9_solvesAnew_94 rfl rfl ?_
        exact j_iret (pc := 95) dX9_solvesAnew_95 rfl hf
      · refine j_aload_n (pc := 34) 0 dX9_solvesAnew_34 rfl rfl ?_
        refine j_getI (pc := 35) dX9_solvesAnew_35 fl884 k0 (by decide) rfl ?_
        refine j_if_eq (pc := 38) (tgt := 44) dX9_solvesAnew_38 (by decide) hf (fun _ hf => ?_) (fun _ hf => ?_)
        · refine j_iconst (pc := 44) dX9_solvesAnew_44 (v := 0) (by decide) ?_
          refine j_istore_n (pc := 45) (lv' := [(2, .int 0), (0, .ref (ad a0)), (1, .int x1)]) dX9_solvesAnew_45 rfl (by decide) rfl ?_
          refine j_sub [1, 2, 0] rfl ?_
          exact t_X9_solvesAnew_46 hdp hk16 1000 k0 hf
        · refine j_bipush (pc := 41) dX9_solvesAnew_41 (v := -6) (by decide) ?_
          exact j_iret (pc := 43) dX9_solvesAnew_43 rfl hf
def f_X9_solvesAnew (a0 : Nat) (h : Hp) : Option (Int32 × Hp) := (f_X9_plans a0 h).bind (fun q1 => if q1.1 = 0 then (some ((-3), q1.2)) else ((f_X9_begins a0 q1.2).bind (fun q2 => lp (F := Nat → Int32 → Hp → Option (Int32 × Hp)) (fun _ _ _ => none) (f_X9_solvesAnew_16) 1000 a0 0 q2.2)))
set_option maxHeartbeats 4000000 in
set_option maxRecDepth 100000 in
theorem t_X9_solvesAnew {l : Launch} {D : va_G} {ad : Nat → Nat} {cA : Nat → ClassId} {d : Nat} (hdp : 22 ≤ d) {a0 : Nat} (k0 : kd a0 = 9) {h : Hp} {o : Int32 × Hp} (hf : f_X9_solvesAnew a0 h = some o) : Cr l D ad cA d yX9_solvesAnew cX9_solvesAnew 3 (some .int) [.ref (ad a0)] h (some (.int o.1)) o.2 := by
  obtain ⟨d, rfl⟩ : ∃ e, d = e + 1 := ⟨d - 1, by omega⟩
  have hdp : 21 ≤ d := by omega
  unfold f_X9_solvesAnew at hf
  refine Cr_of (by decide +kernel) rfl (Nat.le_of_ble_eq_true rfl) (lv0 := [(0, .ref (ad a0))]) rfl ?_
  refine j_aload_n (pc := 0) 0 dX9_solvesAnew_0 rfl rfl ?_
  refine j_callVi (pc := 1) (d := d) (As := []) (st := []) dX9_solvesAnew_1 s1267 k0 (by decide) rfl rfl (by decide) (Nat.le_of_ble_eq_true rfl) (fun q hq => t_X9_plans (by omega) k0 hq) hf (fun q1 hf => ?_)
  refine j_if_ne (pc := 4) (tgt := 10) dX9_solvesAnew_4 (by decide) hf (fun _ hf => ?_) (fun _ hf => ?_)
  · refine j_aload_n (pc := 10) 0 dX9_solvesAnew_10 rfl rfl ?_
    refine j_callVv (pc := 11) (d := d) (As := []) (st := []) dX9_solvesAnew_11 s1279 k0 (by decide) rfl rfl (by decide) (Nat.le_of_ble_eq_true rfl) (fun q hq => t_X9_begins (by omega) k0 hq) hf (fun q2 hf => ?_)
    refine j_iconst (pc := 14) dX9_solvesAnew_14 (v := 0) (by decide) ?_
    refine j_istore_n (pc := 15) (lv' := [(1, .int 0), (0, .ref (ad a0))]) dX9_solvesAnew_15 rfl (by decide) rfl ?_
    refine j_sub [1, 0] rfl ?_
    exact t_X9_solvesAnew_16 hdp  1000 k0 hf
  · refine j_bipush (pc := 7) dX9_solvesAnew_7 (v := -3) (by decide) ?_
    exact j_iret (pc := 9) dX9_solvesAnew_9 rfl hf
def f_X8_bound (a0 : Nat) (x1 : Int32) (x2 : Int32) (x3 : Int32) (h : Hp) : Option (Int64 × Hp) := (f_X8_within x1 3 h).bind (fun q1 => if q1.1 = 0 then (some ((-9223372036854775808), q1.2)) else ((f_X8_within x2 3 q1.2).bind (fun q2 => if q2.1 = 0 then (some ((-9223372036854775808), q2.2)) else (if x1 = x2 then (some ((-9223372036854775808), q2.2)) else ((f_X8_within x3 1 q2.2).bind (fun q3 => if q3.1 = 0 then (some ((-9223372036854775808), q3.2)) else ((f_X2_settle (a0 + 56) (a0 + 1) q3.2).bind (fun q4 => if q4.1 < 0 then (some ((-9223372036854775808), q4.2)) else (if ix x1 4 = true then (if (q4.2.1 (a0 + 1 + 2) (Int32.toNatClampNeg x1)) = 0 then (some ((-9223372036854775808), q4.2)) else (if ix x2 4 = true then (if (q4.2.1 (a0 + 1 + 2) (Int32.toNatClampNeg x2)) = 0 then (some ((-9223372036854775808), q4.2)) else ((f_X2_boundBetween (a0 + 56) (a0 + 1) x1 x2 x3 q4.2).bind (fun q5 => some (q5.1, q5.2)))) else none)) else none)))))))))
set_option maxHeartbeats 4000000 in
set_option maxRecDepth 100000 in
theorem t_X8_bound {l : Launch} {D : va_G} {ad : Nat → Nat} {cA : Nat → ClassId} {d : Nat} (hdp : 23 ≤ d) {a0 : Nat} {x1 : Int32} {x2 : Int32} {x3 : Int32} (k0 : kd a0 = 8) {h : Hp} {o : Int64 × Hp} (hf : f_X8_bound a0 x1 x2 x3 h = some o) : Cr l D ad cA d yX8_bound cX8_bound 4 (some .long) [.ref (ad a0), .int x1, .int x2, .int x3] h (some (.long o.1)) o.2 := by
  obtain ⟨d, rfl⟩ : ∃ e, d = e + 1 := ⟨d - 1, by omega⟩
  have hdp : 22 ≤ d := by omega
  unfold f_X8_bound at hf
  refine Cr_of (by decide +kernel) rfl (Nat.le_of_ble_eq_true rfl) (lv0 := [(0, .ref (ad a0)), (1, .int x1), (2, .int x2), (3, .int x3)]) rfl ?_
  refine j_iload_n (pc := 0) 1 dX8_bound_0 rfl rfl ?_
  refine j_iconst (pc := 1) dX8_bound_1 (v := 3) (by decide) ?_
  refine j_callSi (pc := 2) (d := d) (As := [.int x1, .int 3]) (st := []) dX8_bound_2 s370 rfl rfl (by decide) (Nat.le_of_ble_eq_true rfl) (fun q hq => t_X8_within  hq) hf (fun q1 hf => ?_)
  refine j_if_eq (pc := 5) (tgt := 29) dX8_bound_5 (by decide) hf (fun _ hf => ?_) (fun _ hf => ?_)
  · refine j_ldc2_w (pc := 29) dX8_bound_29 (v := -9223372036854775808) w_c598 ?_
    exact j_lret (pc := 32) dX8_bound_32 rfl hf
  · refine j_iload_n (pc := 8) 2 dX8_bound_8 rfl rfl ?_
    refine j_iconst (pc := 9) dX8_bound_9 (v := 3) (by decide) ?_
    refine j_callSi (pc := 10) (d := d) (As := [.int x2, .int 3]) (st := []) dX8_bound_10 s370 rfl rfl (by decide) (Nat.le_of_ble_eq_true rfl) (fun q hq => t_X8_within  hq) hf (fun q2 hf => ?_)
    refine j_if_eq (pc := 13) (tgt := 29) dX8_bound_13 (by decide) hf (fun _ hf => ?_) (fun _ hf => ?_)
    · refine j_ldc2_w (pc := 29) dX8_bound_29 (v := -9223372036854775808) w_c598 ?_
      exact j_lret (pc := 32) dX8_bound_32 rfl hf
    · refine j_iload_n (pc := 16) 1 dX8_bound_16 rfl rfl ?_
      refine j_iload_n (pc := 17) 2 dX8_bound_17 rfl rfl ?_
      refine j_icmp_eq (pc := 18) (tgt := 29) dX8_bound_18 (by decide) hf (fun _ hf => ?_) (fun _ hf => ?_)
      · refine j_ldc2_w (pc := 29) dX8_bound_29 (v := -9223372036854775808) w_c598 ?_
        exact j_lret (pc := 32) dX8_bound_32 rfl hf
      · refine j_iload_n (pc := 21) 3 dX8_bound_21 rfl rfl ?_
        refine j_iconst (pc := 22) dX8_bound_22 (v := 1) (by decide) ?_
        refine j_callSi (pc := 23) (d := d) (As := [.int x3, .int 1]) (st := []) dX8_bound_23 s370 rfl rfl (by decide) (Nat.le_of_ble_eq_true rfl) (fun q hq => t_X8_within  hq) hf (fun q3 hf => ?_)
        refine j_if_ne (pc := 26) (tgt := 33) dX8_bound_26 (by decide) hf (fun _ hf => ?_) (fun _ hf => ?_)
        · refine j_aload_n (pc := 33) 0 dX8_bound_33 rfl rfl ?_
          refine j_getR (pc := 34) (n := 56) dX8_bound_34 fl337 k0 (by decide) rfl ?_
          refine j_aload_n (pc := 37) 0 dX8_bound_37 rfl rfl ?_
          refine j_getR (pc := 38) (n := 1) dX8_bound_38 fl332 k0 (by decide) rfl ?_
          refine j_callVi (pc := 41) (d := d) (As := [.ref (ad (a0 + 1))]) (st := []) dX8_bound_41 s657 (lk_8_5 k0) (by decide) rfl rfl (by decide) (Nat.le_of_ble_eq_true rfl) (fun q hq => t_X2_settle (by omega) (lk_8_5 k0) (lk_8_0 k0) hq) hf (fun q4 hf => ?_)
          refine j_if_lt (pc := 44) (tgt := 71) dX8_bound_44 (by decide) hf (fun _ hf => ?_) (fun _ hf => ?_)
          · refine j_ldc2_w (pc := 71) dX8_bound_71 (v := -9223372036854775808) w_c598 ?_
            exact j_lret (pc := 74) dX8_bound_74 rfl hf
          · refine j_aload_n (pc := 47) 0 dX8_bound_47 rfl rfl ?_
            refine j_getR (pc := 48) (n := 1) dX8_bound_48 fl332 k0 (by decide) rfl ?_
            refine j_getR (pc := 51) (n := 2) dX8_bound_51 fl104 (lk_8_0 k0) (by decide) rfl ?_
            refine j_iload_n (pc := 54) 1 dX8_bound_54 rfl rfl ?_
            refine j_iaload (pc := 55) dX8_bound_55 (lk_3_1 (lk_8_0 k0)) (ll_3_1 (lk_8_0 k0)) hf (fun _ hf => ?_)
            refine j_if_eq (pc := 56) (tgt := 71) dX8_bound_56 (by decide) hf (fun _ hf => ?_) (fun _ hf => ?_)
            · refine j_ldc2_w (pc := 71) dX8_bound_71 (v := -9223372036854775808) w_c598 ?_
              exact j_lret (pc := 74) dX8_bound_74 rfl hf
            · refine j_aload_n (pc := 59) 0 dX8_bound_59 rfl rfl ?_
              refine j_getR (pc := 60) (n := 1) dX8_bound_60 fl332 k0 (by decide) rfl ?_
              refine j_getR (pc := 63) (n := 2) dX8_bound_63 fl104 (lk_8_0 k0) (by decide) rfl ?_
              refine j_iload_n (pc := 66) 2 dX8_bound_66 rfl rfl ?_
              refine j_iaload (pc := 67) dX8_bound_67 (lk_3_1 (lk_8_0 k0)) (ll_3_1 (lk_8_0 k0)) hf (fun _ hf => ?_)
              refine j_if_ne (pc := 68) (tgt := 75) dX8_bound_68 (by decide) hf (fun _ hf => ?_) (fun _ hf => ?_)
              · refine j_aload_n (pc := 75) 0 dX8_bound_75 rfl rfl ?_
                refine j_getR (pc := 76) (n := 56) dX8_bound_76 fl337 k0 (by decide) rfl ?_
                refine j_aload_n (pc := 79) 0 dX8_bound_79 rfl rfl ?_
                refine j_getR (pc := 80) (n := 1) dX8_bound_80 fl332 k0 (by decide) rfl ?_
                refine j_iload_n (pc := 83) 1 dX8_bound_83 rfl rfl ?_
                refine j_iload_n (pc := 84) 2 dX8_bound_84 rfl rfl ?_
                refine j_iload_n (pc := 85) 3 dX8_bound_85 rfl rfl ?_
                refine j_callVl (pc := 86) (d := d) (As := [.ref (ad (a0 + 1)), .int x1, .int x2, .int x3]) (st := []) dX8_bound_86 s738 (lk_8_5 k0) (by decide) rfl rfl (by decide) (Nat.le_of_ble_eq_true rfl) (fun q hq => t_X2_boundBetween (by omega) (lk_8_5 k0) (lk_8_0 k0) hq) hf (fun q5 hf => ?_)
                exact j_lret (pc := 89) dX8_bound_89 rfl hf
              · refine j_ldc2_w (pc := 71) dX8_bound_71 (v := -9223372036854775808) w_c598 ?_
                exact j_lret (pc := 74) dX8_bound_74 rfl hf
        · refine j_ldc2_w (pc := 29) dX8_bound_29 (v := -9223372036854775808) w_c598 ?_
          exact j_lret (pc := 32) dX8_bound_32 rfl hf
def f_X8_cell (a0 : Nat) (x1 : Int32) (x2 : Int32) (h : Hp) : Option (Int32 × Hp) := (f_X8_within x1 3 h).bind (fun q1 => if q1.1 = 0 then (some ((-1), q1.2)) else ((f_X8_within x2 5 q1.2).bind (fun q2 => if q2.1 = 0 then (some ((-1), q2.2)) else ((f_X2_settle (a0 + 56) (a0 + 1) q2.2).bind (fun q3 => if 0 ≤ q3.1 then ((f_X8_cellOf x1 x2 q3.2).bind (fun q4 => if ix q4.1 24 = true then (some (q4.2.1 (a0 + 56 + 1) (Int32.toNatClampNeg q4.1), q4.2)) else none)) else (some (q3.1, q3.2)))))))
set_option maxHeartbeats 4000000 in
set_option maxRecDepth 100000 in
theorem t_X8_cell {l : Launch} {D : va_G} {ad : Nat → Nat} {cA : Nat → ClassId} {d : Nat} (hdp : 23 ≤ d) {a0 : Nat} {x1 : Int32} {x2 : Int32} (k0 : kd a0 = 8) {h : Hp} {o : Int32 × Hp} (hf : f_X8_cell a0 x1 x2 h = some o) : Cr l D ad cA d yX8_cell cX8_cell 4 (some .int) [.ref (ad a0), .int x1, .int x2] h (some (.int o.1)) o.2 := by
  obtain ⟨d, rfl⟩ : ∃ e, d = e + 1 := ⟨d - 1, by omega⟩
  have hdp : 22 ≤ d := by omega
  unfold f_X8_cell at hf
  refine Cr_of (by decide +kernel) rfl (Nat.le_of_ble_eq_true rfl) (lv0 := [(0, .ref (ad a0)), (1, .int x1), (2, .int x2)]) rfl ?_
  refine j_iload_n (pc := 0) 1 dX8_cell_0 rfl rfl ?_
  refine j_iconst (pc := 1) dX8_cell_1 (v := 3) (by decide) ?_
  refine j_callSi (pc := 2) (d := d) (As := [.int x1, .int 3]) (st := []) dX8_cell_2 s370 rfl rfl (by decide) (Nat.le_of_ble_eq_true rfl) (fun q hq => t_X8_within  hq) hf (fun q1 hf => ?_)
  refine j_if_eq (pc := 5) (tgt := 16) dX8_cell_5 (by decide) hf (fun _ hf => ?_) (fun _ hf => ?_)
  · refine j_iconst (pc := 16) dX8_cell_16 (v := -1) (by decide) ?_
    exact j_iret (pc := 17) dX8_cell_17 rfl hf
  · refine j_iload_n (pc := 8) 2 dX8_cell_8 rfl rfl ?_
    refine j_iconst (pc := 9) dX8_cell_9 (v := 5) (by decide) ?_
    refine j_callSi (pc := 10) (d := d) (As := [.int x2, .int 5]) (st := []) dX8_cell_10 s370 rfl rfl (by decide) (Nat.le_of_ble_eq_true rfl) (fun q hq => t_X8_within  hq) hf (fun q2 hf => ?_)
    refine j_if_ne (pc := 13) (tgt := 18) dX8_cell_13 (by decide) hf (fun _ hf => ?_) (fun _ hf => ?_)
    · refine j_aload_n (pc := 18) 0 dX8_cell_18 rfl rfl ?_
      refine j_getR (pc := 19) (n := 56) dX8_cell_19 fl337 k0 (by decide) rfl ?_
      refine j_aload_n (pc := 22) 0 dX8_cell_22 rfl rfl ?_
      refine j_getR (pc := 23) (n := 1) dX8_cell_23 fl332 k0 (by decide) rfl ?_
      refine j_callVi (pc := 26) (d := d) (As := [.ref (ad (a0 + 1))]) (st := []) dX8_cell_26 s657 (lk_8_5 k0) (by decide) rfl rfl (by decide) (Nat.le_of_ble_eq_true rfl) (fun q hq => t_X2_settle (by omega) (lk_8_5 k0) (lk_8_0 k0) hq) hf (fun q3 hf => ?_)
      refine j_istore_n (pc := 29) (lv' := [(3, .int q3.1), (0, .ref (ad a0)), (1, .int x1), (2, .int x2)]) dX8_cell_29 rfl (by decide) rfl ?_
      refine j_iload_n (pc := 30) 0 dX8_cell_30 rfl rfl ?_
      refine j_if_ge (pc := 31) (tgt := 38) dX8_cell_31 (by decide) hf (fun _ hf => ?_) (fun _ hf => ?_)
      · refine j_aload_n (pc := 38) 1 dX8_cell_38 rfl rfl ?_
        refine j_getR (pc := 39) (n := 56) dX8_cell_39 fl337 k0 (by decide) rfl ?_
        refine j_getR (pc := 42) (n := 1) dX8_cell_42 fl264 (lk_8_5 k0) (by decide) rfl ?_
        refine j_iload_n (pc := 45) 2 dX8_cell_45 rfl rfl ?_
        refine j_iload_n (pc := 46) 3 dX8_cell_46 rfl rfl ?_
        refine j_callSi (pc := 47) (d := d) (As := [.int x1, .int x2]) (st := [.ref (ad (a0 + 56 + 1))]) dX8_cell_47 s374 rfl rfl (by decide) (Nat.le_of_ble_eq_true rfl) (fun q hq => t_X8_cellOf  hq) hf (fun q4 hf => ?_)
        refine j_iaload (pc := 50) dX8_cell_50 (lk_2_0 (lk_8_5 k0)) (ll_2_0 (lk_8_5 k0)) hf (fun _ hf => ?_)
        exact j_iret (pc := 51) dX8_cell_51 rfl hf
      · refine j_iload_n (pc := 34) 0 dX8_cell_34 rfl rfl ?_
        refine j_goto (pc := 35) (tgt := 51) dX8_cell_35 (by decide) ?_
        exact j_iret (pc := 51) dX8_cell_51 rfl hf
    · refine j_iconst (pc := 16) dX8_cell_16 (v := -1) (by decide) ?_
      exact j_iret (pc := 17) dX8_cell_17 rfl hf
def f_X8_judge (a0 : Nat) (x1 : Int32) (x2 : Int32) (x3 : Int32) (h : Hp) : Option (Int32 × Hp) := (f_X8_within x1 3 h).bind (fun q1 => if q1.1 = 0 then (some ((-1), q1.2)) else ((f_X8_within x3 8 q1.2).bind (fun q2 => if q2.1 = 0 then (some ((-1), q2.2)) else ((f_X6_copyOut (a0 + 100) x1 x2 (a0 + 107) q2.2).bind (fun q3 => if q3.1 = 0 then (some ((-3), q3.2)) else ((f_X2_settle (a0 + 56) (a0 + 1) q3.2).bind (fun q4 => if q4.1 = ((-3)) then (some ((-3), q4.2)) else ((f_X2_takes (a0 + 56) (a0 + 1) (a0 + 107) q4.2).bind (fun q5 => if q5.1 = 0 then (some ((-3), q5.2)) else ((f_X4_firstBetter (a0 + 56 + 2) (a0 + 1) (a0 + 107) q5.2).bind (fun q6 => if 0 ≤ q6.1 then (if q6.1 = 0 then (some ((-5), q6.2)) else ((f_X4_partOfRing (a0 + 56 + 2) x3 q6.2).bind (fun q7 => some (q7.1, q7.2)))) else (some (q6.1, q6.2)))))))))))))
set_option maxHeartbeats 4000000 in
set_option maxRecDepth 100000 in
theorem t_X8_judge {l : Launch} {D : va_G} {ad : Nat → Nat} {cA : Nat → ClassId} {d : Nat} (hdp : 23 ≤ d) {a0 : Nat} {x1 : Int32} {x2 : Int32} {x3 : Int32} (k0 : kd a0 = 8) {h : Hp} {o : Int32 × Hp} (hf : f_X8_judge a0 x1 x2 x3 h = some o) : Cr l D ad cA d yX8_judge cX8_judge 5 (some .int) [.ref (ad a0), .int x1, .int x2, .int x3] h (some (.int o.1)) o.2 := by
  obtain ⟨d, rfl⟩ : ∃ e, d = e + 1 := ⟨d - 1, by omega⟩
  have hdp : 22 ≤ d := by omega
  unfold f_X8_judge at hf
  refine Cr_of (by decide +kernel) rfl (Nat.le_of_ble_eq_true rfl) (lv0 := [(0, .ref (ad a0)), (1, .int x1), (2, .int x2), (3, .int x3)]) rfl ?_
  refine j_iload_n (pc := 0) 1 dX8_judge_0 rfl rfl ?_
  refine j_iconst (pc := 1) dX8_judge_1 (v := 3) (by decide) ?_
  refine j_callSi (pc := 2) (d := d) (As := [.int x1, .int 3]) (st := []) dX8_judge_2 s370 rfl rfl (by decide) (Nat.le_of_ble_eq_true rfl) (fun q hq => t_X8_within  hq) hf (fun q1 hf => ?_)
  refine j_if_eq (pc := 5) (tgt := 17) dX8_judge_5 (by decide) hf (fun _ hf => ?_) (fun _ hf => ?_)
  · refine j_iconst (pc := 17) dX8_judge_17 (v := -1) (by decide) ?_
    exact j_iret (pc := 18) dX8_judge_18 rfl hf
  · refine j_iload_n (pc := 8) 3 dX8_judge_8 rfl rfl ?_
    refine j_bipush (pc := 9) dX8_judge_9 (v := 8) (by decide) ?_
    refine j_callSi (pc := 11) (d := d) (As := [.int x3, .int 8]) (st := []) dX8_judge_11 s370 rfl rfl (by decide) (Nat.le_of_ble_eq_true rfl) (fun q hq => t_X8_within  hq) hf (fun q2 hf => ?_)
    refine j_if_ne (pc := 14) (tgt := 19) dX8_judge_14 (by decide) hf (fun _ hf => ?_) (fun _ hf => ?_)
    · refine j_aload_n (pc := 19) 0 dX8_judge_19 rfl rfl ?_
      refine j_getR (pc := 20) (n := 100) dX8_judge_20 fl340 k0 (by decide) rfl ?_
      refine j_iload_n (pc := 23) 1 dX8_judge_23 rfl rfl ?_
      refine j_iload_n (pc := 24) 2 dX8_judge_24 rfl rfl ?_
      refine j_aload_n (pc := 25) 0 dX8_judge_25 rfl rfl ?_
      refine j_getR (pc := 26) (n := 107) dX8_judge_26 fl341 k0 (by decide) rfl ?_
      refine j_callVi (pc := 29) (d := d) (As := [.int x1, .int x2, .ref (ad (a0 + 107))]) (st := []) dX8_judge_29 s752 (lk_8_8 k0) (by decide) rfl rfl (by decide) (Nat.le_of_ble_eq_true rfl) (fun q hq => t_X6_copyOut (lk_8_8 k0) (lk_8_9 k0) hq) hf (fun q3 hf => ?_)
      refine j_if_ne (pc := 32) (tgt := 38) dX8_judge_32 (by decide) hf (fun _ hf => ?_) (fun _ hf => ?_)
      · refine j_aload_n (pc := 38) 0 dX8_judge_38 rfl rfl ?_
        refine j_getR (pc := 39) (n := 56) dX8_judge_39 fl337 k0 (by decide) rfl ?_
        refine j_aload_n (pc := 42) 0 dX8_judge_42 rfl rfl ?_
        refine j_getR (pc := 43) (n := 1) dX8_judge_43 fl332 k0 (by decide) rfl ?_
        refine j_callVi (pc := 46) (d := d) (As := [.ref (ad (a0 + 1))]) (st := []) dX8_judge_46 s657 (lk_8_5 k0) (by decide) rfl rfl (by decide) (Nat.le_of_ble_eq_true rfl) (fun q hq => t_X2_settle (by omega) (lk_8_5 k0) (lk_8_0 k0) hq) hf (fun q4 hf => ?_)
        refine j_bipush (pc := 49) dX8_judge_49 (v := -3) (by decide) ?_
        refine j_icmp_eq (pc := 51) (tgt := 72) dX8_judge_51 (by decide) hf (fun _ hf => ?_) (fun _ hf => ?_)
        · refine j_bipush (pc := 72) dX8_judge_72 (v := -3) (by decide) ?_
          exact j_iret (pc := 74) dX8_judge_74 rfl hf
        · refine j_aload_n (pc := 54) 0 dX8_judge_54 rfl rfl ?_
          refine j_getR (pc := 55) (n := 56) dX8_judge_55 fl337 k0 (by decide) rfl ?_
          refine j_aload_n (pc := 58) 0 dX8_judge_58 rfl rfl ?_
          refine j_getR (pc := 59) (n := 1) dX8_judge_59 fl332 k0 (by decide) rfl ?_
          refine j_aload_n (pc := 62) 0 dX8_judge_62 rfl rfl ?_
          refine j_getR (pc := 63) (n := 107) dX8_judge_63 fl341 k0 (by decide) rfl ?_
          refine j_callVi (pc := 66) (d := d) (As := [.ref (ad (a0 + 1)), .ref (ad (a0 + 107))]) (st := []) dX8_judge_66 s756 (lk_8_5 k0) (by decide) rfl rfl (by decide) (Nat.le_of_ble_eq_true rfl) (fun q hq => t_X2_takes (by omega) (lk_8_5 k0) (lk_8_0 k0) (lk_8_9 k0) hq) hf (fun q5 hf => ?_)
          refine j_if_ne (pc := 69) (tgt := 75) dX8_judge_69 (by decide) hf (fun _ hf => ?_) (fun _ hf => ?_)
          · refine j_aload_n (pc := 75) 0 dX8_judge_75 rfl rfl ?_
            refine j_getR (pc := 76) (n := 56) dX8_judge_76 fl337 k0 (by decide) rfl ?_
            refine j_getR (pc := 79) (n := 2) dX8_judge_79 fl266 (lk_8_5 k0) (by decide) rfl ?_
            refine j_aload_n (pc := 82) 0 dX8_judge_82 rfl rfl ?_
            refine j_getR (pc := 83) (n := 1) dX8_judge_83 fl332 k0 (by decide) rfl ?_
            refine j_aload_n (pc := 86) 0 dX8_judge_86 rfl rfl ?_
            refine j_getR (pc := 87) (n := 107) dX8_judge_87 fl341 k0 (by decide) rfl ?_
            refine j_callVi (pc := 90) (d := d) (As := [.ref (ad (a0 + 1)), .ref (ad (a0 + 107))]) (st := []) dX8_judge_90 s760 (lk_2_1 (lk_8_5 k0)) (by decide) rfl rfl (by decide) (Nat.le_of_ble_eq_true rfl) (fun q hq => t_X4_firstBetter (by omega) (lk_2_1 (lk_8_5 k0)) (lk_8_0 k0) (lk_8_9 k0) hq) hf (fun q6 hf => ?_)
            refine j_istore (pc := 93) (lv' := [(4, .int q6.1), (0, .ref (ad a0)), (1, .int x1), (2, .int x2), (3, .int x3)]) dX8_judge_93 (by decide) rfl ?_
            refine j_iload (pc := 95) 0 dX8_judge_95 rfl ?_
            refine j_if_ge (pc := 97) (tgt := 103) dX8_judge_97 (by decide) hf (fun _ hf => ?_) (fun _ hf => ?_)
            · refine j_iload (pc := 103) 0 dX8_judge_103 rfl ?_
              refine j_if_ne (pc := 105) (tgt := 113) dX8_judge_105 (by decide) hf (fun _ hf => ?_) (fun _ hf => ?_)
              · refine j_aload_n (pc := 113) 1 dX8_judge_113 rfl rfl ?_
                refine j_getR (pc := 114) (n := 56) dX8_judge_114 fl337 k0 (by decide) rfl ?_
                refine j_getR (pc := 117) (n := 2) dX8_judge_117 fl266 (lk_8_5 k0) (by decide) rfl ?_
                refine j_iload_n (pc := 120) 4 dX8_judge_120 rfl rfl ?_
                refine j_callVi (pc := 121) (d := d) (As := [.int x3]) (st := []) dX8_judge_121 s761 (lk_2_1 (lk_8_5 k0)) (by decide) rfl rfl (by decide) (Nat.le_of_ble_eq_true rfl) (fun q hq => t_X4_partOfRing (lk_2_1 (lk_8_5 k0)) hq) hf (fun q7 hf => ?_)
                exact j_iret (pc := 124) dX8_judge_124 rfl hf
              · refine j_bipush (pc := 108) dX8_judge_108 (v := -5) (by decide) ?_
                refine j_goto (pc := 110) (tgt := 124) dX8_judge_110 (by decide) ?_
                exact j_iret (pc := 124) dX8_judge_124 rfl hf
            · refine j_iload (pc := 100) 0 dX8_judge_100 rfl ?_
              exact j_iret (pc := 102) dX8_judge_102 rfl hf
          · refine j_bipush (pc := 72) dX8_judge_72 (v := -3) (by decide) ?_
            exact j_iret (pc := 74) dX8_judge_74 rfl hf
      · refine j_bipush (pc := 35) dX8_judge_35 (v := -3) (by decide) ?_
        exact j_iret (pc := 37) dX8_judge_37 rfl hf
    · refine j_iconst (pc := 17) dX8_judge_17 (v := -1) (by decide) ?_
      exact j_iret (pc := 18) dX8_judge_18 rfl hf
def f_X8_lay (a0 : Nat) (x1 : Int32) (x2 : Int32) (h : Hp) : Option (Int32 × Hp) := (f_X8_within x1 3 h).bind (fun q1 => if q1.1 = 0 then (some ((-1), q1.2)) else ((f_X6_isThere (a0 + 100) x1 q1.2).bind (fun q2 => if q2.1 = 0 then (some ((-11), q2.2)) else ((f_X2_settle (a0 + 56) (a0 + 1) q2.2).bind (fun q3 => if 0 ≤ q3.1 then ((f_X6_copyIn (a0 + 100) x1 x2 (a0 + 56 + 1) q3.2).bind (fun q4 => if q4.1 = 0 then (some ((-13), q4.2)) else (some (24, q4.2)))) else (some (q3.1, q3.2)))))))
set_option maxHeartbeats 4000000 in
set_option maxRecDepth 100000 in
theorem t_X8_lay {l : Launch} {D : va_G} {ad : Nat → Nat} {cA : Nat → ClassId} {d : Nat} (hdp : 23 ≤ d) {a0 : Nat} {x1 : Int32} {x2 : Int32} (k0 : kd a0 = 8) {h : Hp} {o : Int32 × Hp} (hf : f_X8_lay a0 x1 x2 h = some o) : Cr l D ad cA d yX8_lay cX8_lay 4 (some .int) [.ref (ad a0), .int x1, .int x2] h (some (.int o.1)) o.2 := by
  obtain ⟨d, rfl⟩ : ∃ e, d = e + 1 := ⟨d - 1, by omega⟩
  have hdp : 22 ≤ d := by omega
  unfold f_X8_lay at hf
  refine Cr_of (by decide +kernel) rfl (Nat.le_of_ble_eq_true rfl) (lv0 := [(0, .ref (ad a0)), (1, .int x1), (2, .int x2)]) rfl ?_
  refine j_iload_n (pc := 0) 1 dX8_lay_0 rfl rfl ?_
  refine j_iconst (pc := 1) dX8_lay_1 (v := 3) (by decide) ?_
  refine j_callSi (pc := 2) (d := d) (As := [.int x1, .int 3]) (st := []) dX8_lay_2 s370 rfl rfl (by decide) (Nat.le_of_ble_eq_true rfl) (fun q hq => t_X8_within  hq) hf (fun q1 hf => ?_)
  refine j_if_ne (pc := 5) (tgt := 10) dX8_lay_5 (by decide) hf (fun _ hf => ?_) (fun _ hf => ?_)
  · refine j_aload_n (pc := 10) 0 dX8_lay_10 rfl rfl ?_
    refine j_getR (pc := 11) (n := 100) dX8_lay_11 fl340 k0 (by decide) rfl ?_
    refine j_iload_n (pc := 14) 1 dX8_lay_14 rfl rfl ?_
    refine j_callVi (pc := 15) (d := d) (As := [.int x1]) (st := []) dX8_lay_15 s806 (lk_8_8 k0) (by decide) rfl rfl (by decide) (Nat.le_of_ble_eq_true rfl) (fun q hq => t_X6_isThere (lk_8_8 k0) hq) hf (fun q2 hf => ?_)
    refine j_if_ne (pc := 18) (tgt := 24) dX8_lay_18 (by decide) hf (fun _ hf => ?_) (fun _ hf => ?_)
    · refine j_aload_n (pc := 24) 0 dX8_lay_24 rfl rfl ?_
      refine j_getR (pc := 25) (n := 56) dX8_lay_25 fl337 k0 (by decide) rfl ?_
      refine j_aload_n (pc := 28) 0 dX8_lay_28 rfl rfl ?_
      refine j_getR (pc := 29) (n := 1) dX8_lay_29 fl332 k0 (by decide) rfl ?_
      refine j_callVi (pc := 32) (d := d) (As := [.ref (ad (a0 + 1))]) (st := []) dX8_lay_32 s657 (lk_8_5 k0) (by decide) rfl rfl (by decide) (Nat.le_of_ble_eq_true rfl) (fun q hq => t_X2_settle (by omega) (lk_8_5 k0) (lk_8_0 k0) hq) hf (fun q3 hf => ?_)
      refine j_istore_n (pc := 35) (lv' := [(3, .int q3.1), (0, .ref (ad a0)), (1, .int x1), (2, .int x2)]) dX8_lay_35 rfl (by decide) rfl ?_
      refine j_iload_n (pc := 36) 0 dX8_lay_36 rfl rfl ?_
      refine j_if_ge (pc := 37) (tgt := 42) dX8_lay_37 (by decide) hf (fun _ hf => ?_) (fun _ hf => ?_)
      · refine j_aload_n (pc := 42) 1 dX8_lay_42 rfl rfl ?_
        refine j_getR (pc := 43) (n := 100) dX8_lay_43 fl340 k0 (by decide) rfl ?_
        refine j_iload_n (pc := 46) 2 dX8_lay_46 rfl rfl ?_
        refine j_iload_n (pc := 47) 3 dX8_lay_47 rfl rfl ?_
        refine j_aload_n (pc := 48) 1 dX8_lay_48 rfl rfl ?_
        refine j_getR (pc := 49) (n := 56) dX8_lay_49 fl337 k0 (by decide) rfl ?_
        refine j_getR (pc := 52) (n := 1) dX8_lay_52 fl264 (lk_8_5 k0) (by decide) rfl ?_
        refine j_callVi (pc := 55) (d := d) (As := [.int x1, .int x2, .ref (ad (a0 + 56 + 1))]) (st := []) dX8_lay_55 s827 (lk_8_8 k0) (by decide) rfl rfl (by decide) (Nat.le_of_ble_eq_true rfl) (fun q hq => t_X6_copyIn (by omega) (lk_8_8 k0) (lk_2_0 (lk_8_5 k0)) hq) hf (fun q4 hf => ?_)
        refine j_if_eq (pc := 58) (tgt := 66) dX8_lay_58 (by decide) hf (fun _ hf => ?_) (fun _ hf => ?_)
        · refine j_bipush (pc := 66) dX8_lay_66 (v := -13) (by decide) ?_
          exact j_iret (pc := 68) dX8_lay_68 rfl hf
        · refine j_bipush (pc := 61) dX8_lay_61 (v := 24) (by decide) ?_
          refine j_goto (pc := 63) (tgt := 68) dX8_lay_63 (by decide) ?_
          exact j_iret (pc := 68) dX8_lay_68 rfl hf
      · refine j_iload_n (pc := 40) 0 dX8_lay_40 rfl rfl ?_
        exact j_iret (pc := 41) dX8_lay_41 rfl hf
    · refine j_bipush (pc := 21) dX8_lay_21 (v := -11) (by decide) ?_
      exact j_iret (pc := 23) dX8_lay_23 rfl hf
  · refine j_iconst (pc := 8) dX8_lay_8 (v := -1) (by decide) ?_
    exact j_iret (pc := 9) dX8_lay_9 rfl hf
def f_X8_moved (a0 : Nat) (h : Hp) : Option (Int32 × Hp) := (f_X2_settle (a0 + 56) (a0 + 1) h).bind (fun q1 => if 0 ≤ q1.1 then ((f_X2_elsewhere (a0 + 56) (a0 + 1) q1.2).bind (fun q2 => some (q2.1, q2.2))) else (some (q1.1, q1.2)))
set_option maxHeartbeats 4000000 in
set_option maxRecDepth 100000 in
theorem t_X8_moved {l : Launch} {D : va_G} {ad : Nat → Nat} {cA : Nat → ClassId} {d : Nat} (hdp : 23 ≤ d) {a0 : Nat} (k0 : kd a0 = 8) {h : Hp} {o : Int32 × Hp} (hf : f_X8_moved a0 h = some o) : Cr l D ad cA d yX8_moved cX8_moved 2 (some .int) [.ref (ad a0)] h (some (.int o.1)) o.2 := by
  obtain ⟨d, rfl⟩ : ∃ e, d = e + 1 := ⟨d - 1, by omega⟩
  have hdp : 22 ≤ d := by omega
  unfold f_X8_moved at hf
  refine Cr_of (by decide +kernel) rfl (Nat.le_of_ble_eq_true rfl) (lv0 := [(0, .ref (ad a0))]) rfl ?_
  refine j_aload_n (pc := 0) 0 dX8_moved_0 rfl rfl ?_
  refine j_getR (pc := 1) (n := 56) dX8_moved_1 fl337 k0 (by decide) rfl ?_
  refine j_aload_n (pc := 4) 0 dX8_moved_4 rfl rfl ?_
  refine j_getR (pc := 5) (n := 1) dX8_moved_5 fl332 k0 (by decide) rfl ?_
  refine j_callVi (pc := 8) (d := d) (As := [.ref (ad (a0 + 1))]) (st := []) dX8_moved_8 s657 (lk_8_5 k0) (by decide) rfl rfl (by decide) (Nat.le_of_ble_eq_true rfl) (fun q hq => t_X2_settle (by omega) (lk_8_5 k0) (lk_8_0 k0) hq) hf (fun q1 hf => ?_)
  refine j_istore_n (pc := 11) (lv' := [(1, .int q1.1), (0, .ref (ad a0))]) dX8_moved_11 rfl (by decide) rfl ?_
  refine j_iload_n (pc := 12) 0 dX8_moved_12 rfl rfl ?_
  refine j_if_ge (pc := 13) (tgt := 20) dX8_moved_13 (by decide) hf (fun _ hf => ?_) (fun _ hf => ?_)
  · refine j_aload_n (pc := 20) 1 dX8_moved_20 rfl rfl ?_
    refine j_getR (pc := 21) (n := 56) dX8_moved_21 fl337 k0 (by decide) rfl ?_
    refine j_aload_n (pc := 24) 1 dX8_moved_24 rfl rfl ?_
    refine j_getR (pc := 25) (n := 1) dX8_moved_25 fl332 k0 (by decide) rfl ?_
    refine j_callVi (pc := 28) (d := d) (As := [.ref (ad (a0 + 1))]) (st := []) dX8_moved_28 s769 (lk_8_5 k0) (by decide) rfl rfl (by decide) (Nat.le_of_ble_eq_true rfl) (fun q hq => t_X2_elsewhere (by omega) (lk_8_5 k0) (lk_8_0 k0) hq) hf (fun q2 hf => ?_)
    exact j_iret (pc := 31) dX8_moved_31 rfl hf
  · refine j_iload_n (pc := 16) 0 dX8_moved_16 rfl rfl ?_
    refine j_goto (pc := 17) (tgt := 31) dX8_moved_17 (by decide) ?_
    exact j_iret (pc := 31) dX8_moved_31 rfl hf
def f_X8_solve (a0 : Nat) (h : Hp) : Option (Int32 × Hp) := (f_X2_settle (a0 + 56) (a0 + 1) h).bind (fun q1 => some (q1.1, q1.2))
set_option maxHeartbeats 4000000 in
set_option maxRecDepth 100000 in
theorem t_X8_solve {l : Launch} {D : va_G} {ad : Nat → Nat} {cA : Nat → ClassId} {d : Nat} (hdp : 23 ≤ d) {a0 : Nat} (k0 : kd a0 = 8) {h : Hp} {o : Int32 × Hp} (hf : f_X8_solve a0 h = some o) : Cr l D ad cA d yX8_solve cX8_solve 1 (some .int) [.ref (ad a0)] h (some (.int o.1)) o.2 := by
  obtain ⟨d, rfl⟩ : ∃ e, d = e + 1 := ⟨d - 1, by omega⟩
  have hdp : 22 ≤ d := by omega
  unfold f_X8_solve at hf
  refine Cr_of (by decide +kernel) rfl (Nat.le_of_ble_eq_true rfl) (lv0 := [(0, .ref (ad a0))]) rfl ?_
  refine j_aload_n (pc := 0) 0 dX8_solve_0 rfl rfl ?_
  refine j_getR (pc := 1) (n := 56) dX8_solve_1 fl337 k0 (by decide) rfl ?_
  refine j_aload_n (pc := 4) 0 dX8_solve_4 rfl rfl ?_
  refine j_getR (pc := 5) (n := 1) dX8_solve_5 fl332 k0 (by decide) rfl ?_
  refine j_callVi (pc := 8) (d := d) (As := [.ref (ad (a0 + 1))]) (st := []) dX8_solve_8 s657 (lk_8_5 k0) (by decide) rfl rfl (by decide) (Nat.le_of_ble_eq_true rfl) (fun q hq => t_X2_settle (by omega) (lk_8_5 k0) (lk_8_0 k0) hq) hf (fun q1 hf => ?_)
  exact j_iret (pc := 11) dX8_solve_11 rfl hf
def f_X8_spellPlan_46 (k28 : Nat → Int32 → Hp → Option (Int32 × Hp)) (a0 : Nat) (x2 : Int32) (h : Hp) : Option (Int32 × Hp) := (f_X8_cellOf x2 0 h).bind (fun q4 => (f_X5_putSeats (a0 + 98) (a0 + 56 + 1) q4.1 q4.2).bind (fun q5 => lt (x2 + 1) (fun v6 => k28 a0 v6 q5.2)))
set_option maxHeartbeats 4000000 in
set_option maxRecDepth 100000 in
theorem t_X8_spellPlan_46 {l : Launch} {D : va_G} {ad : Nat → Nat} {cA : Nat → ClassId} {d : Nat} (hdp : 22 ≤ d) {o : Int32 × Hp} {k28 : Nat → Int32 → Hp → Option (Int32 × Hp)} (hk28 : ∀ {a0 : Nat} {x2 : Int32} (k0 : kd a0 = 8) {h : Hp}, k28 a0 x2 h = some o → J l D ad cA (fun _ => True) (rmd (d + 1)) (0, 0) (mQ D ad cA (some (.int o.1)) o.2) cX8_spellPlan RX8 3 (some .int) 28 [(0, .ref (ad a0)), (2, .int x2)] [] h) {a0 : Nat} {x2 : Int32} (k0 : kd a0 = 8) {h : Hp} (hf : f_X8_spellPlan_46 k28 a0 x2 h = some o) : J l D ad cA (fun _ => True) (rmd (d + 1)) (0, 0) (mQ D ad cA (some (.int o.1)) o.2) cX8_spellPlan RX8 3 (some .int) 46 [(0, .ref (ad a0)), (2, .int x2)] [] h := by
  unfold f_X8_spellPlan_46 at hf
  refine j_aload_n (pc := 46) 0 dX8_spellPlan_46 rfl rfl ?_
  refine j_getR (pc := 47) (n := 98) dX8_spellPlan_47 fl339 k0 (by decide) rfl ?_
  refine j_aload_n (pc := 50) 0 dX8_spellPlan_50 rfl rfl ?_
  refine j_getR (pc := 51) (n := 56) dX8_spellPlan_51 fl337 k0 (by decide) rfl ?_
  refine j_getR (pc := 54) (n := 1) dX8_spellPlan_54 fl264 (lk_8_5 k0) (by decide) rfl ?_
  refine j_iload_n (pc := 57) 1 dX8_spellPlan_57 rfl rfl ?_
  refine j_iconst (pc := 58) dX8_spellPlan_58 (v := 0) (by decide) ?_
  refine j_callSi (pc := 59) (d := d) (As := [.int x2, .int 0]) (st := [.ref (ad (a0 + 56 + 1)), .ref (ad (a0 + 98))]) dX8_spellPlan_59 s374 rfl rfl (by decide) (Nat.le_of_ble_eq_true rfl) (fun q hq => t_X8_cellOf  hq) hf (fun q4 hf => ?_)
  refine j_callVv (pc := 62) (d := d) (As := [.ref (ad (a0 + 56 + 1)), .int q4.1]) (st := []) dX8_spellPlan_62 s641 (lk_8_7 k0) (by decide) rfl rfl (by decide) (Nat.le_of_ble_eq_true rfl) (fun q hq => t_X5_putSeats (by omega) (lk_8_7 k0) (lk_2_0 (lk_8_5 k0)) hq) hf (fun q5 hf => ?_)
  refine j_iinc (pc := 65) 1 (c := 1) (lv' := fun v6 => [(2, .int v6), (0, .ref (ad a0))]) dX8_spellPlan_65 rfl (by decide) (by decide) (fun _ => rfl) hf (fun v6 hf => ?_)
  refine j_goto (pc := 68) (tgt := 28) dX8_spellPlan_68 (by decide) ?_
  refine j_sub [1, 0] rfl ?_
  exact hk28 k0 hf
def f_X8_spellPlan_28 (k28 : Nat → Int32 → Hp → Option (Int32 × Hp)) (a0 : Nat) (x2 : Int32) (h : Hp) : Option (Int32 × Hp) := if 4 ≤ x2 then (some (h.1 (a0 + 98) 1, h)) else (if x2 ≤ 0 then (f_X8_spellPlan_46 k28 a0 x2 h) else ((f_X5_putByte (a0 + 98) 47 h).bind (fun q3 => f_X8_spellPlan_46 k28 a0 x2 q3.2)))
set_option maxHeartbeats 4000000 in
set_option maxRecDepth 100000 in
theorem t_X8_spellPlan_28 {l : Launch} {D : va_G} {ad : Nat → Nat} {cA : Nat → ClassId} {d : Nat} (hdp : 22 ≤ d) {o : Int32 × Hp}  : ∀ (n : Nat) {a0 : Nat} {x2 : Int32} (k0 : kd a0 = 8) {h : Hp}, lp (F := Nat → Int32 → Hp → Option (Int32 × Hp)) (fun _ _ _ => none) (f_X8_spellPlan_28) n a0 x2 h = some o → J l D ad cA (fun _ => True) (rmd (d + 1)) (0, 0) (mQ D ad cA (some (.int o.1)) o.2) cX8_spellPlan RX8 3 (some .int) 28 [(0, .ref (ad a0)), (2, .int x2)] [] h := by
  intro n
  induction n with
  | zero =>
    intro a0 x2 k0 h hf
    have hf : (none : Option (Int32 × Hp)) = some o := hf
    cases hf
  | succ n hk28 =>
    intro a0 x2 k0 h hf
    have hf : f_X8_spellPlan_28  (lp (F := Nat → Int32 → Hp → Option (Int32 × Hp)) (fun _ _ _ => none) (f_X8_spellPlan_28) n) a0 x2 h = some o := hf
    unfold f_X8_spellPlan_28 at hf
    refine j_iload_n (pc := 28) 1 dX8_spellPlan_28 rfl rfl ?_
    refine j_iconst (pc := 29) dX8_spellPlan_29 (v := 4) (by decide) ?_
    refine j_icmp_ge (pc := 30) (tgt := 71) dX8_spellPlan_30 (by decide) hf (fun _ hf => ?_) (fun _ hf => ?_)
    · refine j_aload_n (pc := 71) 0 dX8_spellPlan_71 rfl rfl ?_
      refine j_getR (pc := 72) (n := 98) dX8_spellPlan_72 fl339 k0 (by decide) rfl ?_
      refine j_getI (pc := 75) dX8_spellPlan_75 fl307 (lk_8_7 k0) (by decide) rfl ?_
      exact j_iret (pc := 78) dX8_spellPlan_78 rfl hf
    · refine j_iload_n (pc := 33) 1 dX8_spellPlan_33 rfl rfl ?_
      refine j_if_le (pc := 34) (tgt := 46) dX8_spellPlan_34 (by decide) hf (fun _ hf => ?_) (fun _ hf => ?_)
      · refine j_sub [0, 1] rfl ?_
        exact t_X8_spellPlan_46 hdp hk28 k0 hf
      · refine j_aload_n (pc := 37) 0 dX8_spellPlan_37 rfl rfl ?_
        refine j_getR (pc := 38) (n := 98) dX8_spellPlan_38 fl339 k0 (by decide) rfl ?_
        refine j_bipush (pc := 41) dX8_spellPlan_41 (v := 47) (by decide) ?_
        refine j_callVv (pc := 43) (d := d) (As := [.int 47]) (st := []) dX8_spellPlan_43 s781 (lk_8_7 k0) (by decide) rfl rfl (by decide) (Nat.le_of_ble_eq_true rfl) (fun q hq => t_X5_putByte (lk_8_7 k0) hq) hf (fun q3 hf => ?_)
        refine j_sub [0, 1] rfl ?_
        exact t_X8_spellPlan_46 hdp hk28 k0 hf
def f_X8_spellPlan (a0 : Nat) (h : Hp) : Option (Int32 × Hp) := (f_X2_settle (a0 + 56) (a0 + 1) h).bind (fun q1 => if 0 ≤ q1.1 then (lt (sI q1.2 (a0 + 98) 1 0) (fun m2 => lp (F := Nat → Int32 → Hp → Option (Int32 × Hp)) (fun _ _ _ => none) (f_X8_spellPlan_28) 1000 a0 0 m2)) else (some (q1.1, q1.2)))
set_option maxHeartbeats 4000000 in
set_option maxRecDepth 100000 in
theorem t_X8_spellPlan {l : Launch} {D : va_G} {ad : Nat → Nat} {cA : Nat → ClassId} {d : Nat} (hdp : 23 ≤ d) {a0 : Nat} (k0 : kd a0 = 8) {h : Hp} {o : Int32 × Hp} (hf : f_X8_spellPlan a0 h = some o) : Cr l D ad cA d yX8_spellPlan cX8_spellPlan 3 (some .int) [.ref (ad a0)] h (some (.int o.1)) o.2 := by
  obtain ⟨d, rfl⟩ : ∃ e, d = e + 1 := ⟨d - 1, by omega⟩
  have hdp : 22 ≤ d := by omega
  unfold f_X8_spellPlan at hf
  refine Cr_of (by decide +kernel) rfl (Nat.le_of_ble_eq_true rfl) (lv0 := [(0, .ref (ad a0))]) rfl ?_
  refine j_aload_n (pc := 0) 0 dX8_spellPlan_0 rfl rfl ?_
  refine j_getR (pc := 1) (n := 56) dX8_spellPlan_1 fl337 k0 (by decide) rfl ?_
  refine j_aload_n (pc := 4) 0 dX8_spellPlan_4 rfl rfl ?_
  refine j_getR (pc := 5) (n := 1) dX8_spellPlan_5 fl332 k0 (by decide) rfl ?_
  refine j_callVi (pc := 8) (d := d) (As := [.ref (ad (a0 + 1))]) (st := []) dX8_spellPlan_8 s657 (lk_8_5 k0) (by decide) rfl rfl (by decide) (Nat.le_of_ble_eq_true rfl) (fun q hq => t_X2_settle (by omega) (lk_8_5 k0) (lk_8_0 k0) hq) hf (fun q1 hf => ?_)
  refine j_istore_n (pc := 11) (lv' := [(1, .int q1.1), (0, .ref (ad a0))]) dX8_spellPlan_11 rfl (by decide) rfl ?_
  refine j_iload_n (pc := 12) 0 dX8_spellPlan_12 rfl rfl ?_
  refine j_if_ge (pc := 13) (tgt := 18) dX8_spellPlan_13 (by decide) hf (fun _ hf => ?_) (fun _ hf => ?_)
  · refine j_aload_n (pc := 18) 1 dX8_spellPlan_18 rfl rfl ?_
    refine j_getR (pc := 19) (n := 98) dX8_spellPlan_19 fl339 k0 (by decide) rfl ?_
    refine j_iconst (pc := 22) dX8_spellPlan_22 (v := 0) (by decide) ?_
    refine j_putI (pc := 23) dX8_spellPlan_23 fl307 fp5_1 (lk_8_7 k0) (by decide) rfl hf (fun m2 hf => ?_)
    refine j_iconst (pc := 26) dX8_spellPlan_26 (v := 0) (by decide) ?_
    refine j_istore_n (pc := 27) (lv' := [(2, .int 0), (1, .int q1.1), (0, .ref (ad a0))]) dX8_spellPlan_27 rfl (by decide) rfl ?_
    refine j_sub [2, 0] rfl ?_
    exact t_X8_spellPlan_28 hdp  1000 k0 hf
  · refine j_iload_n (pc := 16) 0 dX8_spellPlan_16 rfl rfl ?_
    exact j_iret (pc := 17) dX8_spellPlan_17 rfl hf
def f_X9_solves_20  (a0 : Nat) (h : Hp) : Option (Int32 × Hp) := some (h.1 a0 4, h)
set_option maxHeartbeats 4000000 in
set_option maxRecDepth 100000 in
theorem t_X9_solves_20 {l : Launch} {D : va_G} {ad : Nat → Nat} {cA : Nat → ClassId} {d : Nat} (hdp : 22 ≤ d) {o : Int32 × Hp}  {a0 : Nat} (k0 : kd a0 = 9) {h : Hp} (hf : f_X9_solves_20  a0 h = some o) : J l D ad cA (fun _ => True) (rmd (d + 1)) (0, 0) (mQ D ad cA (some (.int o.1)) o.2) cX9_solves RX9 1 (some .int) 20 [(0, .ref (ad a0))] [] h := by
  unfold f_X9_solves_20 at hf
  refine j_aload_n (pc := 20) 0 dX9_solves_20 rfl rfl ?_
  refine j_getI (pc := 21) dX9_solves_21 fl850 k0 (by decide) rfl ?_
  exact j_iret (pc := 24) dX9_solves_24 rfl hf
def f_X9_solves (a0 : Nat) (h : Hp) : Option (Int32 × Hp) := if (h.1 a0 3) = 0 then ((f_X9_solvesAnew a0 h).bind (fun q1 => lt (sI q1.2 a0 4 q1.1) (fun m2 => lt (sI m2 a0 3 1) (fun m3 => f_X9_solves_20  a0 m3)))) else (f_X9_solves_20  a0 h)
set_option maxHeartbeats 4000000 in
set_option maxRecDepth 100000 in
theorem t_X9_solves {l : Launch} {D : va_G} {ad : Nat → Nat} {cA : Nat → ClassId} {d : Nat} (hdp : 23 ≤ d) {a0 : Nat} (k0 : kd a0 = 9) {h : Hp} {o : Int32 × Hp} (hf : f_X9_solves a0 h = some o) : Cr l D ad cA d yX9_solves cX9_solves 1 (some .int) [.ref (ad a0)] h (some (.int o.1)) o.2 := by
  obtain ⟨d, rfl⟩ : ∃ e, d = e + 1 := ⟨d - 1, by omega⟩
  have hdp : 22 ≤ d := by omega
  unfold f_X9_solves at hf
  refine Cr_of (by decide +kernel) rfl (Nat.le_of_ble_eq_true rfl) (lv0 := [(0, .ref (ad a0))]) rfl ?_
  refine j_aload_n (pc := 0) 0 dX9_solves_0 rfl rfl ?_
  refine j_getI (pc := 1) dX9_solves_1 fl849 k0 (by decide) rfl ?_
  refine j_if_ne (pc := 4) (tgt := 20) dX9_solves_4 (by decide) hf (fun _ hf => ?_) (fun _ hf => ?_)
  · refine j_sub [0] rfl ?_
    exact t_X9_solves_20 hdp  k0 hf
  · refine j_aload_n (pc := 7) 0 dX9_solves_7 rfl rfl ?_
    refine j_aload_n (pc := 8) 0 dX9_solves_8 rfl rfl ?_
    refine j_callVi (pc := 9) (d := d) (As := []) (st := [.ref (ad a0)]) dX9_solves_9 s1263 k0 (by decide) rfl rfl (by decide) (Nat.le_of_ble_eq_true rfl) (fun q hq => t_X9_solvesAnew (by omega) k0 hq) hf (fun q1 hf => ?_)
    refine j_putI (pc := 12) dX9_solves_12 fl850 fp9_4 k0 (by decide) rfl hf (fun m2 hf => ?_)
    refine j_aload_n (pc := 15) 0 dX9_solves_15 rfl rfl ?_
    refine j_iconst (pc := 16) dX9_solves_16 (v := 1) (by decide) ?_
    refine j_putZ (pc := 17) dX9_solves_17 fl849 fp9_3 k0 (by decide) rfl (by decide) hf (fun m3 hf => ?_)
    refine j_sub [0] rfl ?_
    exact t_X9_solves_20 hdp  k0 hf
def f_X9_bound_291   (h : Hp) : Option (Int64 × Hp) := some ((-9223372036854775808), h)
set_option maxHeartbeats 4000000 in
set_option maxRecDepth 100000 in
theorem t_X9_bound_291 {l : Launch} {D : va_G} {ad : Nat → Nat} {cA : Nat → ClassId} {d : Nat} (hdp : 23 ≤ d) {o : Int64 × Hp}    {h : Hp} (hf : f_X9_bound_291   h = some o) : J l D ad cA (fun _ => True) (rmd (d + 1)) (0, 0) (mQ D ad cA (some (.long o.1)) o.2) cX9_bound RX9 19 (some .long) 291 [] [] h := by
  unfold f_X9_bound_291 at hf
  refine j_ldc2_w (pc := 291) dX9_bound_291 (v := -9223372036854775808) w_c1087 ?_
  refine j_goto (pc := 294) (tgt := 305) dX9_bound_294 (by decide) ?_
  exact j_lret (pc := 305) dX9_bound_305 rfl hf
def f_X9_bound_271 (k67 : Nat → Int32 → Int32 → Int32 → Int64 → Int64 → Int32 → Hp → Option (Int64 × Hp)) (a0 : Nat) (x1 : Int32) (x2 : Int32) (x3 : Int32) (x4 : Int64) (x6 : Int64) (x8 : Int32) (h : Hp) : Option (Int64 × Hp) := lt (x8 + 1) (fun v31 => k67 a0 x1 x2 x3 x4 x6 v31 h)
set_option maxHeartbeats 4000000 in
set_option maxRecDepth 100000 in
theorem t_X9_bound_271 {l : Launch} {D : va_G} {ad : Nat → Nat} {cA : Nat → ClassId} {d : Nat} (hdp : 23 ≤ d) {o : Int64 × Hp} {k67 : Nat → Int32 → Int32 → Int32 → Int64 → Int64 → Int32 → Hp → Option (Int64 × Hp)} (hk67 : ∀ {a0 : Nat} {x1 : Int32} {x2 : Int32} {x3 : Int32} {x4 : Int64} {x6 : Int64} {x8 : Int32} (k0 : kd a0 = 9) {h : Hp}, k67 a0 x1 x2 x3 x4 x6 x8 h = some o → J l D ad cA (fun _ => True) (rmd (d + 1)) (0, 0) (mQ D ad cA (some (.long o.1)) o.2) cX9_bound RX9 19 (some .long) 67 [(0, .ref (ad a0)), (1, .int x1), (2, .int x2), (3, .int x3), (4, .long x4), (6, .long x6), (8, .int x8)] [] h) {a0 : Nat} {x1 : Int32} {x2 : Int32} {x3 : Int32} {x4 : Int64} {x6 : Int64} {x8 : Int32} (k0 : kd a0 = 9) {h : Hp} (hf : f_X9_bound_271 k67 a0 x1 x2 x3 x4 x6 x8 h = some o) : J l D ad cA (fun _ => True) (rmd (d + 1)) (0, 0) (mQ D ad cA (some (.long o.1)) o.2) cX9_bound RX9 19 (some .long) 271 [(0, .ref (ad a0)), (1, .int x1), (2, .int x2), (3, .int x3), (4, .long x4), (6, .long x6), (8, .int x8)] [] h := by
  unfold f_X9_bound_271 at hf
  refine j_iinc (pc := 271) 6 (c := 1) (lv' := fun v31 => [(8, .int v31), (0, .ref (ad a0)), (1, .int x1), (2, .int x2), (3, .int x3), (4, .long x4), (6, .long x6)]) dX9_bound_271 rfl (by decide) (by decide) (fun _ => rfl) hf (fun v31 hf => ?_)
  refine j_goto (pc := 274) (tgt := 67) dX9_bound_274 (by decide) ?_
  refine j_sub [1, 2, 3, 4, 5, 6, 0] rfl ?_
  exact hk67 k0 hf
def f_X9_bound_263 (k67 : Nat → Int32 → Int32 → Int32 → Int64 → Int64 → Int32 → Hp → Option (Int64 × Hp)) (a0 : Nat) (x1 : Int32) (x2 : Int32) (x3 : Int32) (x8 : Int32) (x15 : Int64) (x17 : Int64) (h : Hp) : Option (Int64 × Hp) := f_X9_bound_271 k67 a0 x1 x2 x3 x15 x17 x8 h
set_option maxHeartbeats 4000000 in
set_option maxRecDepth 100000 in
theorem t_X9_bound_263 {l : Launch} {D : va_G} {ad : Nat → Nat} {cA : Nat → ClassId} {d : Nat} (hdp : 23 ≤ d) {o : Int64 × Hp} {k67 : Nat → Int32 → Int32 → Int32 → Int64 → Int64 → Int32 → Hp → Option (Int64 × Hp)} (hk67 : ∀ {a0 : Nat} {x1 : Int32} {x2 : Int32} {x3 : Int32} {x4 : Int64} {x6 : Int64} {x8 : Int32} (k0 : kd a0 = 9) {h : Hp}, k67 a0 x1 x2 x3 x4 x6 x8 h = some o → J l D ad cA (fun _ => True) (rmd (d + 1)) (0, 0) (mQ D ad cA (some (.long o.1)) o.2) cX9_bound RX9 19 (some .long) 67 [(0, .ref (ad a0)), (1, .int x1), (2, .int x2), (3, .int x3), (4, .long x4), (6, .long x6), (8, .int x8)] [] h) {a0 : Nat} {x1 : Int32} {x2 : Int32} {x3 : Int32} {x8 : Int32} {x15 : Int64} {x17 : Int64} (k0 : kd a0 = 9) {h : Hp} (hf : f_X9_bound_263 k67 a0 x1 x2 x3 x8 x15 x17 h = some o) : J l D ad cA (fun _ => True) (rmd (d + 1)) (0, 0) (mQ D ad cA (some (.long o.1)) o.2) cX9_bound RX9 19 (some .long) 263 [(0, .ref (ad a0)), (1, .int x1), (2, .int x2), (3, .int x3), (8, .int x8), (15, .long x15), (17, .long x17)] [] h := by
  unfold f_X9_bound_263 at hf
  refine j_lload (pc := 263) 5 dX9_bound_263 rfl ?_
  refine j_lstore (pc := 265) (lv' := [(4, .long x15), (0, .ref (ad a0)), (1, .int x1), (2, .int x2), (3, .int x3), (8, .int x8), (15, .long x15), (17, .long x17)]) dX9_bound_265 (by decide) rfl ?_
  refine j_lload (pc := 267) 7 dX9_bound_267 rfl ?_
  refine j_lstore (pc := 269) (lv' := [(6, .long x17), (4, .long x15), (0, .ref (ad a0)), (1, .int x1), (2, .int x2), (3, .int x3), (8, .int x8), (15, .long x15), (17, .long x17)]) dX9_bound_269 (by decide) rfl ?_
  refine j_sub [2, 3, 4, 5, 1, 0, 6] rfl ?_
  exact t_X9_bound_271 hdp hk67 k0 hf
def f_X9_bound_67 (k67 : Nat → Int32 → Int32 → Int32 → Int64 → Int64 → Int32 → Hp → Option (Int64 × Hp)) (a0 : Nat) (x1 : Int32) (x2 : Int32) (x3 : Int32) (x4 : Int64) (x6 : Int64) (x8 : Int32) (h : Hp) : Option (Int64 × Hp) := if 6 ≤ x8 then (if (h.1 a0 38) = 0 then (if (lg_cmp x6 0) = 0 then (f_X9_bound_291   h) else ((f_X9_lowest x4 x6 x3 h).bind (fun q8 => some (q8.1, q8.2)))) else (f_X9_bound_291   h)) else (if ix ((6 * x1) + x8) 24 = true then (lt ((h.1 (a0 + 23) (Int32.toNatClampNeg ((6 * x1) + x8))) + 1) (fun v9 => if ix ((6 * x2) + x8) 24 = true then (lt (h.1 (a0 + 23) (Int32.toNatClampNeg ((6 * x2) + x8))) (fun v10 => if v10 = 0 then (f_X9_bound_271 k67 a0 x1 x2 x3 x4 x6 x8 h) else ((f_X9_votesOf a0 x1 x8 h).bind (fun q11 => (f_X9_wayNow a0 q11.2).bind (fun q12 => (f_X9_below a0 q12.1 v9 q12.2).bind (fun q13 => (f_X9_times a0 (Int32.toInt64 q11.1) (Int32.toInt64 q13.1) q13.2).bind (fun q14 => (f_X9_wayNow a0 q14.2).bind (fun q15 => (f_X9_above a0 q15.1 v10 q15.2).bind (fun q16 => (f_X9_times a0 q14.1 (Int32.toInt64 q16.1) q16.2).bind (fun q17 => (f_X9_votesOf a0 x2 x8 q17.2).bind (fun q18 => (f_X9_wayNow a0 q18.2).bind (fun q19 => (f_X9_below a0 q19.1 v10 q19.2).bind (fun q20 => (f_X9_times a0 (Int32.toInt64 q18.1) (Int32.toInt64 q20.1) q20.2).bind (fun q21 => (f_X9_wayNow a0 q21.2).bind (fun q22 => (f_X9_above a0 q22.1 v9 q22.2).bind (fun q23 => (f_X9_times a0 q21.1 (Int32.toInt64 q23.1) q23.2).bind (fun q24 => (f_X9_wayNow a0 q24.2).bind (fun q25 => (f_X9_above a0 q25.1 v10 q25.2).bind (fun q26 => if q26.1 = 0 then (some ((-9223372036854775808), q26.2)) else (if (lg_cmp q24.1 0) = 0 then (some ((-9223372036854775808), q26.2)) else ((f_X9_lowest q17.1 q24.1 0 q26.2).bind (fun q27 => (f_X9_lowest q17.1 q24.1 1 q27.2).bind (fun q28 => if (lg_cmp x6 0) = 0 then (f_X9_bound_263 k67 a0 x1 x2 x3 x8 q27.1 q28.1 q28.2) else ((f_X9_times a0 q27.1 x6 q28.2).bind (fun q29 => (f_X9_times a0 x4 q28.1 q29.2).bind (fun q30 => if (lg_cmp q29.1 q30.1) ≤ 0 then (f_X9_bound_271 k67 a0 x1 x2 x3 x4 x6 x8 q30.2) else (f_X9_bound_263 k67 a0 x1 x2 x3 x8 q27.1 q28.1 q30.2))))))))))))))))))))))))))) else none)) else none)
set_option maxHeartbeats 4000000 in
set_option maxRecDepth 100000 in
theorem t_X9_bound_67 {l : Launch} {D : va_G} {ad : Nat → Nat} {cA : Nat → ClassId} {d : Nat} (hdp : 23 ≤ d) {o : Int64 × Hp}  : ∀ (n : Nat) {a0 : Nat} {x1 : Int32} {x2 : Int32} {x3 : Int32} {x4 : Int64} {x6 : Int64} {x8 : Int32} (k0 : kd a0 = 9) {h : Hp}, lp (F := Nat → Int32 → Int32 → Int32 → Int64 → Int64 → Int32 → Hp → Option (Int64 × Hp)) (fun _ _ _ _ _ _ _ _ => none) (f_X9_bound_67) n a0 x1 x2 x3 x4 x6 x8 h = some o → J l D ad cA (fun _ => True) (rmd (d + 1)) (0, 0) (mQ D ad cA (some (.long o.1)) o.2) cX9_bound RX9 19 (some .long) 67 [(0, .ref (ad a0)), (1, .int x1), (2, .int x2), (3, .int x3), (4, .long x4), (6, .long x6), (8, .int x8)] [] h := by
  intro n
  induction n with
  | zero =>
    intro a0 x1 x2 x3 x4 x6 x8 k0 h hf
    have hf : (none : Option (Int64 × Hp)) = some o := hf
    cases hf
  | succ n hk67 =>
    intro a0 x1 x2 x3 x4 x6 x8 k0 h hf
    have hf : f_X9_bound_67  (lp (F := Nat → Int32 → Int32 → Int32 → Int64 → Int64 → Int32 → Hp → Option (Int64 × Hp)) (fun _ _ _ _ _ _ _ _ => none) (f_X9_bound_67) n) a0 x1 x2 x3 x4 x6 x8 h = some o := hf
    unfold f_X9_bound_67 at hf
    refine j_iload (pc := 67) 6 dX9_bound_67 rfl ?_
    refine j_bipush (pc := 69) dX9_bound_69 (v := 6) (by decide) ?_
    refine j_icmp_ge (pc := 71) (tgt := 277) dX9_bound_71 (by decide) hf (fun _ hf => ?_) (fun _ hf => ?_)
    · refine j_aload_n (pc := 277) 0 dX9_bound_277 rfl rfl ?_
      refine j_getI (pc := 278) dX9_bound_278 fl884 k0 (by decide) rfl ?_
      refine j_if_ne (pc := 281) (tgt := 291) dX9_bound_281 (by decide) hf (fun _ hf => ?_) (fun _ hf => ?_)
      · refine j_sub [] rfl ?_
        exact t_X9_bound_291 hdp   hf
      · refine j_lload (pc := 284) 5 dX9_bound_284 rfl ?_
        refine j_lconst (pc := 286) dX9_bound_286 (v := 0) rfl ?_
        refine j_lcmp (pc := 287) dX9_bound_287  ?_
        refine j_if_ne (pc := 288) (tgt := 297) dX9_bound_288 (by decide) hf (fun _ hf => ?_) (fun _ hf => ?_)
        · refine j_lload (pc := 297) 4 dX9_bound_297 rfl ?_
          refine j_lload (pc := 299) 5 dX9_bound_299 rfl ?_
          refine j_iload_n (pc := 301) 3 dX9_bound_301 rfl rfl ?_
          refine j_callSl (pc := 302) (d := d) (As := [.long x4, .long x6, .int x3]) (st := []) dX9_bound_302 s1096 rfl rfl (by decide) (Nat.le_of_ble_eq_true rfl) (fun q hq => t_X9_lowest (by omega)  hq) hf (fun q8 hf => ?_)
          exact j_lret (pc := 305) dX9_bound_305 rfl hf
        · refine j_sub [] rfl ?_
          exact t_X9_bound_291 hdp   hf
    · refine j_aload_n (pc := 74) 0 dX9_bound_74 rfl rfl ?_
      refine j_getR (pc := 75) (n := 23) dX9_bound_75 fl880 k0 (by decide) rfl ?_
      refine j_bipush (pc := 78) dX9_bound_78 (v := 6) (by decide) ?_
      refine j_iload_n (pc := 80) 1 dX9_bound_80 rfl rfl ?_
      refine j_imul (pc := 81) dX9_bound_81  ?_
      refine j_iload (pc := 82) 6 dX9_bound_82 rfl ?_
      refine j_iadd (pc := 84) dX9_bound_84  ?_
      refine j_iaload (pc := 85) dX9_bound_85 (lk_9_34 k0) (ll_9_34 k0) hf (fun _ hf => ?_)
      refine j_iconst (pc := 86) dX9_bound_86 (v := 1) (by decide) ?_
      refine j_iadd (pc := 87) dX9_bound_87  ?_
      refine j_istoreN (pc := 88) (lv' := fun v9 => [(9, .int v9), (0, .ref (ad a0)), (1, .int x1), (2, .int x2), (3, .int x3), (4, .long x4), (6, .long x6), (8, .int x8)]) dX9_bound_88 (by decide) (fun _ => rfl) hf (fun v9 hf => ?_)
      refine j_aload_n (pc := 90) 1 dX9_bound_90 rfl rfl ?_
      refine j_getR (pc := 91) (n := 23) dX9_bound_91 fl880 k0 (by decide) rfl ?_
      refine j_bipush (pc := 94) dX9_bound_94 (v := 6) (by decide) ?_
      refine j_iload_n (pc := 96) 3 dX9_bound_96 rfl rfl ?_
      refine j_imul (pc := 97) dX9_bound_97  ?_
      refine j_iload (pc := 98) 7 dX9_bound_98 rfl ?_
      refine j_iadd (pc := 100) dX9_bound_100  ?_
      refine j_iaload (pc := 101) dX9_bound_101 (lk_9_34 k0) (ll_9_34 k0) hf (fun _ hf => ?_)
      refine j_istoreN (pc := 102) (lv' := fun v10 => [(10, .int v10), (9, .int v9), (0, .ref (ad a0)), (1, .int x1), (2, .int x2), (3, .int x3), (4, .long x4), (6, .long x6), (8, .int x8)]) dX9_bound_102 (by decide) (fun _ => rfl) hf (fun v10 hf => ?_)
      refine j_iload (pc := 104) 0 dX9_bound_104 rfl ?_
      refine j_if_ne (pc := 106) (tgt := 112) dX9_bound_106 (by decide) hf (fun _ hf => ?_) (fun _ hf => ?_)
      · refine j_aload_n (pc := 112) 2 dX9_bound_112 rfl rfl ?_
        refine j_aload_n (pc := 113) 2 dX9_bound_113 rfl rfl ?_
        refine j_aload_n (pc := 114) 2 dX9_bound_114 rfl rfl ?_
        refine j_iload_n (pc := 115) 3 dX9_bound_115 rfl rfl ?_
        refine j_iload (pc := 116) 8 dX9_bound_116 rfl ?_
        refine j_callVi (pc := 118) (d := d) (As := [.int x1, .int x8]) (st := [.ref (ad a0), .ref (ad a0)]) dX9_bound_118 s1006 k0 (by decide) rfl rfl (by decide) (Nat.le_of_ble_eq_true rfl) (fun q hq => t_X9_votesOf k0 hq) hf (fun q11 hf => ?_)
        refine j_i2l (pc := 121) dX9_bound_121  ?_
        refine j_aload_n (pc := 122) 2 dX9_bound_122 rfl rfl ?_
        refine j_aload_n (pc := 123) 2 dX9_bound_123 rfl rfl ?_
        refine j_callVi (pc := 124) (d := d) (As := []) (st := [.ref (ad a0), .long (Int32.toInt64 q11.1), .ref (ad a0), .ref (ad a0)]) dX9_bound_124 s1079 k0 (by decide) rfl rfl (by decide) (Nat.le_of_ble_eq_true rfl) (fun q hq => t_X9_wayNow k0 hq) hf (fun q12 hf => ?_)
        refine j_iload (pc := 127) 1 dX9_bound_127 rfl ?_
        refine j_callVi (pc := 129) (d := d) (As := [.int q12.1, .int v9]) (st := [.long (Int32.toInt64 q11.1), .ref (ad a0), .ref (ad a0)]) dX9_bound_129 s1092 k0 (by decide) rfl rfl (by decide) (Nat.le_of_ble_eq_true rfl) (fun q hq => t_X9_below k0 hq) hf (fun q13 hf => ?_)
        refine j_i2l (pc := 132) dX9_bound_132  ?_
        refine j_callVl (pc := 133) (d := d) (As := [.long (Int32.toInt64 q11.1), .long (Int32.toInt64 q13.1)]) (st := [.ref (ad a0)]) dX9_bound_133 s1312 k0 (by decide) rfl rfl (by decide) (Nat.le_of_ble_eq_true rfl) (fun q hq => t_X9_times k0 hq) hf (fun q14 hf => ?_)
        refine j_aload_n (pc := 136) 2 dX9_bound_136 rfl rfl ?_
        refine j_aload_n (pc := 137) 2 dX9_bound_137 rfl rfl ?_
        refine j_callVi (pc := 138) (d := d) (As := []) (st := [.ref (ad a0), .long q14.1, .ref (ad a0)]) dX9_bound_138 s1079 k0 (by decide) rfl rfl (by decide) (Nat.le_of_ble_eq_true rfl) (fun q hq => t_X9_wayNow k0 hq) hf (fun q15 hf => ?_)
        refine j_iload (pc := 141) 0 dX9_bound_141 rfl ?_
        refine j_callVi (pc := 143) (d := d) (As := [.int q15.1, .int v10]) (st := [.long q14.1, .ref (ad a0)]) dX9_bound_143 s1083 k0 (by decide) rfl rfl (by decide) (Nat.le_of_ble_eq_true rfl) (fun q hq => t_X9_above k0 hq) hf (fun q16 hf => ?_)
        refine j_i2l (pc := 146) dX9_bound_146  ?_
        refine j_callVl (pc := 147) (d := d) (As := [.long q14.1, .long (Int32.toInt64 q16.1)]) (st := []) dX9_bound_147 s1312 k0 (by decide) rfl rfl (by decide) (Nat.le_of_ble_eq_true rfl) (fun q hq => t_X9_times k0 hq) hf (fun q17 hf => ?_)
        refine j_lstore (pc := 150) (lv' := [(11, .long q17.1), (10, .int v10), (9, .int v9), (0, .ref (ad a0)), (1, .int x1), (2, .int x2), (3, .int x3), (4, .long x4), (6, .long x6), (8, .int x8)]) dX9_bound_150 (by decide) rfl ?_
        refine j_aload_n (pc := 152) 3 dX9_bound_152 rfl rfl ?_
        refine j_aload_n (pc := 153) 3 dX9_bound_153 rfl rfl ?_
        refine j_aload_n (pc := 154) 3 dX9_bound_154 rfl rfl ?_
        refine j_iload_n (pc := 155) 5 dX9_bound_155 rfl rfl ?_
        refine j_iload (pc := 156) 9 dX9_bound_156 rfl ?_
        refine j_callVi (pc := 158) (d := d) (As := [.int x2, .int x8]) (st := [.ref (ad a0), .ref (ad a0)]) dX9_bound_158 s1006 k0 (by decide) rfl rfl (by decide) (Nat.le_of_ble_eq_true rfl) (fun q hq => t_X9_votesOf k0 hq) hf (fun q18 hf => ?_)
        refine j_i2l (pc := 161) dX9_bound_161  ?_
        refine j_aload_n (pc := 162) 3 dX9_bound_162 rfl rfl ?_
        refine j_aload_n (pc := 163) 3 dX9_bound_163 rfl rfl ?_
        refine j_callVi (pc := 164) (d := d) (As := []) (st := [.ref (ad a0), .long (Int32.toInt64 q18.1), .ref (ad a0), .ref (ad a0)]) dX9_bound_164 s1079 k0 (by decide) rfl rfl (by decide) (Nat.le_of_ble_eq_true rfl) (fun q hq => t_X9_wayNow k0 hq) hf (fun q19 hf => ?_)
        refine j_iload (pc := 167) 1 dX9_bound_167 rfl ?_
        refine j_callVi (pc := 169) (d := d) (As := [.int q19.1, .int v10]) (st := [.long (Int32.toInt64 q18.1), .ref (ad a0), .ref (ad a0)]) dX9_bound_169 s1092 k0 (by decide) rfl rfl (by decide) (Nat.le_of_ble_eq_true rfl) (fun q hq => t_X9_below k0 hq) hf (fun q20 hf => ?_)
        refine j_i2l (pc := 172) dX9_bound_172  ?_
        refine j_callVl (pc := 173) (d := d) (As := [.long (Int32.toInt64 q18.1), .long (Int32.toInt64 q20.1)]) (st := [.ref (ad a0)]) dX9_bound_173 s1312 k0 (by decide) rfl rfl (by decide) (Nat.le_of_ble_eq_true rfl) (fun q hq => t_X9_times k0 hq) hf (fun q21 hf => ?_)
        refine j_aload_n (pc := 176) 3 dX9_bound_176 rfl rfl ?_
        refine j_aload_n (pc := 177) 3 dX9_bound_177 rfl rfl ?_
        refine j_callVi (pc := 178) (d := d) (As := []) (st := [.ref (ad a0), .long q21.1, .ref (ad a0)]) dX9_bound_178 s1079 k0 (by decide) rfl rfl (by decide) (Nat.le_of_ble_eq_true rfl) (fun q hq => t_X9_wayNow k0 hq) hf (fun q22 hf => ?_)
        refine j_iload (pc := 181) 2 dX9_bound_181 rfl ?_
        refine j_callVi (pc := 183) (d := d) (As := [.int q22.1, .int v9]) (st := [.long q21.1, .ref (ad a0)]) dX9_bound_183 s1083 k0 (by decide) rfl rfl (by decide) (Nat.le_of_ble_eq_true rfl) (fun q hq => t_X9_above k0 hq) hf (fun q23 hf => ?_)
        refine j_i2l (pc := 186) dX9_bound_186  ?_
        refine j_callVl (pc := 187) (d := d) (As := [.long q21.1, .long (Int32.toInt64 q23.1)]) (st := []) dX9_bound_187 s1312 k0 (by decide) rfl rfl (by decide) (Nat.le_of_ble_eq_true rfl) (fun q hq => t_X9_times k0 hq) hf (fun q24 hf => ?_)
        refine j_lstore (pc := 190) (lv' := [(13, .long q24.1), (11, .long q17.1), (10, .int v10), (9, .int v9), (0, .ref (ad a0)), (1, .int x1), (2, .int x2), (3, .int x3), (4, .long x4), (6, .long x6), (8, .int x8)]) dX9_bound_190 (by decide) rfl ?_
        refine j_aload_n (pc := 192) 4 dX9_bound_192 rfl rfl ?_
        refine j_aload_n (pc := 193) 4 dX9_bound_193 rfl rfl ?_
        refine j_callVi (pc := 194) (d := d) (As := []) (st := [.ref (ad a0)]) dX9_bound_194 s1079 k0 (by decide) rfl rfl (by decide) (Nat.le_of_ble_eq_true rfl) (fun q hq => t_X9_wayNow k0 hq) hf (fun q25 hf => ?_)
        refine j_iload (pc := 197) 2 dX9_bound_197 rfl ?_
        refine j_callVi (pc := 199) (d := d) (As := [.int q25.1, .int v10]) (st := []) dX9_bound_199 s1083 k0 (by decide) rfl rfl (by decide) (Nat.le_of_ble_eq_true rfl) (fun q hq => t_X9_above k0 hq) hf (fun q26 hf => ?_)
        refine j_if_eq (pc := 202) (tgt := 212) dX9_bound_202 (by decide) hf (fun _ hf => ?_) (fun _ hf => ?_)
        · refine j_ldc2_w (pc := 212) dX9_bound_212 (v := -9223372036854775808) w_c1087 ?_
          exact j_lret (pc := 215) dX9_bound_215 rfl hf
        · refine j_lload (pc := 205) 0 dX9_bound_205 rfl ?_
          refine j_lconst (pc := 207) dX9_bound_207 (v := 0) rfl ?_
          refine j_lcmp (pc := 208) dX9_bound_208  ?_
          refine j_if_ne (pc := 209) (tgt := 216) dX9_bound_209 (by decide) hf (fun _ hf => ?_) (fun _ hf => ?_)
          · refine j_lload (pc := 216) 1 dX9_bound_216 rfl ?_
            refine j_lload (pc := 218) 0 dX9_bound_218 rfl ?_
            refine j_iconst (pc := 220) dX9_bound_220 (v := 0) (by decide) ?_
            refine j_callSl (pc := 221) (d := d) (As := [.long q17.1, .long q24.1, .int 0]) (st := []) dX9_bound_221 s1096 rfl rfl (by decide) (Nat.le_of_ble_eq_true rfl) (fun q hq => t_X9_lowest (by omega)  hq) hf (fun q27 hf => ?_)
            refine j_lstore (pc := 224) (lv' := [(15, .long q27.1), (13, .long q24.1), (11, .long q17.1), (10, .int v10), (9, .int v9), (0, .ref (ad a0)), (1, .int x1), (2, .int x2), (3, .int x3), (4, .long x4), (6, .long x6), (8, .int x8)]) dX9_bound_224 (by decide) rfl ?_
            refine j_lload (pc := 226) 2 dX9_bound_226 rfl ?_
            refine j_lload (pc := 228) 1 dX9_bound_228 rfl ?_
            refine j_iconst (pc := 230) dX9_bound_230 (v := 1) (by decide) ?_
            refine j_callSl (pc := 231) (d := d) (As := [.long q17.1, .long q24.1, .int 1]) (st := []) dX9_bound_231 s1096 rfl rfl (by decide) (Nat.le_of_ble_eq_true rfl) (fun q hq => t_X9_lowest (by omega)  hq) hf (fun q28 hf => ?_)
            refine j_lstore (pc := 234) (lv' := [(17, .long q28.1), (15, .long q27.1), (13, .long q24.1), (11, .long q17.1), (10, .int v10), (9, .int v9), (0, .ref (ad a0)), (1, .int x1), (2, .int x2), (3, .int x3), (4, .long x4), (6, .long x6), (8, .int x8)]) dX9_bound_234 (by decide) rfl ?_
            refine j_lload (pc := 236) 11 dX9_bound_236 rfl ?_
            refine j_lconst (pc := 238) dX9_bound_238 (v := 0) rfl ?_
            refine j_lcmp (pc := 239) dX9_bound_239  ?_
            refine j_if_eq (pc := 240) (tgt := 263) dX9_bound_240 (by decide) hf (fun _ hf => ?_) (fun _ hf => ?_)
            · refine j_sub [6, 7, 8, 9, 12, 1, 0] rfl ?_
              exact t_X9_bound_263 hdp hk67 k0 hf
            · refine j_aload_n (pc := 243) 6 dX9_bound_243 rfl rfl ?_
              refine j_lload (pc := 244) 1 dX9_bound_244 rfl ?_
              refine j_lload (pc := 246) 11 dX9_bound_246 rfl ?_
              refine j_callVl (pc := 248) (d := d) (As := [.long q27.1, .long x6]) (st := []) dX9_bound_248 s1312 k0 (by decide) rfl rfl (by decide) (Nat.le_of_ble_eq_true rfl) (fun q hq => t_X9_times k0 hq) hf (fun q29 hf => ?_)
              refine j_aload_n (pc := 251) 6 dX9_bound_251 rfl rfl ?_
              refine j_lload (pc := 252) 10 dX9_bound_252 rfl ?_
              refine j_lload (pc := 254) 0 dX9_bound_254 rfl ?_
              refine j_callVl (pc := 256) (d := d) (As := [.long x4, .long q28.1]) (st := [.long q29.1]) dX9_bound_256 s1312 k0 (by decide) rfl rfl (by decide) (Nat.le_of_ble_eq_true rfl) (fun q hq => t_X9_times k0 hq) hf (fun q30 hf => ?_)
              refine j_lcmp (pc := 259) dX9_bound_259  ?_
              refine j_if_le (pc := 260) (tgt := 271) dX9_bound_260 (by decide) hf (fun _ hf => ?_) (fun _ hf => ?_)
              · refine j_sub [6, 7, 8, 9, 10, 11, 12] rfl ?_
                exact t_X9_bound_271 hdp hk67 k0 hf
              · refine j_sub [6, 7, 8, 9, 12, 1, 0] rfl ?_
                exact t_X9_bound_263 hdp hk67 k0 hf
          · refine j_ldc2_w (pc := 212) dX9_bound_212 (v := -9223372036854775808) w_c1087 ?_
            exact j_lret (pc := 215) dX9_bound_215 rfl hf
      · refine j_goto (pc := 109) (tgt := 271) dX9_bound_109 (by decide) ?_
        refine j_sub [2, 3, 4, 5, 6, 7, 8] rfl ?_
        exact t_X9_bound_271 hdp hk67 k0 hf
def f_X9_bound (a0 : Nat) (x1 : Int32) (x2 : Int32) (x3 : Int32) (h : Hp) : Option (Int64 × Hp) := (f_X9_isWard x1 h).bind (fun q1 => if q1.1 = 0 then (some ((-9223372036854775808), q1.2)) else ((f_X9_isWard x2 q1.2).bind (fun q2 => if q2.1 = 0 then (some ((-9223372036854775808), q2.2)) else (if x1 = x2 then (some ((-9223372036854775808), q2.2)) else ((f_X9_isPart x3 q2.2).bind (fun q3 => if q3.1 = 0 then (some ((-9223372036854775808), q3.2)) else ((f_X9_solves a0 q3.2).bind (fun q4 => if q4.1 < 0 then (some ((-9223372036854775808), q4.2)) else ((f_X9_seatsOf a0 x1 q4.2).bind (fun q5 => if q5.1 = 0 then (some ((-9223372036854775808), q5.2)) else ((f_X9_seatsOf a0 x2 q5.2).bind (fun q6 => if q6.1 = 0 then (some ((-9223372036854775808), q6.2)) else (lt (sI q6.2 a0 38 0) (fun m7 => lp (F := Nat → Int32 → Int32 → Int32 → Int64 → Int64 → Int32 → Hp → Option (Int64 × Hp)) (fun _ _ _ _ _ _ _ _ => none) (f_X9_bound_67) 1000 a0 x1 x2 x3 0 0 0 m7))))))))))))))
set_option maxHeartbeats 4000000 in
set_option maxRecDepth 100000 in
theorem t_X9_bound {l : Launch} {D : va_G} {ad : Nat → Nat} {cA : Nat → ClassId} {d : Nat} (hdp : 24 ≤ d) {a0 : Nat} {x1 : Int32} {x2 : Int32} {x3 : Int32} (k0 : kd a0 = 9) {h : Hp} {o : Int64 × Hp} (hf : f_X9_bound a0 x1 x2 x3 h = some o) : Cr l D ad cA d yX9_bound cX9_bound 19 (some .long) [.ref (ad a0), .int x1, .int x2, .int x3] h (some (.long o.1)) o.2 := by
  obtain ⟨d, rfl⟩ : ∃ e, d = e + 1 := ⟨d - 1, by omega⟩
  have hdp : 23 ≤ d := by omega
  unfold f_X9_bound at hf
  refine Cr_of (by decide +kernel) rfl (Nat.le_of_ble_eq_true rfl) (lv0 := [(0, .ref (ad a0)), (1, .int x1), (2, .int x2), (3, .int x3)]) rfl ?_
  refine j_iload_n (pc := 0) 1 dX9_bound_0 rfl rfl ?_
  refine j_callSi (pc := 1) (d := d) (As := [.int x1]) (st := []) dX9_bound_1 s978 rfl rfl (by decide) (Nat.le_of_ble_eq_true rfl) (fun q hq => t_X9_isWard (by omega)  hq) hf (fun q1 hf => ?_)
  refine j_if_eq (pc := 4) (tgt := 49) dX9_bound_4 (by decide) hf (fun _ hf => ?_) (fun _ hf => ?_)
  · refine j_ldc2_w (pc := 49) dX9_bound_49 (v := -9223372036854775808) w_c1087 ?_
    exact j_lret (pc := 52) dX9_bound_52 rfl hf
  · refine j_iload_n (pc := 7) 2 dX9_bound_7 rfl rfl ?_
    refine j_callSi (pc := 8) (d := d) (As := [.int x2]) (st := []) dX9_bound_8 s978 rfl rfl (by decide) (Nat.le_of_ble_eq_true rfl) (fun q hq => t_X9_isWard (by omega)  hq) hf (fun q2 hf => ?_)
    refine j_if_eq (pc := 11) (tgt := 49) dX9_bound_11 (by decide) hf (fun _ hf => ?_) (fun _ hf => ?_)
    · refine j_ldc2_w (pc := 49) dX9_bound_49 (v := -9223372036854775808) w_c1087 ?_
      exact j_lret (pc := 52) dX9_bound_52 rfl hf
    · refine j_iload_n (pc := 14) 1 dX9_bound_14 rfl rfl ?_
      refine j_iload_n (pc := 15) 2 dX9_bound_15 rfl rfl ?_
      refine j_icmp_eq (pc := 16) (tgt := 49) dX9_bound_16 (by decide) hf (fun _ hf => ?_) (fun _ hf => ?_)
      · refine j_ldc2_w (pc := 49) dX9_bound_49 (v := -9223372036854775808) w_c1087 ?_
        exact j_lret (pc := 52) dX9_bound_52 rfl hf
      · refine j_iload_n (pc := 19) 3 dX9_bound_19 rfl rfl ?_
        refine j_callSi (pc := 20) (d := d) (As := [.int x3]) (st := []) dX9_bound_20 s1076 rfl rfl (by decide) (Nat.le_of_ble_eq_true rfl) (fun q hq => t_X9_isPart  hq) hf (fun q3 hf => ?_)
        refine j_if_eq (pc := 23) (tgt := 49) dX9_bound_23 (by decide) hf (fun _ hf => ?_) (fun _ hf => ?_)
        · refine j_ldc2_w (pc := 49) dX9_bound_49 (v := -9223372036854775808) w_c1087 ?_
          exact j_lret (pc := 52) dX9_bound_52 rfl hf
        · refine j_aload_n (pc := 26) 0 dX9_bound_26 rfl rfl ?_
          refine j_callVi (pc := 27) (d := d) (As := []) (st := []) dX9_bound_27 s1259 k0 (by decide) rfl rfl (by decide) (Nat.le_of_ble_eq_true rfl) (fun q hq => t_X9_solves (by omega) k0 hq) hf (fun q4 hf => ?_)
          refine j_if_lt (pc := 30) (tgt := 49) dX9_bound_30 (by decide) hf (fun _ hf => ?_) (fun _ hf => ?_)
          · refine j_ldc2_w (pc := 49) dX9_bound_49 (v := -9223372036854775808) w_c1087 ?_
            exact j_lret (pc := 52) dX9_bound_52 rfl hf
          · refine j_aload_n (pc := 33) 0 dX9_bound_33 rfl rfl ?_
            refine j_iload_n (pc := 34) 1 dX9_bound_34 rfl rfl ?_
            refine j_callVi (pc := 35) (d := d) (As := [.int x1]) (st := []) dX9_bound_35 s1275 k0 (by decide) rfl rfl (by decide) (Nat.le_of_ble_eq_true rfl) (fun q hq => t_X9_seatsOf k0 hq) hf (fun q5 hf => ?_)
            refine j_if_eq (pc := 38) (tgt := 49) dX9_bound_38 (by decide) hf (fun _ hf => ?_) (fun _ hf => ?_)
            · refine j_ldc2_w (pc := 49) dX9_bound_49 (v := -9223372036854775808) w_c1087 ?_
              exact j_lret (pc := 52) dX9_bound_52 rfl hf
            · refine j_aload_n (pc := 41) 0 dX9_bound_41 rfl rfl ?_
              refine j_iload_n (pc := 42) 2 dX9_bound_42 rfl rfl ?_
              refine j_callVi (pc := 43) (d := d) (As := [.int x2]) (st := []) dX9_bound_43 s1275 k0 (by decide) rfl rfl (by decide) (Nat.le_of_ble_eq_true rfl) (fun q hq => t_X9_seatsOf k0 hq) hf (fun q6 hf => ?_)
              refine j_if_ne (pc := 46) (tgt := 53) dX9_bound_46 (by decide) hf (fun _ hf => ?_) (fun _ hf => ?_)
              · refine j_lconst (pc := 53) dX9_bound_53 (v := 0) rfl ?_
                refine j_lstore (pc := 54) (lv' := [(4, .long 0), (0, .ref (ad a0)), (1, .int x1), (2, .int x2), (3, .int x3)]) dX9_bound_54 (by decide) rfl ?_
                refine j_lconst (pc := 56) dX9_bound_56 (v := 0) rfl ?_
                refine j_lstore (pc := 57) (lv' := [(6, .long 0), (4, .long 0), (0, .ref (ad a0)), (1, .int x1), (2, .int x2), (3, .int x3)]) dX9_bound_57 (by decide) rfl ?_
                refine j_aload_n (pc := 59) 2 dX9_bound_59 rfl rfl ?_
                refine j_iconst (pc := 60) dX9_bound_60 (v := 0) (by decide) ?_
                refine j_putZ (pc := 61) dX9_bound_61 fl884 fp9_38 k0 (by decide) rfl (by decide) hf (fun m7 hf => ?_)
                refine j_iconst (pc := 64) dX9_bound_64 (v := 0) (by decide) ?_
                refine j_istore (pc := 65) (lv' := [(8, .int 0), (6, .long 0), (4, .long 0), (0, .ref (ad a0)), (1, .int x1), (2, .int x2), (3, .int x3)]) dX9_bound_65 (by decide) rfl ?_
                refine j_sub [3, 4, 5, 6, 2, 1, 0] rfl ?_
                exact t_X9_bound_67 hdp  1000 k0 hf
              · refine j_ldc2_w (pc := 49) dX9_bound_49 (v := -9223372036854775808) w_c1087 ?_
                exact j_lret (pc := 52) dX9_bound_52 rfl hf
