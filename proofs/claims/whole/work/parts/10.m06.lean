def f_X2_boundBetween_265 (k9 : Nat → Nat → Int32 → Int32 → Int32 → Int64 → Int64 → Int32 → Hp → Option (Int64 × Hp)) (a0 : Nat) (a1 : Nat) (x2 : Int32) (x3 : Int32) (x4 : Int32) (x5 : Int64) (x7 : Int64) (x9 : Int32) (h : Hp) : Option (Int64 × Hp) := lt (x9 + 1) (fun v17 => k9 a0 a1 x2 x3 x4 x5 x7 v17 h)
set_option maxHeartbeats 4000000 in
set_option maxRecDepth 100000 in
theorem t_X2_boundBetween_265 {l : Launch} {D : va_G} {ad : Nat → Nat} {cA : Nat → ClassId} {d : Nat} (hdp : 1 ≤ d) {o : Int64 × Hp} {k9 : Nat → Nat → Int32 → Int32 → Int32 → Int64 → Int64 → Int32 → Hp → Option (Int64 × Hp)} (hk9 : ∀ {a0 : Nat} {a1 : Nat} {x2 : Int32} {x3 : Int32} {x4 : Int32} {x5 : Int64} {x7 : Int64} {x9 : Int32} (k0 : kd a0 = 2) (k1 : kd a1 = 3) {h : Hp}, k9 a0 a1 x2 x3 x4 x5 x7 x9 h = some o → J l D ad cA (fun _ => True) (rmd (d + 1)) (0, 0) (mQ D ad cA (some (.long o.1)) o.2) cX2_boundBetween RX2 28 (some .long) 9 [(0, .ref (ad a0)), (1, .ref (ad a1)), (2, .int x2), (3, .int x3), (4, .int x4), (5, .long x5), (7, .long x7), (9, .int x9)] [] h) {a0 : Nat} {a1 : Nat} {x2 : Int32} {x3 : Int32} {x4 : Int32} {x5 : Int64} {x7 : Int64} {x9 : Int32} (k0 : kd a0 = 2) (k1 : kd a1 = 3) {h : Hp} (hf : f_X2_boundBetween_265 k9 a0 a1 x2 x3 x4 x5 x7 x9 h = some o) : J l D ad cA (fun _ => True) (rmd (d + 1)) (0, 0) (mQ D ad cA (some (.long o.1)) o.2) cX2_boundBetween RX2 28 (some .long) 265 [(0, .ref (ad a0)), (1, .ref (ad a1)), (2, .int x2), (3, .int x3), (4, .int x4), (5, .long x5), (7, .long x7), (9, .int x9)] [] h := by
  unfold f_X2_boundBetween_265 at hf
  refine j_iinc (pc := 265) 7 (c := 1) (lv' := fun v17 => [(9, .int v17), (0, .ref (ad a0)), (1, .ref (ad a1)), (2, .int x2), (3, .int x3), (4, .int x4), (5, .long x5), (7, .long x7)]) dX2_boundBetween_265 rfl (by decide) (by decide) (fun _ => rfl) hf (fun v17 hf => ?_)
  refine j_goto (pc := 268) (tgt := 9) dX2_boundBetween_268 (by decide) ?_
  refine j_sub [1, 2, 3, 4, 5, 6, 7, 0] rfl ?_
  exact hk9 k0 k1 hf
def f_X2_boundBetween_257 (k9 : Nat → Nat → Int32 → Int32 → Int32 → Int64 → Int64 → Int32 → Hp → Option (Int64 × Hp)) (a0 : Nat) (a1 : Nat) (x2 : Int32) (x3 : Int32) (x4 : Int32) (x9 : Int32) (x20 : Int64) (x22 : Int64) (h : Hp) : Option (Int64 × Hp) := f_X2_boundBetween_265 k9 a0 a1 x2 x3 x4 x20 x22 x9 h
set_option maxHeartbeats 4000000 in
set_option maxRecDepth 100000 in
theorem t_X2_boundBetween_257 {l : Launch} {D : va_G} {ad : Nat → Nat} {cA : Nat → ClassId} {d : Nat} (hdp : 1 ≤ d) {o : Int64 × Hp} {k9 : Nat → Nat → Int32 → Int32 → Int32 → Int64 → Int64 → Int32 → Hp → Option (Int64 × Hp)} (hk9 : ∀ {a0 : Nat} {a1 : Nat} {x2 : Int32} {x3 : Int32} {x4 : Int32} {x5 : Int64} {x7 : Int64} {x9 : Int32} (k0 : kd a0 = 2) (k1 : kd a1 = 3) {h : Hp}, k9 a0 a1 x2 x3 x4 x5 x7 x9 h = some o → J l D ad cA (fun _ => True) (rmd (d + 1)) (0, 0) (mQ D ad cA (some (.long o.1)) o.2) cX2_boundBetween RX2 28 (some .long) 9 [(0, .ref (ad a0)), (1, .ref (ad a1)), (2, .int x2), (3, .int x3), (4, .int x4), (5, .long x5), (7, .long x7), (9, .int x9)] [] h) {a0 : Nat} {a1 : Nat} {x2 : Int32} {x3 : Int32} {x4 : Int32} {x9 : Int32} {x20 : Int64} {x22 : Int64} (k0 : kd a0 = 2) (k1 : kd a1 = 3) {h : Hp} (hf : f_X2_boundBetween_257 k9 a0 a1 x2 x3 x4 x9 x20 x22 h = some o) : J l D ad cA (fun _ => True) (rmd (d + 1)) (0, 0) (mQ D ad cA (some (.long o.1)) o.2) cX2_boundBetween RX2 28 (some .long) 257 [(0, .ref (ad a0)), (1, .ref (ad a1)), (2, .int x2), (3, .int x3), (4, .int x4), (9, .int x9), (20, .long x20), (22, .long x22)] [] h := by
  unfold f_X2_boundBetween_257 at hf
  refine j_lload (pc := 257) 6 dX2_boundBetween_257 rfl ?_
  refine j_lstore (pc := 259) (lv' := [(5, .long x20), (0, .ref (ad a0)), (1, .ref (ad a1)), (2, .int x2), (3, .int x3), (4, .int x4), (9, .int x9), (20, .long x20), (22, .long x22)]) dX2_boundBetween_259 (by decide) rfl ?_
  refine j_lload (pc := 261) 8 dX2_boundBetween_261 rfl ?_
  refine j_lstore (pc := 263) (lv' := [(7, .long x22), (5, .long x20), (0, .ref (ad a0)), (1, .ref (ad a1)), (2, .int x2), (3, .int x3), (4, .int x4), (9, .int x9), (20, .long x20), (22, .long x22)]) dX2_boundBetween_263 (by decide) rfl ?_
  refine j_sub [2, 3, 4, 5, 6, 1, 0, 7] rfl ?_
  exact t_X2_boundBetween_265 hdp hk9 k0 k1 hf
def f_X2_boundBetween_9 (k9 : Nat → Nat → Int32 → Int32 → Int32 → Int64 → Int64 → Int32 → Hp → Option (Int64 × Hp)) (a0 : Nat) (a1 : Nat) (x2 : Int32) (x3 : Int32) (x4 : Int32) (x5 : Int64) (x7 : Int64) (x9 : Int32) (h : Hp) : Option (Int64 × Hp) := if 6 ≤ x9 then ((f_X8_lowest x5 x7 x4 h).bind (fun q1 => some (q1.1, q1.2))) else ((f_X8_cellOf x2 x9 h).bind (fun q2 => (f_X8_cellOf x3 x9 q2.2).bind (fun q3 => (f_X8_holds (q3.2.1 (a0 + 11) 2) x9 q3.2).bind (fun q4 => if q4.1 = 0 then (f_X2_boundBetween_265 k9 a0 a1 x2 x3 x4 x5 x7 x9 q4.2) else (if ix q3.1 24 = true then (if (q4.2.1 (a0 + 1) (Int32.toNatClampNeg q3.1)) = 0 then (f_X2_boundBetween_265 k9 a0 a1 x2 x3 x4 x5 x7 x9 q4.2) else (if ix q2.1 24 = true then ((f_X3_markAbove a1 (q4.2.1 a1 5) ((q4.2.1 (a0 + 1) (Int32.toNatClampNeg q2.1)) + 1) q4.2).bind (fun q5 => if ix q3.1 24 = true then ((f_X3_markAbove a1 (q5.2.1 a1 5) (q5.2.1 (a0 + 1) (Int32.toNatClampNeg q3.1)) q5.2).bind (fun q6 => if (lg_cmp q5.1 0) = 0 then (some ((-9223372036854775808), q6.2)) else (if (lg_cmp q6.1 0) = 0 then (some ((-9223372036854775808), q6.2)) else (if ix q3.1 24 = true then (if (q6.2.1 (a1 + 1) (Int32.toNatClampNeg q3.1)) = 0 then (some ((-9223372036854775808), q6.2)) else (if ix q2.1 24 = true then ((f_X3_planMarkBelow a1 q6.2).bind (fun q7 => (f_X8_product (Int32.toInt64 (q6.2.1 (a1 + 1) (Int32.toNatClampNeg q2.1))) q7.1 q7.2).bind (fun q8 => (f_X8_product q8.1 q6.1 q8.2).bind (fun q9 => if ix q3.1 24 = true then ((f_X3_planMarkBelow a1 q9.2).bind (fun q10 => (f_X8_product (Int32.toInt64 (q9.2.1 (a1 + 1) (Int32.toNatClampNeg q3.1))) q10.1 q10.2).bind (fun q11 => (f_X8_product q11.1 q5.1 q11.2).bind (fun q12 => if (lg_cmp q9.1 0) < 0 then (some ((-9223372036854775808), q12.2)) else (if 0 ≤ (lg_cmp q12.1 0) then ((f_X8_lowest q9.1 q12.1 0 q12.2).bind (fun q13 => (f_X8_lowest q9.1 q12.1 1 q13.2).bind (fun q14 => (f_X8_product q13.1 x7 q14.2).bind (fun q15 => (f_X8_product x5 q14.1 q15.2).bind (fun q16 => if (lg_cmp q15.1 0) < 0 then (some ((-9223372036854775808), q16.2)) else (if 0 ≤ (lg_cmp q16.1 0) then (if (lg_cmp x7 0) = 0 then (f_X2_boundBetween_257 k9 a0 a1 x2 x3 x4 x9 q13.1 q14.1 q16.2) else (if (lg_cmp q15.1 q16.1) ≤ 0 then (f_X2_boundBetween_265 k9 a0 a1 x2 x3 x4 x5 x7 x9 q16.2) else (f_X2_boundBetween_257 k9 a0 a1 x2 x3 x4 x9 q13.1 q14.1 q16.2))) else (some ((-9223372036854775808), q16.2)))))))) else (some ((-9223372036854775808), q12.2))))))) else none)))) else none)) else none)))) else none)) else none)) else none)))))
set_option maxHeartbeats 4000000 in
set_option maxRecDepth 100000 in
theorem t_X2_boundBetween_9 {l : Launch} {D : va_G} {ad : Nat → Nat} {cA : Nat → ClassId} {d : Nat} (hdp : 1 ≤ d) {o : Int64 × Hp}  : ∀ (n : Nat) {a0 : Nat} {a1 : Nat} {x2 : Int32} {x3 : Int32} {x4 : Int32} {x5 : Int64} {x7 : Int64} {x9 : Int32} (k0 : kd a0 = 2) (k1 : kd a1 = 3) {h : Hp}, lp (F := Nat → Nat → Int32 → Int32 → Int32 → Int64 → Int64 → Int32 → Hp → Option (Int64 × Hp)) (fun _ _ _ _ _ _ _ _ _ => none) (f_X2_boundBetween_9) n a0 a1 x2 x3 x4 x5 x7 x9 h = some o → J l D ad cA (fun _ => True) (rmd (d + 1)) (0, 0) (mQ D ad cA (some (.long o.1)) o.2) cX2_boundBetween RX2 28 (some .long) 9 [(0, .ref (ad a0)), (1, .ref (ad a1)), (2, .int x2), (3, .int x3), (4, .int x4), (5, .long x5), (7, .long x7), (9, .int x9)] [] h := by
  intro n
  induction n with
  | zero =>
    intro a0 a1 x2 x3 x4 x5 x7 x9 k0 k1 h hf
    have hf : (none : Option (Int64 × Hp)) = some o := hf
    cases hf
  | succ n hk9 =>
    intro a0 a1 x2 x3 x4 x5 x7 x9 k0 k1 h hf
    have hf : f_X2_boundBetween_9  (lp (F := Nat → Nat → Int32 → Int32 → Int32 → Int64 → Int64 → Int32 → Hp → Option (Int64 × Hp)) (fun _ _ _ _ _ _ _ _ _ => none) (f_X2_boundBetween_9) n) a0 a1 x2 x3 x4 x5 x7 x9 h = some o := hf
    unfold f_X2_boundBetween_9 at hf
    refine j_iload (pc := 9) 7 dX2_boundBetween_9 rfl ?_
    refine j_bipush (pc := 11) dX2_boundBetween_11 (v := 6) (by decide) ?_
    refine j_icmp_ge (pc := 13) (tgt := 271) dX2_boundBetween_13 (by decide) hf (fun _ hf => ?_) (fun _ hf => ?_)
    · refine j_lload (pc := 271) 5 dX2_boundBetween_271 rfl ?_
      refine j_lload (pc := 273) 6 dX2_boundBetween_273 rfl ?_
      refine j_iload (pc := 275) 4 dX2_boundBetween_275 rfl ?_
      refine j_callNl (pc := 277) (d := d) (As := [.long x5, .long x7, .int x4]) (st := []) dX2_boundBetween_277 s747 rfl rfl (by decide) (Nat.le_of_ble_eq_true rfl) (fun q hq => t_X8_lowest (by omega)  hq) hf (fun q1 hf => ?_)
      exact j_lret (pc := 280) dX2_boundBetween_280 rfl hf
    · refine j_iload_n (pc := 16) 2 dX2_boundBetween_16 rfl rfl ?_
      refine j_iload (pc := 17) 7 dX2_boundBetween_17 rfl ?_
      refine j_callNi (pc := 19) (d := d) (As := [.int x2, .int x9]) (st := []) dX2_boundBetween_19 s685 rfl rfl (by decide) (Nat.le_of_ble_eq_true rfl) (fun q hq => t_X8_cellOf  hq) hf (fun q2 hf => ?_)
      refine j_istore (pc := 22) (lv' := [(10, .int q2.1), (0, .ref (ad a0)), (1, .ref (ad a1)), (2, .int x2), (3, .int x3), (4, .int x4), (5, .long x5), (7, .long x7), (9, .int x9)]) dX2_boundBetween_22 (by decide) rfl ?_
      refine j_iload_n (pc := 24) 4 dX2_boundBetween_24 rfl rfl ?_
      refine j_iload (pc := 25) 8 dX2_boundBetween_25 rfl ?_
      refine j_callNi (pc := 27) (d := d) (As := [.int x3, .int x9]) (st := []) dX2_boundBetween_27 s685 rfl rfl (by decide) (Nat.le_of_ble_eq_true rfl) (fun q hq => t_X8_cellOf  hq) hf (fun q3 hf => ?_)
      refine j_istore (pc := 30) (lv' := [(11, .int q3.1), (10, .int q2.1), (0, .ref (ad a0)), (1, .ref (ad a1)), (2, .int x2), (3, .int x3), (4, .int x4), (5, .long x5), (7, .long x7), (9, .int x9)]) dX2_boundBetween_30 (by decide) rfl ?_
      refine j_aload_n (pc := 32) 2 dX2_boundBetween_32 rfl rfl ?_
      refine j_getR (pc := 33) (n := 11) dX2_boundBetween_33 fl267 k0 (by decide) rfl ?_
      refine j_getI (pc := 36) dX2_boundBetween_36 fl199 (lk_2_2 k0) (by decide) rfl ?_
      refine j_iload (pc := 39) 9 dX2_boundBetween_39 rfl ?_
      refine j_callNi (pc := 41) (d := d) (As := [.int (q3.2.1 (a0 + 11) 2), .int x9]) (st := []) dX2_boundBetween_41 s742 rfl rfl (by decide) (Nat.le_of_ble_eq_true rfl) (fun q hq => t_X8_holds  hq) hf (fun q4 hf => ?_)
      refine j_if_eq (pc := 44) (tgt := 265) dX2_boundBetween_44 (by decide) hf (fun _ hf => ?_) (fun _ hf => ?_)
      · refine j_sub [2, 3, 4, 5, 6, 7, 8, 9] rfl ?_
        exact t_X2_boundBetween_265 hdp hk9 k0 k1 hf
      · refine j_aload_n (pc := 47) 2 dX2_boundBetween_47 rfl rfl ?_
        refine j_getR (pc := 48) (n := 1) dX2_boundBetween_48 fl263 k0 (by decide) rfl ?_
        refine j_iload (pc := 51) 0 dX2_boundBetween_51 rfl ?_
        refine j_iaload (pc := 53) dX2_boundBetween_53 (lk_2_0 k0) (ll_2_0 k0) hf (fun _ hf => ?_)
        refine j_if_ne (pc := 54) (tgt := 60) dX2_boundBetween_54 (by decide) hf (fun _ hf => ?_) (fun _ hf => ?_)
        · refine j_aload_n (pc := 60) 3 dX2_boundBetween_60 rfl rfl ?_
          refine j_aload_n (pc := 61) 3 dX2_boundBetween_61 rfl rfl ?_
          refine j_getI (pc := 62) dX2_boundBetween_62 fl115 k1 (by decide) rfl ?_
          refine j_aload_n (pc := 65) 2 dX2_boundBetween_65 rfl rfl ?_
          refine j_getR (pc := 66) (n := 1) dX2_boundBetween_66 fl263 k0 (by decide) rfl ?_
          refine j_iload (pc := 69) 1 dX2_boundBetween_69 rfl ?_
          refine j_iaload (pc := 71) dX2_boundBetween_71 (lk_2_0 k0) (ll_2_0 k0) hf (fun _ hf => ?_)
          refine j_iconst (pc := 72) dX2_boundBetween_72 (v := 1) (by decide) ?_
          refine j_iadd (pc := 73) dX2_boundBetween_73  ?_
          refine j_callVl (pc := 74) (d := d) (As := [.int (q4.2.1 a1 5), .int ((q4.2.1 (a0 + 1) (Int32.toNatClampNeg q2.1)) + 1)]) (st := []) dX2_boundBetween_74 s743 k1 (by decide) rfl rfl (by decide) (Nat.le_of_ble_eq_true rfl) (fun q hq => t_X3_markAbove k1 hq) hf (fun q5 hf => ?_)
          refine j_lstore (pc := 77) (lv' := [(12, .long q5.1), (11, .int q3.1), (10, .int q2.1), (0, .ref (ad a0)), (1, .ref (ad a1)), (2, .int x2), (3, .int x3), (4, .int x4), (5, .long x5), (7, .long x7), (9, .int x9)]) dX2_boundBetween_77 (by decide) rfl ?_
          refine j_aload_n (pc := 79) 4 dX2_boundBetween_79 rfl rfl ?_
          refine j_aload_n (pc := 80) 4 dX2_boundBetween_80 rfl rfl ?_
          refine j_getI (pc := 81) dX2_boundBetween_81 fl115 k1 (by decide) rfl ?_
          refine j_aload_n (pc := 84) 3 dX2_boundBetween_84 rfl rfl ?_
          refine j_getR (pc := 85) (n := 1) dX2_boundBetween_85 fl263 k0 (by decide) rfl ?_
          refine j_iload (pc := 88) 1 dX2_boundBetween_88 rfl ?_
          refine j_iaload (pc := 90) dX2_boundBetween_90 (lk_2_0 k0) (ll_2_0 k0) hf (fun _ hf => ?_)
          refine j_callVl (pc := 91) (d := d) (As := [.int (q5.2.1 a1 5), .int (q5.2.1 (a0 + 1) (Int32.toNatClampNeg q3.1))]) (st := []) dX2_boundBetween_91 s743 k1 (by decide) rfl rfl (by decide) (Nat.le_of_ble_eq_true rfl) (fun q hq => t_X3_markAbove k1 hq) hf (fun q6 hf => ?_)
          refine j_lstore (pc := 94) (lv' := [(14, .long q6.1), (12, .long q5.1), (11, .int q3.1), (10, .int q2.1), (0, .ref (ad a0)), (1, .ref (ad a1)), (2, .int x2), (3, .int x3), (4, .int x4), (5, .long x5), (7, .long x7), (9, .int x9)]) dX2_boundBetween_94 (by decide) rfl ?_
          refine j_lload (pc := 96) 1 dX2_boundBetween_96 rfl ?_
          refine j_lconst (pc := 98) dX2_boundBetween_98 (v := 0) rfl ?_
          refine j_lcmp (pc := 99) dX2_boundBetween_99  ?_
          refine j_if_eq (pc := 100) (tgt := 120) dX2_boundBetween_100 (by decide) hf (fun _ hf => ?_) (fun _ hf => ?_)
          · refine j_ldc2_w (pc := 120) dX2_boundBetween_120 (v := -9223372036854775808) w_c744 ?_
            exact j_lret (pc := 123) dX2_boundBetween_123 rfl hf
          · refine j_lload (pc := 103) 0 dX2_boundBetween_103 rfl ?_
            refine j_lconst (pc := 105) dX2_boundBetween_105 (v := 0) rfl ?_
            refine j_lcmp (pc := 106) dX2_boundBetween_106  ?_
            refine j_if_eq (pc := 107) (tgt := 120) dX2_boundBetween_107 (by decide) hf (fun _ hf => ?_) (fun _ hf => ?_)
            · refine j_ldc2_w (pc := 120) dX2_boundBetween_120 (v := -9223372036854775808) w_c744 ?_
              exact j_lret (pc := 123) dX2_boundBetween_123 rfl hf
            · refine j_aload_n (pc := 110) 5 dX2_boundBetween_110 rfl rfl ?_
              refine j_getR (pc := 111) (n := 1) dX2_boundBetween_111 fl102 k1 (by decide) rfl ?_
              refine j_iload (pc := 114) 2 dX2_boundBetween_114 rfl ?_
              refine j_iaload (pc := 116) dX2_boundBetween_116 (lk_3_0 k1) (ll_3_0 k1) hf (fun _ hf => ?_)
              refine j_if_ne (pc := 117) (tgt := 124) dX2_boundBetween_117 (by decide) hf (fun _ hf => ?_) (fun _ hf => ?_)
              · refine j_aload_n (pc := 124) 5 dX2_boundBetween_124 rfl rfl ?_
                refine j_getR (pc := 125) (n := 1) dX2_boundBetween_125 fl102 k1 (by decide) rfl ?_
                refine j_iload (pc := 128) 3 dX2_boundBetween_128 rfl ?_
                refine j_iaload (pc := 130) dX2_boundBetween_130 (lk_3_0 k1) (ll_3_0 k1) hf (fun _ hf => ?_)
                refine j_i2l (pc := 131) dX2_boundBetween_131  ?_
                refine j_aload_n (pc := 132) 5 dX2_boundBetween_132 rfl rfl ?_
                refine j_callVl (pc := 133) (d := d) (As := []) (st := [.long (Int32.toInt64 (q6.2.1 (a1 + 1) (Int32.toNatClampNeg q2.1)))]) dX2_boundBetween_133 s745 k1 (by decide) rfl rfl (by decide) (Nat.le_of_ble_eq_true rfl) (fun q hq => t_X3_planMarkBelow (by omega) k1 hq) hf (fun q7 hf => ?_)
                refine j_callNl (pc := 136) (d := d) (As := [.long (Int32.toInt64 (q6.2.1 (a1 + 1) (Int32.toNatClampNeg q2.1))), .long q7.1]) (st := []) dX2_boundBetween_136 s746 rfl rfl (by decide) (Nat.le_of_ble_eq_true rfl) (fun q hq => t_X8_product  hq) hf (fun q8 hf => ?_)
                refine j_lload (pc := 139) 0 dX2_boundBetween_139 rfl ?_
                refine j_callNl (pc := 141) (d := d) (As := [.long q8.1, .long q6.1]) (st := []) dX2_boundBetween_141 s746 rfl rfl (by decide) (Nat.le_of_ble_eq_true rfl) (fun q hq => t_X8_product  hq) hf (fun q9 hf => ?_)
                refine j_lstore (pc := 144) (lv' := [(16, .long q9.1), (14, .long q6.1), (12, .long q5.1), (11, .int q3.1), (10, .int q2.1), (0, .ref (ad a0)), (1, .ref (ad a1)), (2, .int x2), (3, .int x3), (4, .int x4), (5, .long x5), (7, .long x7), (9, .int x9)]) dX2_boundBetween_144 (by decide) rfl ?_
                refine j_aload_n (pc := 146) 6 dX2_boundBetween_146 rfl rfl ?_
                refine j_getR (pc := 147) (n := 1) dX2_boundBetween_147 fl102 k1 (by decide) rfl ?_
                refine j_iload (pc := 150) 3 dX2_boundBetween_150 rfl ?_
                refine j_iaload (pc := 152) dX2_boundBetween_152 (lk_3_0 k1) (ll_3_0 k1) hf (fun _ hf => ?_)
                refine j_i2l (pc := 153) dX2_boundBetween_153  ?_
                refine j_aload_n (pc := 154) 6 dX2_boundBetween_154 rfl rfl ?_
                refine j_callVl (pc := 155) (d := d) (As := []) (st := [.long (Int32.toInt64 (q9.2.1 (a1 + 1) (Int32.toNatClampNeg q3.1)))]) dX2_boundBetween_155 s745 k1 (by decide) rfl rfl (by decide) (Nat.le_of_ble_eq_true rfl) (fun q hq => t_X3_planMarkBelow (by omega) k1 hq) hf (fun q10 hf => ?_)
                refine j_callNl (pc := 158) (d := d) (As := [.long (Int32.toInt64 (q9.2.1 (a1 + 1) (Int32.toNatClampNeg q3.1))), .long q10.1]) (st := []) dX2_boundBetween_158 s746 rfl rfl (by decide) (Nat.le_of_ble_eq_true rfl) (fun q hq => t_X8_product  hq) hf (fun q11 hf => ?_)
                refine j_lload (pc := 161) 2 dX2_boundBetween_161 rfl ?_
                refine j_callNl (pc := 163) (d := d) (As := [.long q11.1, .long q5.1]) (st := []) dX2_boundBetween_163 s746 rfl rfl (by decide) (Nat.le_of_ble_eq_true rfl) (fun q hq => t_X8_product  hq) hf (fun q12 hf => ?_)
                refine j_lstore (pc := 166) (lv' := [(18, .long q12.1), (16, .long q9.1), (14, .long q6.1), (12, .long q5.1), (11, .int q3.1), (10, .int q2.1), (0, .ref (ad a0)), (1, .ref (ad a1)), (2, .int x2), (3, .int x3), (4, .int x4), (5, .long x5), (7, .long x7), (9, .int x9)]) dX2_boundBetween_166 (by decide) rfl ?_
                refine j_lload (pc := 168) 1 dX2_boundBetween_168 rfl ?_
                refine j_lconst (pc := 170) dX2_boundBetween_170 (v := 0) rfl ?_
                refine j_lcmp (pc := 171) dX2_boundBetween_171  ?_
                refine j_if_lt (pc := 172) (tgt := 182) dX2_boundBetween_172 (by decide) hf (fun _ hf => ?_) (fun _ hf => ?_)
                · refine j_ldc2_w (pc := 182) dX2_boundBetween_182 (v := -9223372036854775808) w_c744 ?_
                  exact j_lret (pc := 185) dX2_boundBetween_185 rfl hf
                · refine j_lload (pc := 175) 0 dX2_boundBetween_175 rfl ?_
                  refine j_lconst (pc := 177) dX2_boundBetween_177 (v := 0) rfl ?_
                  refine j_lcmp (pc := 178) dX2_boundBetween_178  ?_
                  refine j_if_ge (pc := 179) (tgt := 186) dX2_boundBetween_179 (by decide) hf (fun _ hf => ?_) (fun _ hf => ?_)
                  · refine j_lload (pc := 186) 1 dX2_boundBetween_186 rfl ?_
                    refine j_lload (pc := 188) 0 dX2_boundBetween_188 rfl ?_
                    refine j_iconst (pc := 190) dX2_boundBetween_190 (v := 0) (by decide) ?_
                    refine j_callNl (pc := 191) (d := d) (As := [.long q9.1, .long q12.1, .int 0]) (st := []) dX2_boundBetween_191 s747 rfl rfl (by decide) (Nat.le_of_ble_eq_true rfl) (fun q hq => t_X8_lowest (by omega)  hq) hf (fun q13 hf => ?_)
                    refine j_lstore (pc := 194) (lv' := [(20, .long q13.1), (18, .long q12.1), (16, .long q9.1), (14, .long q6.1), (12, .long q5.1), (11, .int q3.1), (10, .int q2.1), (0, .ref (ad a0)), (1, .ref (ad a1)), (2, .int x2), (3, .int x3), (4, .int x4), (5, .long x5), (7, .long x7), (9, .int x9)]) dX2_boundBetween_194 (by decide) rfl ?_
                    refine j_lload (pc := 196) 2 dX2_boundBetween_196 rfl ?_
                    refine j_lload (pc := 198) 1 dX2_boundBetween_198 rfl ?_
                    refine j_iconst (pc := 200) dX2_boundBetween_200 (v := 1) (by decide) ?_
                    refine j_callNl (pc := 201) (d := d) (As := [.long q9.1, .long q12.1, .int 1]) (st := []) dX2_boundBetween_201 s747 rfl rfl (by decide) (Nat.le_of_ble_eq_true rfl) (fun q hq => t_X8_lowest (by omega)  hq) hf (fun q14 hf => ?_)
                    refine j_lstore (pc := 204) (lv' := [(22, .long q14.1), (20, .long q13.1), (18, .long q12.1), (16, .long q9.1), (14, .long q6.1), (12, .long q5.1), (11, .int q3.1), (10, .int q2.1), (0, .ref (ad a0)), (1, .ref (ad a1)), (2, .int x2), (3, .int x3), (4, .int x4), (5, .long x5), (7, .long x7), (9, .int x9)]) dX2_boundBetween_204 (by decide) rfl ?_
                    refine j_lload (pc := 206) 1 dX2_boundBetween_206 rfl ?_
                    refine j_lload (pc := 208) 14 dX2_boundBetween_208 rfl ?_
                    refine j_callNl (pc := 210) (d := d) (As := [.long q13.1, .long x7]) (st := []) dX2_boundBetween_210 s746 rfl rfl (by decide) (Nat.le_of_ble_eq_true rfl) (fun q hq => t_X8_product  hq) hf (fun q15 hf => ?_)
                    refine j_lstore (pc := 213) (lv' := [(24, .long q15.1), (22, .long q14.1), (20, .long q13.1), (18, .long q12.1), (16, .long q9.1), (14, .long q6.1), (12, .long q5.1), (11, .int q3.1), (10, .int q2.1), (0, .ref (ad a0)), (1, .ref (ad a1)), (2, .int x2), (3, .int x3), (4, .int x4), (5, .long x5), (7, .long x7), (9, .int x9)]) dX2_boundBetween_213 (by decide) rfl ?_
                    refine j_lload (pc := 215) 14 dX2_boundBetween_215 rfl ?_
                    refine j_lload (pc := 217) 1 dX2_boundBetween_217 rfl ?_
                    refine j_callNl (pc := 219) (d := d) (As := [.long x5, .long q14.1]) (st := []) dX2_boundBetween_219 s746 rfl rfl (by decide) (Nat.le_of_ble_eq_true rfl) (fun q hq => t_X8_product  hq) hf (fun q16 hf => ?_)
                    refine j_lstore (pc := 222) (lv' := [(26, .long q16.1), (24, .long q15.1), (22, .long q14.1), (20, .long q13.1), (18, .long q12.1), (16, .long q9.1), (14, .long q6.1), (12, .long q5.1), (11, .int q3.1), (10, .int q2.1), (0, .ref (ad a0)), (1, .ref (ad a1)), (2, .int x2), (3, .int x3), (4, .int x4), (5, .long x5), (7, .long x7), (9, .int x9)]) dX2_boundBetween_222 (by decide) rfl ?_
                    refine j_lload (pc := 224) 1 dX2_boundBetween_224 rfl ?_
                    refine j_lconst (pc := 226) dX2_boundBetween_226 (v := 0) rfl ?_
                    refine j_lcmp (pc := 227) dX2_boundBetween_227  ?_
                    refine j_if_lt (pc := 228) (tgt := 238) dX2_boundBetween_228 (by decide) hf (fun _ hf => ?_) (fun _ hf => ?_)
                    · refine j_ldc2_w (pc := 238) dX2_boundBetween_238 (v := -9223372036854775808) w_c744 ?_
                      exact j_lret (pc := 241) dX2_boundBetween_241 rfl hf
                    · refine j_lload (pc := 231) 0 dX2_boundBetween_231 rfl ?_
                      refine j_lconst (pc := 233) dX2_boundBetween_233 (v := 0) rfl ?_
                      refine j_lcmp (pc := 234) dX2_boundBetween_234  ?_
                      refine j_if_ge (pc := 235) (tgt := 242) dX2_boundBetween_235 (by decide) hf (fun _ hf => ?_) (fun _ hf => ?_)
                      · refine j_lload (pc := 242) 16 dX2_boundBetween_242 rfl ?_
                        refine j_lconst (pc := 244) dX2_boundBetween_244 (v := 0) rfl ?_
                        refine j_lcmp (pc := 245) dX2_boundBetween_245  ?_
                        refine j_if_eq (pc := 246) (tgt := 257) dX2_boundBetween_246 (by decide) hf (fun _ hf => ?_) (fun _ hf => ?_)
                        · refine j_sub [10, 11, 12, 13, 14, 17, 3, 2] rfl ?_
                          exact t_X2_boundBetween_257 hdp hk9 k0 k1 hf
                        · refine j_lload (pc := 249) 1 dX2_boundBetween_249 rfl ?_
                          refine j_lload (pc := 251) 0 dX2_boundBetween_251 rfl ?_
                          refine j_lcmp (pc := 253) dX2_boundBetween_253  ?_
                          refine j_if_le (pc := 254) (tgt := 265) dX2_boundBetween_254 (by decide) hf (fun _ hf => ?_) (fun _ hf => ?_)
                          · refine j_sub [10, 11, 12, 13, 14, 15, 16, 17] rfl ?_
                            exact t_X2_boundBetween_265 hdp hk9 k0 k1 hf
                          · refine j_sub [10, 11, 12, 13, 14, 17, 3, 2] rfl ?_
                            exact t_X2_boundBetween_257 hdp hk9 k0 k1 hf
                      · refine j_ldc2_w (pc := 238) dX2_boundBetween_238 (v := -9223372036854775808) w_c744 ?_
                        exact j_lret (pc := 241) dX2_boundBetween_241 rfl hf
                  · refine j_ldc2_w (pc := 182) dX2_boundBetween_182 (v := -9223372036854775808) w_c744 ?_
                    exact j_lret (pc := 185) dX2_boundBetween_185 rfl hf
              · refine j_ldc2_w (pc := 120) dX2_boundBetween_120 (v := -9223372036854775808) w_c744 ?_
                exact j_lret (pc := 123) dX2_boundBetween_123 rfl hf
        · refine j_goto (pc := 57) (tgt := 265) dX2_boundBetween_57 (by decide) ?_
          refine j_sub [2, 3, 4, 5, 6, 7, 8, 9] rfl ?_
          exact t_X2_boundBetween_265 hdp hk9 k0 k1 hf
def f_X2_boundBetween (a0 : Nat) (a1 : Nat) (x2 : Int32) (x3 : Int32) (x4 : Int32) (h : Hp) : Option (Int64 × Hp) := lp (F := Nat → Nat → Int32 → Int32 → Int32 → Int64 → Int64 → Int32 → Hp → Option (Int64 × Hp)) (fun _ _ _ _ _ _ _ _ _ => none) (f_X2_boundBetween_9) 1000 a0 a1 x2 x3 x4 0 0 0 h
set_option maxHeartbeats 4000000 in
set_option maxRecDepth 100000 in
theorem t_X2_boundBetween {l : Launch} {D : va_G} {ad : Nat → Nat} {cA : Nat → ClassId} {d : Nat} (hdp : 2 ≤ d) {a0 : Nat} {a1 : Nat} {x2 : Int32} {x3 : Int32} {x4 : Int32} (k0 : kd a0 = 2) (k1 : kd a1 = 3) {h : Hp} {o : Int64 × Hp} (hf : f_X2_boundBetween a0 a1 x2 x3 x4 h = some o) : Cr l D ad cA d yX2_boundBetween cX2_boundBetween 28 (some .long) [.ref (ad a0), .ref (ad a1), .int x2, .int x3, .int x4] h (some (.long o.1)) o.2 := by
  obtain ⟨d, rfl⟩ : ∃ e, d = e + 1 := ⟨d - 1, by omega⟩
  have hdp : 1 ≤ d := by omega
  unfold f_X2_boundBetween at hf
  refine Cr_of (by decide +kernel) rfl (Nat.le_of_ble_eq_true rfl) (lv0 := [(0, .ref (ad a0)), (1, .ref (ad a1)), (2, .int x2), (3, .int x3), (4, .int x4)]) rfl ?_
  refine j_lconst (pc := 0) dX2_boundBetween_0 (v := 0) rfl ?_
  refine j_lstore (pc := 1) (lv' := [(5, .long 0), (0, .ref (ad a0)), (1, .ref (ad a1)), (2, .int x2), (3, .int x3), (4, .int x4)]) dX2_boundBetween_1 (by decide) rfl ?_
  refine j_lconst (pc := 3) dX2_boundBetween_3 (v := 0) rfl ?_
  refine j_lstore (pc := 4) (lv' := [(7, .long 0), (5, .long 0), (0, .ref (ad a0)), (1, .ref (ad a1)), (2, .int x2), (3, .int x3), (4, .int x4)]) dX2_boundBetween_4 (by decide) rfl ?_
  refine j_iconst (pc := 6) dX2_boundBetween_6 (v := 0) (by decide) ?_
  refine j_istore (pc := 7) (lv' := [(9, .int 0), (7, .long 0), (5, .long 0), (0, .ref (ad a0)), (1, .ref (ad a1)), (2, .int x2), (3, .int x3), (4, .int x4)]) dX2_boundBetween_7 (by decide) rfl ?_
  refine j_sub [3, 4, 5, 6, 7, 2, 1, 0] rfl ?_
  exact t_X2_boundBetween_9 hdp  1000 k0 k1 hf
def f_X3_inBits_58 (k17 : Nat → Int64 → Int32 → Int32 → Hp → Option (Int32 × Hp)) (a0 : Nat) (x1 : Int64) (x3 : Int32) (x4 : Int32) (h : Hp) : Option (Int32 × Hp) := lt (x4 + 1) (fun v6 => k17 a0 x1 x3 v6 h)
set_option maxHeartbeats 4000000 in
set_option maxRecDepth 100000 in
theorem t_X3_inBits_58 {l : Launch} {D : va_G} {ad : Nat → Nat} {cA : Nat → ClassId} {d : Nat} (hdp : 1 ≤ d) {o : Int32 × Hp} {k17 : Nat → Int64 → Int32 → Int32 → Hp → Option (Int32 × Hp)} (hk17 : ∀ {a0 : Nat} {x1 : Int64} {x3 : Int32} {x4 : Int32} (k0 : kd a0 = 3) {h : Hp}, k17 a0 x1 x3 x4 h = some o → J l D ad cA (fun _ => True) (rmd (d + 1)) (0, 0) (mQ D ad cA (some (.int o.1)) o.2) cX3_inBits RX3 7 (some .int) 17 [(0, .ref (ad a0)), (1, .long x1), (3, .int x3), (4, .int x4)] [] h) {a0 : Nat} {x1 : Int64} {x3 : Int32} {x4 : Int32} (k0 : kd a0 = 3) {h : Hp} (hf : f_X3_inBits_58 k17 a0 x1 x3 x4 h = some o) : J l D ad cA (fun _ => True) (rmd (d + 1)) (0, 0) (mQ D ad cA (some (.int o.1)) o.2) cX3_inBits RX3 7 (some .int) 58 [(0, .ref (ad a0)), (1, .long x1), (3, .int x3), (4, .int x4)] [] h := by
  unfold f_X3_inBits_58 at hf
  refine j_iinc (pc := 58) 3 (c := 1) (lv' := fun v6 => [(4, .int v6), (0, .ref (ad a0)), (1, .long x1), (3, .int x3)]) dX3_inBits_58 rfl (by decide) (by decide) (fun _ => rfl) hf (fun v6 hf => ?_)
  refine j_goto (pc := 61) (tgt := 17) dX3_inBits_61 (by decide) ?_
  refine j_sub [1, 2, 3, 0] rfl ?_
  exact hk17 k0 hf
def f_X3_inBits_17 (k17 : Nat → Int64 → Int32 → Int32 → Hp → Option (Int32 × Hp)) (a0 : Nat) (x1 : Int64) (x3 : Int32) (x4 : Int32) (h : Hp) : Option (Int32 × Hp) := if 6 ≤ x4 then (some (x3, h)) else ((f_X3_totalOf a0 x4 h).bind (fun q3 => lt (Int32.toInt64 q3.1) (fun v4 => if (lg_cmp v4 0) ≤ 0 then (f_X3_inBits_58 k17 a0 x1 x3 x4 q3.2) else (if (lg_cmp (1000 * v4) x1) < 0 then (f_X3_inBits_58 k17 a0 x1 x3 x4 q3.2) else (lt (x3 ||| (1 <<< (x4 &&& 31))) (fun v5 => f_X3_inBits_58 k17 a0 x1 v5 x4 q3.2))))))
set_option maxHeartbeats 4000000 in
set_option maxRecDepth 100000 in
theorem t_X3_inBits_17 {l : Launch} {D : va_G} {ad : Nat → Nat} {cA : Nat → ClassId} {d : Nat} (hdp : 1 ≤ d) {o : Int32 × Hp}  : ∀ (n : Nat) {a0 : Nat} {x1 : Int64} {x3 : Int32} {x4 : Int32} (k0 : kd a0 = 3) {h : Hp}, lp (F := Nat → Int64 → Int32 → Int32 → Hp → Option (Int32 × Hp)) (fun _ _ _ _ _ => none) (f_X3_inBits_17) n a0 x1 x3 x4 h = some o → J l D ad cA (fun _ => True) (rmd (d + 1)) (0, 0) (mQ D ad cA (some (.int o.1)) o.2) cX3_inBits RX3 7 (some .int) 17 [(0, .ref (ad a0)), (1, .long x1), (3, .int x3), (4, .int x4)] [] h := by
  intro n
  induction n with
  | zero =>
    intro a0 x1 x3 x4 k0 h hf
    have hf : (none : Option (Int32 × Hp)) = some o := hf
    cases hf
  | succ n hk17 =>
    intro a0 x1 x3 x4 k0 h hf
    have hf : f_X3_inBits_17  (lp (F := Nat → Int64 → Int32 → Int32 → Hp → Option (Int32 × Hp)) (fun _ _ _ _ _ => none) (f_X3_inBits_17) n) a0 x1 x3 x4 h = some o := hf
    unfold f_X3_inBits_17 at hf
    refine j_iload (pc := 17) 3 dX3_inBits_17 rfl ?_
    refine j_bipush (pc := 19) dX3_inBits_19 (v := 6) (by decide) ?_
    refine j_icmp_ge (pc := 21) (tgt := 64) dX3_inBits_21 (by decide) hf (fun _ hf => ?_) (fun _ hf => ?_)
    · refine j_iload_n (pc := 64) 2 dX3_inBits_64 rfl rfl ?_
      exact j_iret (pc := 65) dX3_inBits_65 rfl hf
    · refine j_aload_n (pc := 24) 0 dX3_inBits_24 rfl rfl ?_
      refine j_iload (pc := 25) 3 dX3_inBits_25 rfl ?_
      refine j_callVi (pc := 27) (d := d) (As := [.int x4]) (st := []) dX3_inBits_27 s472 k0 (by decide) rfl rfl (by decide) (Nat.le_of_ble_eq_true rfl) (fun q hq => t_X3_totalOf (by omega) k0 hq) hf (fun q3 hf => ?_)
      refine j_i2l (pc := 30) dX3_inBits_30  ?_
      refine j_lstoreN (pc := 31) (lv' := fun v4 => [(5, .long v4), (0, .ref (ad a0)), (1, .long x1), (3, .int x3), (4, .int x4)]) dX3_inBits_31 (by decide) (fun _ => rfl) hf (fun v4 hf => ?_)
      refine j_lload (pc := 33) 0 dX3_inBits_33 rfl ?_
      refine j_lconst (pc := 35) dX3_inBits_35 (v := 0) rfl ?_
      refine j_lcmp (pc := 36) dX3_inBits_36  ?_
      refine j_if_le (pc := 37) (tgt := 58) dX3_inBits_37 (by decide) hf (fun _ hf => ?_) (fun _ hf => ?_)
      · refine j_sub [1, 2, 3, 4] rfl ?_
        exact t_X3_inBits_58 hdp hk17 k0 hf
      · refine j_ldc2_w (pc := 40) dX3_inBits_40 (v := 1000) w_c473 ?_
        refine j_lload (pc := 43) 0 dX3_inBits_43 rfl ?_
        refine j_lmul (pc := 45) dX3_inBits_45  ?_
        refine j_lload_n (pc := 46) 2 dX3_inBits_46 rfl rfl ?_
        refine j_lcmp (pc := 47) dX3_inBits_47  ?_
        refine j_if_lt (pc := 48) (tgt := 58) dX3_inBits_48 (by decide) hf (fun _ hf => ?_) (fun _ hf => ?_)
        · refine j_sub [1, 2, 3, 4] rfl ?_
          exact t_X3_inBits_58 hdp hk17 k0 hf
        · refine j_iload_n (pc := 51) 3 dX3_inBits_51 rfl rfl ?_
          refine j_iconst (pc := 52) dX3_inBits_52 (v := 1) (by decide) ?_
          refine j_iload (pc := 53) 4 dX3_inBits_53 rfl ?_
          refine j_ishl (pc := 55) dX3_inBits_55  ?_
          refine j_ior (pc := 56) dX3_inBits_56  ?_
          refine j_istore_nN (pc := 57) (lv' := fun v5 => [(3, .int v5), (5, .long v4), (0, .ref (ad a0)), (1, .long x1), (4, .int x4)]) dX3_inBits_57 rfl (by decide) (fun _ => rfl) hf (fun v5 hf => ?_)
          refine j_sub [2, 3, 0, 4] rfl ?_
          exact t_X3_inBits_58 hdp hk17 k0 hf
def f_X3_inBits (a0 : Nat) (h : Hp) : Option (Int32 × Hp) := (f_X3_sumOfAll a0 h).bind (fun q1 => lt ((Int32.toInt64 (h.1 a0 4)) * (Int32.toInt64 q1.1)) (fun v2 => lp (F := Nat → Int64 → Int32 → Int32 → Hp → Option (Int32 × Hp)) (fun _ _ _ _ _ => none) (f_X3_inBits_17) 1000 a0 v2 0 0 q1.2))
set_option maxHeartbeats 4000000 in
set_option maxRecDepth 100000 in
theorem t_X3_inBits {l : Launch} {D : va_G} {ad : Nat → Nat} {cA : Nat → ClassId} {d : Nat} (hdp : 2 ≤ d) {a0 : Nat} (k0 : kd a0 = 3) {h : Hp} {o : Int32 × Hp} (hf : f_X3_inBits a0 h = some o) : Cr l D ad cA d yX3_inBits cX3_inBits 7 (some .int) [.ref (ad a0)] h (some (.int o.1)) o.2 := by
  obtain ⟨d, rfl⟩ : ∃ e, d = e + 1 := ⟨d - 1, by omega⟩
  have hdp : 1 ≤ d := by omega
  unfold f_X3_inBits at hf
  refine Cr_of (by decide +kernel) rfl (Nat.le_of_ble_eq_true rfl) (lv0 := [(0, .ref (ad a0))]) rfl ?_
  refine j_aload_n (pc := 0) 0 dX3_inBits_0 rfl rfl ?_
  refine j_getI (pc := 1) dX3_inBits_1 fl112 k0 (by decide) rfl ?_
  refine j_i2l (pc := 4) dX3_inBits_4  ?_
  refine j_aload_n (pc := 5) 0 dX3_inBits_5 rfl rfl ?_
  refine j_callVi (pc := 6) (d := d) (As := []) (st := [.long (Int32.toInt64 (h.1 a0 4))]) dX3_inBits_6 s471 k0 (by decide) rfl rfl (by decide) (Nat.le_of_ble_eq_true rfl) (fun q hq => t_X3_sumOfAll k0 hq) hf (fun q1 hf => ?_)
  refine j_i2l (pc := 9) dX3_inBits_9  ?_
  refine j_lmul (pc := 10) dX3_inBits_10  ?_
  refine j_lstore_nN (pc := 11) (lv' := fun v2 => [(1, .long v2), (0, .ref (ad a0))]) dX3_inBits_11 rfl (by decide) (fun _ => rfl) hf (fun v2 hf => ?_)
  refine j_iconst (pc := 12) dX3_inBits_12 (v := 0) (by decide) ?_
  refine j_istore_n (pc := 13) (lv' := [(3, .int 0), (1, .long v2), (0, .ref (ad a0))]) dX3_inBits_13 rfl (by decide) rfl ?_
  refine j_iconst (pc := 14) dX3_inBits_14 (v := 0) (by decide) ?_
  refine j_istore (pc := 15) (lv' := [(4, .int 0), (3, .int 0), (1, .long v2), (0, .ref (ad a0))]) dX3_inBits_15 (by decide) rfl ?_
  refine j_sub [3, 2, 1, 0] rfl ?_
  exact t_X3_inBits_17 hdp  1000 k0 hf
def f_X4_pickParty_159 (fr : Nat → Int32 → Int32 → Hp → Option (Int32 × Hp)) (k62 : Nat → Int32 → Int32 → Int32 → Int32 → Hp → Option (Int32 × Hp)) (a0 : Nat) (x1 : Int32) (x2 : Int32) (x4 : Int32) (x5 : Int32) (h : Hp) : Option (Int32 × Hp) := lt (x5 + 1) (fun v10 => k62 a0 x1 x2 x4 v10 h)
set_option maxHeartbeats 4000000 in
set_option maxRecDepth 100000 in
theorem t_X4_pickParty_159 {l : Launch} {D : va_G} {ad : Nat → Nat} {cA : Nat → ClassId} {d : Nat} (hdp : 1 ≤ d) {o : Int32 × Hp} {fr : Nat → Int32 → Int32 → Hp → Option (Int32 × Hp)} (hfr : ∀ {a0 : Nat} {x1 : Int32} {x2 : Int32} (k0 : kd a0 = 4) {h : Hp} {o : Int32 × Hp}, fr a0 x1 x2 h = some o → Cr l D ad cA d yX4_pickParty cX4_pickParty 7 (some .int) [.ref (ad a0), .int x1, .int x2] h (some (.int o.1)) o.2) {k62 : Nat → Int32 → Int32 → Int32 → Int32 → Hp → Option (Int32 × Hp)} (hk62 : ∀ {a0 : Nat} {x1 : Int32} {x2 : Int32} {x4 : Int32} {x5 : Int32} (k0 : kd a0 = 4) {h : Hp}, k62 a0 x1 x2 x4 x5 h = some o → J l D ad cA (fun _ => True) (rmd (d + 1)) (0, 0) (mQ D ad cA (some (.int o.1)) o.2) cX4_pickParty RX4 7 (some .int) 62 [(0, .ref (ad a0)), (1, .int x1), (2, .int x2), (4, .int x4), (5, .int x5)] [] h) {a0 : Nat} {x1 : Int32} {x2 : Int32} {x4 : Int32} {x5 : Int32} (k0 : kd a0 = 4) {h : Hp} (hf : f_X4_pickParty_159 fr k62 a0 x1 x2 x4 x5 h = some o) : J l D ad cA (fun _ => True) (rmd (d + 1)) (0, 0) (mQ D ad cA (some (.int o.1)) o.2) cX4_pickParty RX4 7 (some .int) 159 [(0, .ref (ad a0)), (1, .int x1), (2, .int x2), (4, .int x4), (5, .int x5)] [] h := by
  unfold f_X4_pickParty_159 at hf
  refine j_iinc (pc := 159) 4 (c := 1) (lv' := fun v10 => [(5, .int v10), (0, .ref (ad a0)), (1, .int x1), (2, .int x2), (4, .int x4)]) dX4_pickParty_159 rfl (by decide) (by decide) (fun _ => rfl) hf (fun v10 hf => ?_)
  refine j_goto (pc := 162) (tgt := 62) dX4_pickParty_162 (by decide) ?_
  refine j_sub [1, 2, 3, 4, 0] rfl ?_
  exact hk62 k0 hf
def f_X4_pickParty_62 (fr : Nat → Int32 → Int32 → Hp → Option (Int32 × Hp)) (k62 : Nat → Int32 → Int32 → Int32 → Int32 → Hp → Option (Int32 × Hp)) (a0 : Nat) (x1 : Int32) (x2 : Int32) (x4 : Int32) (x5 : Int32) (h : Hp) : Option (Int32 × Hp) := if 6 ≤ x5 then (some (0, h)) else ((f_X8_holds x2 x5 h).bind (fun q2 => if q2.1 = 0 then (f_X4_pickParty_159 fr k62 a0 x1 x2 x4 x5 q2.2) else ((f_X8_cellOf x4 x5 q2.2).bind (fun q3 => if ix q3.1 24 = true then (if (q3.2.1 (a0 + 5) (Int32.toNatClampNeg q3.1)) = 0 then (f_X4_pickParty_159 fr k62 a0 x1 x2 x4 x5 q3.2) else (if ix x1 4 = true then (lt (sI q3.2 (a0 + 2) (Int32.toNatClampNeg x1) x5) (fun m4 => if ix x1 4 = true then ((f_X8_cellOf (m4.1 (a0 + 1) (Int32.toNatClampNeg x1)) x5 m4).bind (fun q5 => if ix x1 4 = true then (lt (sI q5.2 (a0 + 3) (Int32.toNatClampNeg x1) q5.1) (fun m6 => (f_X8_cellOf x4 x5 m6).bind (fun q7 => if ix x1 4 = true then (lt (sI q7.2 (a0 + 4) (Int32.toNatClampNeg x1) q7.1) (fun m8 => (fr a0 (x1 + 1) (x2 &&& ((1 <<< (x5 &&& 31)) ^^^ ((-1)))) m8).bind (fun q9 => if q9.1 = 0 then (f_X4_pickParty_159 fr k62 a0 x1 x2 x4 x5 q9.2) else (some (q9.1, q9.2))))) else none))) else none)) else none)) else none)) else none))))
set_option maxHeartbeats 4000000 in
set_option maxRecDepth 100000 in
theorem t_X4_pickParty_62 {l : Launch} {D : va_G} {ad : Nat → Nat} {cA : Nat → ClassId} {d : Nat} (hdp : 1 ≤ d) {o : Int32 × Hp} {fr : Nat → Int32 → Int32 → Hp → Option (Int32 × Hp)} (hfr : ∀ {a0 : Nat} {x1 : Int32} {x2 : Int32} (k0 : kd a0 = 4) {h : Hp} {o : Int32 × Hp}, fr a0 x1 x2 h = some o → Cr l D ad cA d yX4_pickParty cX4_pickParty 7 (some .int) [.ref (ad a0), .int x1, .int x2] h (some (.int o.1)) o.2)  : ∀ (n : Nat) {a0 : Nat} {x1 : Int32} {x2 : Int32} {x4 : Int32} {x5 : Int32} (k0 : kd a0 = 4) {h : Hp}, lp (F := Nat → Int32 → Int32 → Int32 → Int32 → Hp → Option (Int32 × Hp)) (fun _ _ _ _ _ _ => none) (f_X4_pickParty_62 fr) n a0 x1 x2 x4 x5 h = some o → J l D ad cA (fun _ => True) (rmd (d + 1)) (0, 0) (mQ D ad cA (some (.int o.1)) o.2) cX4_pickParty RX4 7 (some .int) 62 [(0, .ref (ad a0)), (1, .int x1), (2, .int x2), (4, .int x4), (5, .int x5)] [] h := by
  intro n
  induction n with
  | zero =>
    intro a0 x1 x2 x4 x5 k0 h hf
    have hf : (none : Option (Int32 × Hp)) = some o := hf
    cases hf
  | succ n hk62 =>
    intro a0 x1 x2 x4 x5 k0 h hf
    have hf : f_X4_pickParty_62 fr  (lp (F := Nat → Int32 → Int32 → Int32 → Int32 → Hp → Option (Int32 × Hp)) (fun _ _ _ _ _ _ => none) (f_X4_pickParty_62 fr) n) a0 x1 x2 x4 x5 h = some o := hf
    unfold f_X4_pickParty_62 at hf
    refine j_iload (pc := 62) 4 dX4_pickParty_62 rfl ?_
    refine j_bipush (pc := 64) dX4_pickParty_64 (v := 6) (by decide) ?_
    refine j_icmp_ge (pc := 66) (tgt := 165) dX4_pickParty_66 (by decide) hf (fun _ hf => ?_) (fun _ hf => ?_)
    · refine j_iconst (pc := 165) dX4_pickParty_165 (v := 0) (by decide) ?_
      exact j_iret (pc := 166) dX4_pickParty_166 rfl hf
    · refine j_iload_n (pc := 69) 2 dX4_pickParty_69 rfl rfl ?_
      refine j_iload (pc := 70) 4 dX4_pickParty_70 rfl ?_
      refine j_callNi (pc := 72) (d := d) (As := [.int x2, .int x5]) (st := []) dX4_pickParty_72 s724 rfl rfl (by decide) (Nat.le_of_ble_eq_true rfl) (fun q hq => t_X8_holds  hq) hf (fun q2 hf => ?_)
      refine j_if_eq (pc := 75) (tgt := 159) dX4_pickParty_75 (by decide) hf (fun _ hf => ?_) (fun _ hf => ?_)
      · refine j_sub [0, 1, 2, 3, 4] rfl ?_
        exact t_X4_pickParty_159 hdp hfr hk62 k0 hf
      · refine j_aload_n (pc := 78) 0 dX4_pickParty_78 rfl rfl ?_
        refine j_getR (pc := 79) (n := 5) dX4_pickParty_79 fl229 k0 (by decide) rfl ?_
        refine j_iload (pc := 82) 3 dX4_pickParty_82 rfl ?_
        refine j_iload (pc := 84) 4 dX4_pickParty_84 rfl ?_
        refine j_callNi (pc := 86) (d := d) (As := [.int x4, .int x5]) (st := [.ref (ad (a0 + 5))]) dX4_pickParty_86 s725 rfl rfl (by decide) (Nat.le_of_ble_eq_true rfl) (fun q hq => t_X8_cellOf  hq) hf (fun q3 hf => ?_)
        refine j_iaload (pc := 89) dX4_pickParty_89 (lk_4_7 k0) (ll_4_7 k0) hf (fun _ hf => ?_)
        refine j_if_ne (pc := 90) (tgt := 96) dX4_pickParty_90 (by decide) hf (fun _ hf => ?_) (fun _ hf => ?_)
        · refine j_aload_n (pc := 96) 0 dX4_pickParty_96 rfl rfl ?_
          refine j_getR (pc := 97) (n := 2) dX4_pickParty_97 fl226 k0 (by decide) rfl ?_
          refine j_iload_n (pc := 100) 1 dX4_pickParty_100 rfl rfl ?_
          refine j_iload (pc := 101) 4 dX4_pickParty_101 rfl ?_
          refine j_iastore (pc := 103) dX4_pickParty_103 (lk_4_4 k0) (ll_4_4 k0) hf (fun m4 hf => ?_)
          refine j_aload_n (pc := 104) 0 dX4_pickParty_104 rfl rfl ?_
          refine j_getR (pc := 105) (n := 3) dX4_pickParty_105 fl227 k0 (by decide) rfl ?_
          refine j_iload_n (pc := 108) 1 dX4_pickParty_108 rfl rfl ?_
          refine j_aload_n (pc := 109) 0 dX4_pickParty_109 rfl rfl ?_
          refine j_getR (pc := 110) (n := 1) dX4_pickParty_110 fl225 k0 (by decide) rfl ?_
          refine j_iload_n (pc := 113) 1 dX4_pickParty_113 rfl rfl ?_
          refine j_iaload (pc := 114) dX4_pickParty_114 (lk_4_3 k0) (ll_4_3 k0) hf (fun _ hf => ?_)
          refine j_iload (pc := 115) 4 dX4_pickParty_115 rfl ?_
          refine j_callNi (pc := 117) (d := d) (As := [.int (m4.1 (a0 + 1) (Int32.toNatClampNeg x1)), .int x5]) (st := [.int x1, .ref (ad (a0 + 3))]) dX4_pickParty_117 s725 rfl rfl (by decide) (Nat.le_of_ble_eq_true rfl) (fun q hq => t_X8_cellOf  hq) hf (fun q5 hf => ?_)
          refine j_iastore (pc := 120) dX4_pickParty_120 (lk_4_5 k0) (ll_4_5 k0) hf (fun m6 hf => ?_)
          refine j_aload_n (pc := 121) 0 dX4_pickParty_121 rfl rfl ?_
          refine j_getR (pc := 122) (n := 4) dX4_pickParty_122 fl228 k0 (by decide) rfl ?_
          refine j_iload_n (pc := 125) 1 dX4_pickParty_125 rfl rfl ?_
          refine j_iload (pc := 126) 3 dX4_pickParty_126 rfl ?_
          refine j_iload (pc := 128) 4 dX4_pickParty_128 rfl ?_
          refine j_callNi (pc := 130) (d := d) (As := [.int x4, .int x5]) (st := [.int x1, .ref (ad (a0 + 4))]) dX4_pickParty_130 s725 rfl rfl (by decide) (Nat.le_of_ble_eq_true rfl) (fun q hq => t_X8_cellOf  hq) hf (fun q7 hf => ?_)
          refine j_iastore (pc := 133) dX4_pickParty_133 (lk_4_6 k0) (ll_4_6 k0) hf (fun m8 hf => ?_)
          refine j_aload_n (pc := 134) 0 dX4_pickParty_134 rfl rfl ?_
          refine j_iload_n (pc := 135) 1 dX4_pickParty_135 rfl rfl ?_
          refine j_iconst (pc := 136) dX4_pickParty_136 (v := 1) (by decide) ?_
          refine j_iadd (pc := 137) dX4_pickParty_137  ?_
          refine j_iload_n (pc := 138) 2 dX4_pickParty_138 rfl rfl ?_
          refine j_iconst (pc := 139) dX4_pickParty_139 (v := 1) (by decide) ?_
          refine j_iload (pc := 140) 4 dX4_pickParty_140 rfl ?_
          refine j_ishl (pc := 142) dX4_pickParty_142  ?_
          refine j_iconst (pc := 143) dX4_pickParty_143 (v := -1) (by decide) ?_
          refine j_ixor (pc := 144) dX4_pickParty_144  ?_
          refine j_iand (pc := 145) dX4_pickParty_145  ?_
          refine j_callVi (pc := 146) (d := d) (As := [.int (x1 + 1), .int (x2 &&& ((1 <<< (x5 &&& 31)) ^^^ ((-1))))]) (st := []) dX4_pickParty_146 s711 k0 (by decide) rfl rfl (by decide) (Nat.le_of_ble_eq_true rfl) (fun q hq => hfr k0 hq) hf (fun q9 hf => ?_)
          refine j_istore (pc := 149) (lv' := [(6, .int q9.1), (0, .ref (ad a0)), (1, .int x1), (2, .int x2), (4, .int x4), (5, .int x5)]) dX4_pickParty_149 (by decide) rfl ?_
          refine j_iload (pc := 151) 0 dX4_pickParty_151 rfl ?_
          refine j_if_eq (pc := 153) (tgt := 159) dX4_pickParty_153 (by decide) hf (fun _ hf => ?_) (fun _ hf => ?_)
          · refine j_sub [1, 2, 3, 4, 5] rfl ?_
            exact t_X4_pickParty_159 hdp hfr hk62 k0 hf
          · refine j_iload (pc := 156) 0 dX4_pickParty_156 rfl ?_
            exact j_iret (pc := 158) dX4_pickParty_158 rfl hf
        · refine j_goto (pc := 93) (tgt := 159) dX4_pickParty_93 (by decide) ?_
          refine j_sub [0, 1, 2, 3, 4] rfl ?_
          exact t_X4_pickParty_159 hdp hfr hk62 k0 hf
def f_X4_pickParty_56 (fr : Nat → Int32 → Int32 → Hp → Option (Int32 × Hp))  (a0 : Nat) (x1 : Int32) (x2 : Int32) (y0 : Int32) (b1 : Nat) (h : Hp) : Option (Int32 × Hp) := if ix y0 4 = true then (lt (h.1 b1 (Int32.toNatClampNeg y0)) (fun v1 => lp (F := Nat → Int32 → Int32 → Int32 → Int32 → Hp → Option (Int32 × Hp)) (fun _ _ _ _ _ _ => none) (f_X4_pickParty_62 fr) 1000 a0 x1 x2 v1 0 h)) else none
set_option maxHeartbeats 4000000 in
set_option maxRecDepth 100000 in
theorem t_X4_pickParty_56 {l : Launch} {D : va_G} {ad : Nat → Nat} {cA : Nat → ClassId} {d : Nat} (hdp : 1 ≤ d) {o : Int32 × Hp} {fr : Nat → Int32 → Int32 → Hp → Option (Int32 × Hp)} (hfr : ∀ {a0 : Nat} {x1 : Int32} {x2 : Int32} (k0 : kd a0 = 4) {h : Hp} {o : Int32 × Hp}, fr a0 x1 x2 h = some o → Cr l D ad cA d yX4_pickParty cX4_pickParty 7 (some .int) [.ref (ad a0), .int x1, .int x2] h (some (.int o.1)) o.2)  {a0 : Nat} {x1 : Int32} {x2 : Int32} {y0 : Int32} {b1 : Nat} (k0 : kd a0 = 4) (kb1 : kd b1 = 10) (nb1 : ln b1 = 4) {h : Hp} (hf : f_X4_pickParty_56 fr  a0 x1 x2 y0 b1 h = some o) : J l D ad cA (fun _ => True) (rmd (d + 1)) (0, 0) (mQ D ad cA (some (.int o.1)) o.2) cX4_pickParty RX4 7 (some .int) 56 [(0, .ref (ad a0)), (1, .int x1), (2, .int x2)] [.int y0, .ref (ad b1)] h := by
  unfold f_X4_pickParty_56 at hf
  refine j_iaload (pc := 56) dX4_pickParty_56 kb1 nb1 hf (fun _ hf => ?_)
  refine j_istoreN (pc := 57) (lv' := fun v1 => [(4, .int v1), (0, .ref (ad a0)), (1, .int x1), (2, .int x2)]) dX4_pickParty_57 (by decide) (fun _ => rfl) hf (fun v1 hf => ?_)
  refine j_iconst (pc := 59) dX4_pickParty_59 (v := 0) (by decide) ?_
  refine j_istore (pc := 60) (lv' := [(5, .int 0), (4, .int v1), (0, .ref (ad a0)), (1, .int x1), (2, .int x2)]) dX4_pickParty_60 (by decide) rfl ?_
  refine j_sub [2, 3, 4, 1, 0] rfl ?_
  exact t_X4_pickParty_62 hdp hfr  1000 k0 hf
def f_X4_pickParty_40 (fr : Nat → Int32 → Int32 → Hp → Option (Int32 × Hp))  (a0 : Nat) (x1 : Int32) (x2 : Int32) (y0 : Int32) (h : Hp) : Option (Int32 × Hp) := if y0 = 0 then (f_X4_pickParty_56 fr  a0 x1 x2 (x1 + 1) (a0 + 1) h) else (f_X4_pickParty_56 fr  a0 x1 x2 0 (a0 + 1) h)
set_option maxHeartbeats 4000000 in
set_option maxRecDepth 100000 in
theorem t_X4_pickParty_40 {l : Launch} {D : va_G} {ad : Nat → Nat} {cA : Nat → ClassId} {d : Nat} (hdp : 1 ≤ d) {o : Int32 × Hp} {fr : Nat → Int32 → Int32 → Hp → Option (Int32 × Hp)} (hfr : ∀ {a0 : Nat} {x1 : Int32} {x2 : Int32} (k0 : kd a0 = 4) {h : Hp} {o : Int32 × Hp}, fr a0 x1 x2 h = some o → Cr l D ad cA d yX4_pickParty cX4_pickParty 7 (some .int) [.ref (ad a0), .int x1, .int x2] h (some (.int o.1)) o.2)  {a0 : Nat} {x1 : Int32} {x2 : Int32} {y0 : Int32} (k0 : kd a0 = 4) {h : Hp} (hf : f_X4_pickParty_40 fr  a0 x1 x2 y0 h = some o) : J l D ad cA (fun _ => True) (rmd (d + 1)) (0, 0) (mQ D ad cA (some (.int o.1)) o.2) cX4_pickParty RX4 7 (some .int) 40 [(0, .ref (ad a0)), (1, .int x1), (2, .int x2)] [.int y0] h := by
  unfold f_X4_pickParty_40 at hf
  refine j_istore_n (pc := 40) (lv' := [(3, .int y0), (0, .ref (ad a0)), (1, .int x1), (2, .int x2)]) dX4_pickParty_40 rfl (by decide) rfl ?_
  refine j_aload_n (pc := 41) 1 dX4_pickParty_41 rfl rfl ?_
  refine j_getR (pc := 42) (n := 1) dX4_pickParty_42 fl225 k0 (by decide) rfl ?_
  refine j_iload_n (pc := 45) 0 dX4_pickParty_45 rfl rfl ?_
  refine j_if_eq (pc := 46) (tgt := 53) dX4_pickParty_46 (by decide) hf (fun _ hf => ?_) (fun _ hf => ?_)
  · refine j_iload_n (pc := 53) 2 dX4_pickParty_53 rfl rfl ?_
    refine j_iconst (pc := 54) dX4_pickParty_54 (v := 1) (by decide) ?_
    refine j_iadd (pc := 55) dX4_pickParty_55  ?_
    refine j_sub [1, 2, 3] rfl ?_
    exact t_X4_pickParty_56 hdp hfr  k0 (lk_4_3 k0) (ll_4_3 k0) hf
  · refine j_iconst (pc := 49) dX4_pickParty_49 (v := 0) (by decide) ?_
    refine j_goto (pc := 50) (tgt := 56) dX4_pickParty_50 (by decide) ?_
    refine j_sub [1, 2, 3] rfl ?_
    exact t_X4_pickParty_56 hdp hfr  k0 (lk_4_3 k0) (ll_4_3 k0) hf
def f_X4_pickParty_35 (fr : Nat → Int32 → Int32 → Hp → Option (Int32 × Hp))  (a0 : Nat) (x1 : Int32) (x2 : Int32) (h : Hp) : Option (Int32 × Hp) := f_X4_pickParty_40 fr  a0 x1 x2 1 h
set_option maxHeartbeats 4000000 in
set_option maxRecDepth 100000 in
theorem t_X4_pickParty_35 {l : Launch} {D : va_G} {ad : Nat → Nat} {cA : Nat → ClassId} {d : Nat} (hdp : 1 ≤ d) {o : Int32 × Hp} {fr : Nat → Int32 → Int32 → Hp → Option (Int32 × Hp)} (hfr : ∀ {a0 : Nat} {x1 : Int32} {x2 : Int32} (k0 : kd a0 = 4) {h : Hp} {o : Int32 × Hp}, fr a0 x1 x2 h = some o → Cr l D ad cA d yX4_pickParty cX4_pickParty 7 (some .int) [.ref (ad a0), .int x1, .int x2] h (some (.int o.1)) o.2)  {a0 : Nat} {x1 : Int32} {x2 : Int32} (k0 : kd a0 = 4) {h : Hp} (hf : f_X4_pickParty_35 fr  a0 x1 x2 h = some o) : J l D ad cA (fun _ => True) (rmd (d + 1)) (0, 0) (mQ D ad cA (some (.int o.1)) o.2) cX4_pickParty RX4 7 (some .int) 35 [(0, .ref (ad a0)), (1, .int x1), (2, .int x2)] [] h := by
  unfold f_X4_pickParty_35 at hf
  refine j_iconst (pc := 35) dX4_pickParty_35 (v := 1) (by decide) ?_
  refine j_goto (pc := 36) (tgt := 40) dX4_pickParty_36 (by decide) ?_
  refine j_sub [0, 1, 2] rfl ?_
  exact t_X4_pickParty_40 hdp hfr  k0 hf
def f_X4_pickParty_13 (fr : Nat → Int32 → Int32 → Hp → Option (Int32 × Hp))  (a0 : Nat) (h : Hp) : Option (Int32 × Hp) := (f_X4_weigh a0 h).bind (fun q11 => some (q11.1, q11.2))
set_option maxHeartbeats 4000000 in
set_option maxRecDepth 100000 in
theorem t_X4_pickParty_13 {l : Launch} {D : va_G} {ad : Nat → Nat} {cA : Nat → ClassId} {d : Nat} (hdp : 1 ≤ d) {o : Int32 × Hp} {fr : Nat → Int32 → Int32 → Hp → Option (Int32 × Hp)} (hfr : ∀ {a0 : Nat} {x1 : Int32} {x2 : Int32} (k0 : kd a0 = 4) {h : Hp} {o : Int32 × Hp}, fr a0 x1 x2 h = some o → Cr l D ad cA d yX4_pickParty cX4_pickParty 7 (some .int) [.ref (ad a0), .int x1, .int x2] h (some (.int o.1)) o.2)  {a0 : Nat} (k0 : kd a0 = 4) {h : Hp} (hf : f_X4_pickParty_13 fr  a0 h = some o) : J l D ad cA (fun _ => True) (rmd (d + 1)) (0, 0) (mQ D ad cA (some (.int o.1)) o.2) cX4_pickParty RX4 7 (some .int) 13 [(0, .ref (ad a0))] [] h := by
  unfold f_X4_pickParty_13 at hf
  refine j_aload_n (pc := 13) 0 dX4_pickParty_13 rfl rfl ?_
  refine j_callVi (pc := 14) (d := d) (As := []) (st := []) dX4_pickParty_14 s715 k0 (by decide) rfl rfl (by decide) (Nat.le_of_ble_eq_true rfl) (fun q hq => t_X4_weigh (by omega) k0 hq) hf (fun q11 hf => ?_)
  exact j_iret (pc := 17) dX4_pickParty_17 rfl hf
def f_X4_pickParty_0 (fr : Nat → Int32 → Int32 → Hp → Option (Int32 × Hp)) (a0 : Nat) (x1 : Int32) (x2 : Int32) (h : Hp) : Option (Int32 × Hp) := if (h.1 a0 2) ≤ x1 then (f_X4_pickParty_13 fr  a0 h) else (if x1 < 4 then (if (h.1 a0 2) ≤ (x1 + 1) then (f_X4_pickParty_35 fr  a0 x1 x2 h) else (if (x1 + 1) < 4 then (f_X4_pickParty_40 fr  a0 x1 x2 0 h) else (f_X4_pickParty_35 fr  a0 x1 x2 h))) else (f_X4_pickParty_13 fr  a0 h))
abbrev f_X4_pickParty (n : Nat) : Nat → Int32 → Int32 → Hp → Option (Int32 × Hp) := lp (F := Nat → Int32 → Int32 → Hp → Option (Int32 × Hp)) (fun _ _ _ _ => none) f_X4_pickParty_0 n
set_option maxHeartbeats 4000000 in
set_option maxRecDepth 100000 in
theorem t_X4_pickParty {l : Launch} {D : va_G} {ad : Nat → Nat} {cA : Nat → ClassId} : ∀ (n : Nat) {d : Nat} (hdp : 2 + n ≤ d) {a0 : Nat} {x1 : Int32} {x2 : Int32} (k0 : kd a0 = 4) {h : Hp} {o : Int32 × Hp}, f_X4_pickParty n a0 x1 x2 h = some o → Cr l D ad cA d yX4_pickParty cX4_pickParty 7 (some .int) [.ref (ad a0), .int x1, .int x2] h (some (.int o.1)) o.2 := by
  intro n
  induction n with
  | zero =>
    intro d hdp a0 x1 x2 k0 h o hf
    have hf : (none : Option (Int32 × Hp)) = some o := hf
    cases hf
  | succ n hfr0 =>
    intro d hdp a0 x1 x2 k0 h o hf
    have hf : f_X4_pickParty_0 (f_X4_pickParty n) a0 x1 x2 h = some o := hf
    obtain ⟨d, rfl⟩ : ∃ e, d = e + 1 := ⟨d - 1, by omega⟩
    have hfr : ∀ {a0 : Nat} {x1 : Int32} {x2 : Int32} (k0 : kd a0 = 4) {h : Hp} {o : Int32 × Hp}, f_X4_pickParty n a0 x1 x2 h = some o → Cr l D ad cA d yX4_pickParty cX4_pickParty 7 (some .int) [.ref (ad a0), .int x1, .int x2] h (some (.int o.1)) o.2 := hfr0 (by omega)
    have hdp : 1 ≤ d := by omega
    unfold f_X4_pickParty_0 at hf
    refine Cr_of (by decide +kernel) rfl (Nat.le_of_ble_eq_true rfl) (lv0 := [(0, .ref (ad a0)), (1, .int x1), (2, .int x2)]) rfl ?_
    refine j_iload_n (pc := 0) 1 dX4_pickParty_0 rfl rfl ?_
    refine j_aload_n (pc := 1) 0 dX4_pickParty_1 rfl rfl ?_
    refine j_getI (pc := 2) dX4_pickParty_2 fl224 k0 (by decide) rfl ?_
    refine j_icmp_ge (pc := 5) (tgt := 13) dX4_pickParty_5 (by decide) hf (fun _ hf => ?_) (fun _ hf => ?_)
    · refine j_sub [0] rfl ?_
      exact t_X4_pickParty_13 hdp hfr  k0 hf
    · refine j_iload_n (pc := 8) 1 dX4_pickParty_8 rfl rfl ?_
      refine j_iconst (pc := 9) dX4_pickParty_9 (v := 4) (by decide) ?_
      refine j_icmp_lt (pc := 10) (tgt := 18) dX4_pickParty_10 (by decide) hf (fun _ hf => ?_) (fun _ hf => ?_)
      · refine j_iload_n (pc := 18) 1 dX4_pickParty_18 rfl rfl ?_
        refine j_iconst (pc := 19) dX4_pickParty_19 (v := 1) (by decide) ?_
        refine j_iadd (pc := 20) dX4_pickParty_20  ?_
        refine j_aload_n (pc := 21) 0 dX4_pickParty_21 rfl rfl ?_
        refine j_getI (pc := 22) dX4_pickParty_22 fl224 k0 (by decide) rfl ?_
        refine j_icmp_ge (pc := 25) (tgt := 35) dX4_pickParty_25 (by decide) hf (fun _ hf => ?_) (fun _ hf => ?_)
        · refine j_sub [0, 1, 2] rfl ?_
          exact t_X4_pickParty_35 hdp hfr  k0 hf
        · refine j_iload_n (pc := 28) 1 dX4_pickParty_28 rfl rfl ?_
          refine j_iconst (pc := 29) dX4_pickParty_29 (v := 1) (by decide) ?_
          refine j_iadd (pc := 30) dX4_pickParty_30  ?_
          refine j_iconst (pc := 31) dX4_pickParty_31 (v := 4) (by decide) ?_
          refine j_icmp_lt (pc := 32) (tgt := 39) dX4_pickParty_32 (by decide) hf (fun _ hf => ?_) (fun _ hf => ?_)
          · refine j_iconst (pc := 39) dX4_pickParty_39 (v := 0) (by decide) ?_
            refine j_sub [0, 1, 2] rfl ?_
            exact t_X4_pickParty_40 hdp hfr  k0 hf
          · refine j_sub [0, 1, 2] rfl ?_
            exact t_X4_pickParty_35 hdp hfr  k0 hf
      · refine j_sub [0] rfl ?_
        exact t_X4_pickParty_13 hdp hfr  k0 hf
def f_X6_copyIn_3 (k3 : Nat → Int32 → Int32 → Nat → Int32 → Hp → Option (Int32 × Hp)) (a0 : Nat) (x1 : Int32) (x2 : Int32) (a3 : Nat) (x4 : Int32) (h : Hp) : Option (Int32 × Hp) := if 24 ≤ x4 then (if isB 1 = true then some (1, h) else none) else (if ix x4 (ln a3) = true then ((f_X6_put a0 x1 (x2 + x4) (h.1 a3 (Int32.toNatClampNeg x4)) h).bind (fun q1 => if q1.1 = 0 then (if isB 0 = true then some (0, q1.2) else none) else (lt (x4 + 1) (fun v2 => k3 a0 x1 x2 a3 v2 q1.2)))) else none)
set_option maxHeartbeats 4000000 in
set_option maxRecDepth 100000 in
theorem t_X6_copyIn_3 {l : Launch} {D : va_G} {ad : Nat → Nat} {cA : Nat → ClassId} {d : Nat} (hdp : 1 ≤ d) {o : Int32 × Hp}  : ∀ (n : Nat) {a0 : Nat} {x1 : Int32} {x2 : Int32} {a3 : Nat} {x4 : Int32} (k0 : kd a0 = 6) (k3 : kd a3 = 10) {h : Hp}, lp (F := Nat → Int32 → Int32 → Nat → Int32 → Hp → Option (Int32 × Hp)) (fun _ _ _ _ _ _ => none) (f_X6_copyIn_3) n a0 x1 x2 a3 x4 h = some o → J l D ad cA (fun _ => True) (rmd (d + 1)) (0, 0) (mQ D ad cA (some (.int o.1)) o.2) cX6_copyIn RX6 5 (some .boolean) 3 [(0, .ref (ad a0)), (1, .int x1), (2, .int x2), (3, .ref (ad a3)), (4, .int x4)] [] h := by
  intro n
  induction n with
  | zero =>
    intro a0 x1 x2 a3 x4 k0 k3 h hf
    have hf : (none : Option (Int32 × Hp)) = some o := hf
    cases hf
  | succ n hk3 =>
    intro a0 x1 x2 a3 x4 k0 k3 h hf
    have hf : f_X6_copyIn_3  (lp (F := Nat → Int32 → Int32 → Nat → Int32 → Hp → Option (Int32 × Hp)) (fun _ _ _ _ _ _ => none) (f_X6_copyIn_3) n) a0 x1 x2 a3 x4 h = some o := hf
    unfold f_X6_copyIn_3 at hf
    refine j_iload (pc := 3) 4 dX6_copyIn_3 rfl ?_
    refine j_bipush (pc := 5) dX6_copyIn_5 (v := 24) (by decide) ?_
    refine j_icmp_ge (pc := 7) (tgt := 34) dX6_copyIn_7 (by decide) hf (fun _ hf => ?_) (fun _ hf => ?_)
    · refine j_iconst (pc := 34) dX6_copyIn_34 (v := 1) (by decide) ?_
      exact j_zret (pc := 35) dX6_copyIn_35 rfl hf
    · refine j_aload_n (pc := 10) 0 dX6_copyIn_10 rfl rfl ?_
      refine j_iload_n (pc := 11) 1 dX6_copyIn_11 rfl rfl ?_
      refine j_iload_n (pc := 12) 2 dX6_copyIn_12 rfl rfl ?_
      refine j_iload (pc := 13) 4 dX6_copyIn_13 rfl ?_
      refine j_iadd (pc := 15) dX6_copyIn_15  ?_
      refine j_aload_n (pc := 16) 3 dX6_copyIn_16 rfl rfl ?_
      refine j_iload (pc := 17) 4 dX6_copyIn_17 rfl ?_
      refine j_iaload (pc := 19) dX6_copyIn_19 k3 rfl hf (fun _ hf => ?_)
      refine j_callVi (pc := 20) (d := d) (As := [.int x1, .int (x2 + x4), .int (h.1 a3 (Int32.toNatClampNeg x4))]) (st := []) dX6_copyIn_20 s831 k0 (by decide) rfl rfl (by decide) (Nat.le_of_ble_eq_true rfl) (fun q hq => t_X6_put (by omega) k0 hq) hf (fun q1 hf => ?_)
      refine j_if_ne (pc := 23) (tgt := 28) dX6_copyIn_23 (by decide) hf (fun _ hf => ?_) (fun _ hf => ?_)
      · refine j_iinc (pc := 28) 4 (c := 1) (lv' := fun v2 => [(4, .int v2), (0, .ref (ad a0)), (1, .int x1), (2, .int x2), (3, .ref (ad a3))]) dX6_copyIn_28 rfl (by decide) (by decide) (fun _ => rfl) hf (fun v2 hf => ?_)
        refine j_goto (pc := 31) (tgt := 3) dX6_copyIn_31 (by decide) ?_
        refine j_sub [1, 2, 3, 4, 0] rfl ?_
        exact hk3 k0 k3 hf
      · refine j_iconst (pc := 26) dX6_copyIn_26 (v := 0) (by decide) ?_
        exact j_zret (pc := 27) dX6_copyIn_27 rfl hf
def f_X6_copyIn (a0 : Nat) (x1 : Int32) (x2 : Int32) (a3 : Nat) (h : Hp) : Option (Int32 × Hp) := lp (F := Nat → Int32 → Int32 → Nat → Int32 → Hp → Option (Int32 × Hp)) (fun _ _ _ _ _ _ => none) (f_X6_copyIn_3) 1000 a0 x1 x2 a3 0 h
set_option maxHeartbeats 4000000 in
set_option maxRecDepth 100000 in
theorem t_X6_copyIn {l : Launch} {D : va_G} {ad : Nat → Nat} {cA : Nat → ClassId} {d : Nat} (hdp : 2 ≤ d) {a0 : Nat} {x1 : Int32} {x2 : Int32} {a3 : Nat} (k0 : kd a0 = 6) (k3 : kd a3 = 10) {h : Hp} {o : Int32 × Hp} (hf : f_X6_copyIn a0 x1 x2 a3 h = some o) : Cr l D ad cA d yX6_copyIn cX6_copyIn 5 (some .boolean) [.ref (ad a0), .int x1, .int x2, .ref (ad a3)] h (some (.int o.1)) o.2 := by
  obtain ⟨d, rfl⟩ : ∃ e, d = e + 1 := ⟨d - 1, by omega⟩
  have hdp : 1 ≤ d := by omega
  unfold f_X6_copyIn at hf
  refine Cr_of (by decide +kernel) rfl (Nat.le_of_ble_eq_true rfl) (lv0 := [(0, .ref (ad a0)), (1, .int x1), (2, .int x2), (3, .ref (ad a3))]) rfl ?_
  refine j_iconst (pc := 0) dX6_copyIn_0 (v := 0) (by decide) ?_
  refine j_istore (pc := 1) (lv' := [(4, .int 0), (0, .ref (ad a0)), (1, .int x1), (2, .int x2), (3, .ref (ad a3))]) dX6_copyIn_1 (by decide) rfl ?_
  refine j_sub [1, 2, 3, 4, 0] rfl ?_
  exact t_X6_copyIn_3 hdp  1000 k0 k3 hf
def f_X7_parse_169 (k17 : Nat → Nat → Int32 → Int32 → Int32 → Int32 → Hp → Option (Int32 × Hp)) (a0 : Nat) (a2 : Nat) (x4 : Int32) (x5 : Int32) (x6 : Int32) (x7 : Int32) (h : Hp) : Option (Int32 × Hp) := lt (x6 + 1) (fun v8 => lt (x7 + 1) (fun v9 => k17 a0 a2 x4 x5 v8 v9 h))
set_option maxHeartbeats 4000000 in
set_option maxRecDepth 100000 in
theorem t_X7_parse_169 {l : Launch} {D : va_G} {ad : Nat → Nat} {cA : Nat → ClassId} {d : Nat} (hdp : 1 ≤ d) {o : Int32 × Hp} {k17 : Nat → Nat → Int32 → Int32 → Int32 → Int32 → Hp → Option (Int32 × Hp)} (hk17 : ∀ {a0 : Nat} {a2 : Nat} {x4 : Int32} {x5 : Int32} {x6 : Int32} {x7 : Int32} (k0 : kd a0 = 7) (k2 : kd a2 = 3) {h : Hp}, k17 a0 a2 x4 x5 x6 x7 h = some o → J l D ad cA (fun _ => True) (rmd (d + 1)) (0, 0) (mQ D ad cA (some (.int o.1)) o.2) cX7_parse RX7 10 (some .int) 17 [(0, .ref (ad a0)), (2, .ref (ad a2)), (4, .int x4), (5, .int x5), (6, .int x6), (7, .int x7)] [] h) {a0 : Nat} {a2 : Nat} {x4 : Int32} {x5 : Int32} {x6 : Int32} {x7 : Int32} (k0 : kd a0 = 7) (k2 : kd a2 = 3) {h : Hp} (hf : f_X7_parse_169 k17 a0 a2 x4 x5 x6 x7 h = some o) : J l D ad cA (fun _ => True) (rmd (d + 1)) (0, 0) (mQ D ad cA (some (.int o.1)) o.2) cX7_parse RX7 10 (some .int) 169 [(0, .ref (ad a0)), (2, .ref (ad a2)), (4, .int x4), (5, .int x5), (6, .int x6), (7, .int x7)] [] h := by
  unfold f_X7_parse_169 at hf
  refine j_iinc (pc := 169) 4 (c := 1) (lv' := fun v8 => [(6, .int v8), (0, .ref (ad a0)), (2, .ref (ad a2)), (4, .int x4), (5, .int x5), (7, .int x7)]) dX7_parse_169 rfl (by decide) (by decide) (fun _ => rfl) hf (fun v8 hf => ?_)
  refine j_iinc (pc := 172) 5 (c := 1) (lv' := fun v9 => [(7, .int v9), (6, .int v8), (0, .ref (ad a0)), (2, .ref (ad a2)), (4, .int x4), (5, .int x5)]) dX7_parse_172 rfl (by decide) (by decide) (fun _ => rfl) hf (fun v9 hf => ?_)
  refine j_goto (pc := 175) (tgt := 17) dX7_parse_175 (by decide) ?_
  refine j_sub [2, 3, 4, 5, 1, 0] rfl ?_
  exact hk17 k0 k2 hf
def f_X7_parse_167  (y0 : Int32) (y1 : Int32) (h : Hp) : Option (Int32 × Hp) := some (y1 - y0, h)
set_option maxHeartbeats 4000000 in
set_option maxRecDepth 100000 in
theorem t_X7_parse_167 {l : Launch} {D : va_G} {ad : Nat → Nat} {cA : Nat → ClassId} {d : Nat} (hdp : 1 ≤ d) {o : Int32 × Hp}  {y0 : Int32} {y1 : Int32}  {h : Hp} (hf : f_X7_parse_167  y0 y1 h = some o) : J l D ad cA (fun _ => True) (rmd (d + 1)) (0, 0) (mQ D ad cA (some (.int o.1)) o.2) cX7_parse RX7 10 (some .int) 167 [] [.int y0, .int y1] h := by
  unfold f_X7_parse_167 at hf
  refine j_isub (pc := 167) dX7_parse_167  ?_
  exact j_iret (pc := 168) dX7_parse_168 rfl hf
def f_X7_parse_144  (a0 : Nat) (x6 : Int32) (h : Hp) : Option (Int32 × Hp) := if ix x6 120 = true then (if (h.1 (a0 + 1) (Int32.toNatClampNeg x6)) = 47 then (f_X7_parse_167  (x6 + 1) ((-100)) h) else (f_X7_parse_167  x6 ((-100)) h)) else none
set_option maxHeartbeats 4000000 in
set_option maxRecDepth 100000 in
theorem t_X7_parse_144 {l : Launch} {D : va_G} {ad : Nat → Nat} {cA : Nat → ClassId} {d : Nat} (hdp : 1 ≤ d) {o : Int32 × Hp}  {a0 : Nat} {x6 : Int32} (k0 : kd a0 = 7) {h : Hp} (hf : f_X7_parse_144  a0 x6 h = some o) : J l D ad cA (fun _ => True) (rmd (d + 1)) (0, 0) (mQ D ad cA (some (.int o.1)) o.2) cX7_parse RX7 10 (some .int) 144 [(0, .ref (ad a0)), (6, .int x6)] [] h := by
  unfold f_X7_parse_144 at hf
  refine j_bipush (pc := 144) dX7_parse_144 (v := -100) (by decide) ?_
  refine j_aload_n (pc := 146) 0 dX7_parse_146 rfl rfl ?_
  refine j_getR (pc := 147) (n := 1) dX7_parse_147 fl290 k0 (by decide) rfl ?_
  refine j_iload (pc := 150) 1 dX7_parse_150 rfl ?_
  refine j_iaload (pc := 152) dX7_parse_152 (lk_7_0 k0) (ll_7_0 k0) hf (fun _ hf => ?_)
  refine j_bipush (pc := 153) dX7_parse_153 (v := 47) (by decide) ?_
  refine j_icmp_ne (pc := 155) (tgt := 165) dX7_parse_155 (by decide) hf (fun _ hf => ?_) (fun _ hf => ?_)
  · refine j_iload (pc := 165) 1 dX7_parse_165 rfl ?_
    refine j_sub [] rfl ?_
    exact t_X7_parse_167 hdp   hf
  · refine j_iload (pc := 158) 1 dX7_parse_158 rfl ?_
    refine j_iconst (pc := 160) dX7_parse_160 (v := 1) (by decide) ?_
    refine j_iadd (pc := 161) dX7_parse_161  ?_
    refine j_goto (pc := 162) (tgt := 167) dX7_parse_162 (by decide) ?_
    refine j_sub [] rfl ?_
    exact t_X7_parse_167 hdp   hf
def f_X7_parse_117 (k17 : Nat → Nat → Int32 → Int32 → Int32 → Int32 → Hp → Option (Int32 × Hp)) (a0 : Nat) (a2 : Nat) (x4 : Int32) (x6 : Int32) (x7 : Int32) (h : Hp) : Option (Int32 × Hp) := if ix x6 120 = true then (if (h.1 (a0 + 1) (Int32.toNatClampNeg x6)) = 47 then (if 3 ≤ x4 then (f_X7_parse_144  a0 x6 h) else (lt (x4 + 1) (fun v10 => f_X7_parse_169 k17 a0 a2 v10 0 x6 x7 h))) else (f_X7_parse_144  a0 x6 h)) else none
set_option maxHeartbeats 4000000 in
set_option maxRecDepth 100000 in
theorem t_X7_parse_117 {l : Launch} {D : va_G} {ad : Nat → Nat} {cA : Nat → ClassId} {d : Nat} (hdp : 1 ≤ d) {o : Int32 × Hp} {k17 : Nat → Nat → Int32 → Int32 → Int32 → Int32 → Hp → Option (Int32 × Hp)} (hk17 : ∀ {a0 : Nat} {a2 : Nat} {x4 : Int32} {x5 : Int32} {x6 : Int32} {x7 : Int32} (k0 : kd a0 = 7) (k2 : kd a2 = 3) {h : Hp}, k17 a0 a2 x4 x5 x6 x7 h = some o → J l D ad cA (fun _ => True) (rmd (d + 1)) (0, 0) (mQ D ad cA (some (.int o.1)) o.2) cX7_parse RX7 10 (some .int) 17 [(0, .ref (ad a0)), (2, .ref (ad a2)), (4, .int x4), (5, .int x5), (6, .int x6), (7, .int x7)] [] h) {a0 : Nat} {a2 : Nat} {x4 : Int32} {x6 : Int32} {x7 : Int32} (k0 : kd a0 = 7) (k2 : kd a2 = 3) {h : Hp} (hf : f_X7_parse_117 k17 a0 a2 x4 x6 x7 h = some o) : J l D ad cA (fun _ => True) (rmd (d + 1)) (0, 0) (mQ D ad cA (some (.int o.1)) o.2) cX7_parse RX7 10 (some .int) 117 [(0, .ref (ad a0)), (2, .ref (ad a2)), (4, .int x4), (6, .int x6), (7, .int x7)] [] h := by
  unfold f_X7_parse_117 at hf
  refine j_aload_n (pc := 117) 0 dX7_parse_117 rfl rfl ?_
  refine j_getR (pc := 118) (n := 1) dX7_parse_118 fl290 k0 (by decide) rfl ?_
  refine j_iload (pc := 121) 3 dX7_parse_121 rfl ?_
  refine j_iaload (pc := 123) dX7_parse_123 (lk_7_0 k0) (ll_7_0 k0) hf (fun _ hf => ?_)
  refine j_bipush (pc := 124) dX7_parse_124 (v := 47) (by decide) ?_
  refine j_icmp_ne (pc := 126) (tgt := 144) dX7_parse_126 (by decide) hf (fun _ hf => ?_) (fun _ hf => ?_)
  · refine j_sub [0, 3] rfl ?_
    exact t_X7_parse_144 hdp  k0 hf
  · refine j_iload (pc := 129) 2 dX7_parse_129 rfl ?_
    refine j_iconst (pc := 131) dX7_parse_131 (v := 3) (by decide) ?_
    refine j_icmp_ge (pc := 132) (tgt := 144) dX7_parse_132 (by decide) hf (fun _ hf => ?_) (fun _ hf => ?_)
    · refine j_sub [0, 3] rfl ?_
      exact t_X7_parse_144 hdp  k0 hf
    · refine j_iinc (pc := 135) 2 (c := 1) (lv' := fun v10 => [(4, .int v10), (0, .ref (ad a0)), (2, .ref (ad a2)), (6, .int x6), (7, .int x7)]) dX7_parse_135 rfl (by decide) (by decide) (fun _ => rfl) hf (fun v10 hf => ?_)
      refine j_iconst (pc := 138) dX7_parse_138 (v := 0) (by decide) ?_
      refine j_istore (pc := 139) (lv' := [(5, .int 0), (4, .int v10), (0, .ref (ad a0)), (2, .ref (ad a2)), (6, .int x6), (7, .int x7)]) dX7_parse_139 (by decide) rfl ?_
      refine j_goto (pc := 141) (tgt := 169) dX7_parse_141 (by decide) ?_
      refine j_sub [2, 3, 1, 0, 4, 5] rfl ?_
      exact t_X7_parse_169 hdp hk17 k0 k2 hf
def f_X7_parse_54  (x6 : Int32) (h : Hp) : Option (Int32 × Hp) := some (((-100)) - x6, h)
set_option maxHeartbeats 4000000 in
set_option maxRecDepth 100000 in
theorem t_X7_parse_54 {l : Launch} {D : va_G} {ad : Nat → Nat} {cA : Nat → ClassId} {d : Nat} (hdp : 1 ≤ d) {o : Int32 × Hp}  {x6 : Int32}  {h : Hp} (hf : f_X7_parse_54  x6 h = some o) : J l D ad cA (fun _ => True) (rmd (d + 1)) (0, 0) (mQ D ad cA (some (.int o.1)) o.2) cX7_parse RX7 10 (some .int) 54 [(6, .int x6)] [] h := by
  unfold f_X7_parse_54 at hf
  refine j_bipush (pc := 54) dX7_parse_54 (v := -100) (by decide) ?_
  refine j_iload (pc := 56) 0 dX7_parse_56 rfl ?_
  refine j_isub (pc := 58) dX7_parse_58  ?_
  exact j_iret (pc := 59) dX7_parse_59 rfl hf
def f_X7_parse_17 (k17 : Nat → Nat → Int32 → Int32 → Int32 → Int32 → Hp → Option (Int32 × Hp)) (a0 : Nat) (a2 : Nat) (x4 : Int32) (x5 : Int32) (x6 : Int32) (x7 : Int32) (h : Hp) : Option (Int32 × Hp) := if 24 < x7 then (some (((-100)) - x6, h)) else ((f_X7_figuresAt a0 x6 h).bind (fun q2 => (f_X7_valueOf a0 x6 q2.1 q2.2).bind (fun q3 => if q2.1 = 0 then (f_X7_parse_54  x6 q3.2) else (if q3.1 ≤ 100000 then ((f_X8_cellOf x4 x5 q3.2).bind (fun q4 => if ix q4.1 24 = true then (lt (sI q4.2 (a2 + 1) (Int32.toNatClampNeg q4.1) q3.1) (fun m5 => lt (x6 + q2.1) (fun v6 => if v6 < (m5.1 a0 1) then (if ix v6 120 = true then (if (m5.1 (a0 + 1) (Int32.toNatClampNeg v6)) = 44 then (if 5 ≤ x5 then (f_X7_parse_117 k17 a0 a2 x4 v6 x7 m5) else (lt (x5 + 1) (fun v7 => f_X7_parse_169 k17 a0 a2 x4 v7 v6 x7 m5))) else (f_X7_parse_117 k17 a0 a2 x4 v6 x7 m5)) else none) else (some (x7, m5))))) else none)) else (f_X7_parse_54  x6 q3.2)))))
set_option maxHeartbeats 4000000 in
set_option maxRecDepth 100000 in
theorem t_X7_parse_17 {l : Launch} {D : va_G} {ad : Nat → Nat} {cA : Nat → ClassId} {d : Nat} (hdp : 1 ≤ d) {o : Int32 × Hp}  : ∀ (n : Nat) {a0 : Nat} {a2 : Nat} {x4 : Int32} {x5 : Int32} {x6 : Int32} {x7 : Int32} (k0 : kd a0 = 7) (k2 : kd a2 = 3) {h : Hp}, lp (F := Nat → Nat → Int32 → Int32 → Int32 → Int32 → Hp → Option (Int32 × Hp)) (fun _ _ _ _ _ _ _ => none) (f_X7_parse_17) n a0 a2 x4 x5 x6 x7 h = some o → J l D ad cA (fun _ => True) (rmd (d + 1)) (0, 0) (mQ D ad cA (some (.int o.1)) o.2) cX7_parse RX7 10 (some .int) 17 [(0, .ref (ad a0)), (2, .ref (ad a2)), (4, .int x4), (5, .int x5), (6, .int x6), (7, .int x7)] [] h := by
  intro n
  induction n with
  | zero =>
    intro a0 a2 x4 x5 x6 x7 k0 k2 h hf
    have hf : (none : Option (Int32 × Hp)) = some o := hf
    cases hf
  | succ n hk17 =>
    intro a0 a2 x4 x5 x6 x7 k0 k2 h hf
    have hf : f_X7_parse_17  (lp (F := Nat → Nat → Int32 → Int32 → Int32 → Int32 → Hp → Option (Int32 × Hp)) (fun _ _ _ _ _ _ _ => none) (f_X7_parse_17) n) a0 a2 x4 x5 x6 x7 h = some o := hf
    unfold f_X7_parse_17 at hf
    refine j_iload (pc := 17) 5 dX7_parse_17 rfl ?_
    refine j_bipush (pc := 19) dX7_parse_19 (v := 24) (by decide) ?_
    refine j_icmp_gt (pc := 21) (tgt := 178) dX7_parse_21 (by decide) hf (fun _ hf => ?_) (fun _ hf => ?_)
    · refine j_bipush (pc := 178) dX7_parse_178 (v := -100) (by decide) ?_
      refine j_iload (pc := 180) 4 dX7_parse_180 rfl ?_
      refine j_isub (pc := 182) dX7_parse_182  ?_
      exact j_iret (pc := 183) dX7_parse_183 rfl hf
    · refine j_aload_n (pc := 24) 0 dX7_parse_24 rfl rfl ?_
      refine j_iload (pc := 25) 4 dX7_parse_25 rfl ?_
      refine j_callVi (pc := 27) (d := d) (As := [.int x6]) (st := []) dX7_parse_27 s449 k0 (by decide) rfl rfl (by decide) (Nat.le_of_ble_eq_true rfl) (fun q hq => t_X7_figuresAt (by omega) k0 hq) hf (fun q2 hf => ?_)
      refine j_istore (pc := 30) (lv' := [(8, .int q2.1), (0, .ref (ad a0)), (2, .ref (ad a2)), (4, .int x4), (5, .int x5), (6, .int x6), (7, .int x7)]) dX7_parse_30 (by decide) rfl ?_
      refine j_aload_n (pc := 32) 1 dX7_parse_32 rfl rfl ?_
      refine j_iload (pc := 33) 5 dX7_parse_33 rfl ?_
      refine j_iload (pc := 35) 0 dX7_parse_35 rfl ?_
      refine j_callVi (pc := 37) (d := d) (As := [.int x6, .int q2.1]) (st := []) dX7_parse_37 s456 k0 (by decide) rfl rfl (by decide) (Nat.le_of_ble_eq_true rfl) (fun q hq => t_X7_valueOf k0 hq) hf (fun q3 hf => ?_)
      refine j_istore (pc := 40) (lv' := [(9, .int q3.1), (8, .int q2.1), (0, .ref (ad a0)), (2, .ref (ad a2)), (4, .int x4), (5, .int x5), (6, .int x6), (7, .int x7)]) dX7_parse_40 (by decide) rfl ?_
      refine j_iload (pc := 42) 1 dX7_parse_42 rfl ?_
      refine j_if_eq (pc := 44) (tgt := 54) dX7_parse_44 (by decide) hf (fun _ hf => ?_) (fun _ hf => ?_)
      · refine j_sub [6] rfl ?_
        exact t_X7_parse_54 hdp   hf
      · refine j_iload (pc := 47) 0 dX7_parse_47 rfl ?_
        refine j_ldc (pc := 49) dX7_parse_49 (v := 100000) w_c460 ?_
        refine j_icmp_le (pc := 51) (tgt := 60) dX7_parse_51 (by decide) hf (fun _ hf => ?_) (fun _ hf => ?_)
        · refine j_aload_n (pc := 60) 3 dX7_parse_60 rfl rfl ?_
          refine j_getR (pc := 61) (n := 1) dX7_parse_61 fl101 k2 (by decide) rfl ?_
          refine j_iload (pc := 64) 4 dX7_parse_64 rfl ?_
          refine j_iload (pc := 66) 5 dX7_parse_66 rfl ?_
          refine j_callNi (pc := 68) (d := d) (As := [.int x4, .int x5]) (st := [.ref (ad (a2 + 1))]) dX7_parse_68 s461 rfl rfl (by decide) (Nat.le_of_ble_eq_true rfl) (fun q hq => t_X8_cellOf  hq) hf (fun q4 hf => ?_)
          refine j_iload (pc := 71) 0 dX7_parse_71 rfl ?_
          refine j_iastore (pc := 73) dX7_parse_73 (lk_3_0 k2) (ll_3_0 k2) hf (fun m5 hf => ?_)
          refine j_iload (pc := 74) 6 dX7_parse_74 rfl ?_
          refine j_iload (pc := 76) 1 dX7_parse_76 rfl ?_
          refine j_iadd (pc := 78) dX7_parse_78  ?_
          refine j_istoreN (pc := 79) (lv' := fun v6 => [(6, .int v6), (9, .int q3.1), (8, .int q2.1), (0, .ref (ad a0)), (2, .ref (ad a2)), (4, .int x4), (5, .int x5), (7, .int x7)]) dX7_parse_79 (by decide) (fun _ => rfl) hf (fun v6 hf => ?_)
          refine j_iload (pc := 81) 0 dX7_parse_81 rfl ?_
          refine j_aload_n (pc := 83) 3 dX7_parse_83 rfl rfl ?_
          refine j_getI (pc := 84) dX7_parse_84 fl291 k0 (by decide) rfl ?_
          refine j_icmp_lt (pc := 87) (tgt := 93) dX7_parse_87 (by decide) hf (fun _ hf => ?_) (fun _ hf => ?_)
          · refine j_aload_n (pc := 93) 3 dX7_parse_93 rfl rfl ?_
            refine j_getR (pc := 94) (n := 1) dX7_parse_94 fl290 k0 (by decide) rfl ?_
            refine j_iload (pc := 97) 0 dX7_parse_97 rfl ?_
            refine j_iaload (pc := 99) dX7_parse_99 (lk_7_0 k0) (ll_7_0 k0) hf (fun _ hf => ?_)
            refine j_bipush (pc := 100) dX7_parse_100 (v := 44) (by decide) ?_
            refine j_icmp_ne (pc := 102) (tgt := 117) dX7_parse_102 (by decide) hf (fun _ hf => ?_) (fun _ hf => ?_)
            · refine j_sub [3, 4, 5, 0, 7] rfl ?_
              exact t_X7_parse_117 hdp hk17 k0 k2 hf
            · refine j_iload (pc := 105) 6 dX7_parse_105 rfl ?_
              refine j_iconst (pc := 107) dX7_parse_107 (v := 5) (by decide) ?_
              refine j_icmp_ge (pc := 108) (tgt := 117) dX7_parse_108 (by decide) hf (fun _ hf => ?_) (fun _ hf => ?_)
              · refine j_sub [3, 4, 5, 0, 7] rfl ?_
                exact t_X7_parse_117 hdp hk17 k0 k2 hf
              · refine j_iinc (pc := 111) 6 (c := 1) (lv' := fun v7 => [(5, .int v7), (6, .int v6), (9, .int q3.1), (8, .int q2.1), (0, .ref (ad a0)), (2, .ref (ad a2)), (4, .int x4), (7, .int x7)]) dX7_parse_111 rfl (by decide) (by decide) (fun _ => rfl) hf (fun v7 hf => ?_)
                refine j_goto (pc := 114) (tgt := 169) dX7_parse_114 (by decide) ?_
                refine j_sub [4, 5, 6, 0, 1, 7] rfl ?_
                exact t_X7_parse_169 hdp hk17 k0 k2 hf
          · refine j_iload (pc := 90) 7 dX7_parse_90 rfl ?_
            exact j_iret (pc := 92) dX7_parse_92 rfl hf
        · refine j_sub [6] rfl ?_
          exact t_X7_parse_54 hdp   hf
def f_X7_parse (a0 : Nat) (x1 : Int32) (a2 : Nat) (a3 : Nat) (h : Hp) : Option (Int32 × Hp) := (f_X3_copyFrom a2 a3 h).bind (fun q1 => lp (F := Nat → Nat → Int32 → Int32 → Int32 → Int32 → Hp → Option (Int32 × Hp)) (fun _ _ _ _ _ _ _ => none) (f_X7_parse_17) 1000 a0 a2 x1 0 0 1 q1.2)
set_option maxHeartbeats 4000000 in
set_option maxRecDepth 100000 in
theorem t_X7_parse {l : Launch} {D : va_G} {ad : Nat → Nat} {cA : Nat → ClassId} {d : Nat} (hdp : 2 ≤ d) {a0 : Nat} {x1 : Int32} {a2 : Nat} {a3 : Nat} (k0 : kd a0 = 7) (k2 : kd a2 = 3) (k3 : kd a3 = 3) {h : Hp} {o : Int32 × Hp} (hf : f_X7_parse a0 x1 a2 a3 h = some o) : Cr l D ad cA d yX7_parse cX7_parse 10 (some .int) [.ref (ad a0), .int x1, .ref (ad a2), .ref (ad a3)] h (some (.int o.1)) o.2 := by
  obtain ⟨d, rfl⟩ : ∃ e, d = e + 1 := ⟨d - 1, by omega⟩
  have hdp : 1 ≤ d := by omega
  unfold f_X7_parse at hf
  refine Cr_of (by decide +kernel) rfl (Nat.le_of_ble_eq_true rfl) (lv0 := [(0, .ref (ad a0)), (1, .int x1), (2, .ref (ad a2)), (3, .ref (ad a3))]) rfl ?_
  refine j_aload_n (pc := 0) 2 dX7_parse_0 rfl rfl ?_
  refine j_aload_n (pc := 1) 3 dX7_parse_1 rfl rfl ?_
  refine j_callVv (pc := 2) (d := d) (As := [.ref (ad a3)]) (st := []) dX7_parse_2 s442 k2 (by decide) rfl rfl (by decide) (Nat.le_of_ble_eq_true rfl) (fun q hq => t_X3_copyFrom (by omega) k2 k3 hq) hf (fun q1 hf => ?_)
  refine j_iload_n (pc := 5) 1 dX7_parse_5 rfl rfl ?_
  refine j_istore (pc := 6) (lv' := [(4, .int x1), (0, .ref (ad a0)), (1, .int x1), (2, .ref (ad a2)), (3, .ref (ad a3))]) dX7_parse_6 (by decide) rfl ?_
  refine j_iconst (pc := 8) dX7_parse_8 (v := 0) (by decide) ?_
  refine j_istore (pc := 9) (lv' := [(5, .int 0), (4, .int x1), (0, .ref (ad a0)), (1, .int x1), (2, .ref (ad a2)), (3, .ref (ad a3))]) dX7_parse_9 (by decide) rfl ?_
  refine j_iconst (pc := 11) dX7_parse_11 (v := 0) (by decide) ?_
  refine j_istore (pc := 12) (lv' := [(6, .int 0), (5, .int 0), (4, .int x1), (0, .ref (ad a0)), (1, .int x1), (2, .ref (ad a2)), (3, .ref (ad a3))]) dX7_parse_12 (by decide) rfl ?_
  refine j_iconst (pc := 14) dX7_parse_14 (v := 1) (by decide) ?_
  refine j_istore (pc := 15) (lv' := [(7, .int 1), (6, .int 0), (5, .int 0), (4, .int x1), (0, .ref (ad a0)), (1, .int x1), (2, .ref (ad a2)), (3, .ref (ad a3))]) dX7_parse_15 (by decide) rfl ?_
  refine j_sub [4, 6, 3, 2, 1, 0] rfl ?_
  exact t_X7_parse_17 hdp  1000 k0 k2 hf
def f_X8_image (a0 : Nat) (h : Hp) : Option (Int32 × Hp) := (f_X3_copyFrom (a0 + 6) (a0 + 1) h).bind (fun q1 => lt (sI q1.2 a0 10 1) (fun m2 => (f_X3_sumOfAll (a0 + 1) m2).bind (fun q3 => some (q3.1, q3.2))))
set_option maxHeartbeats 4000000 in
set_option maxRecDepth 100000 in
theorem t_X8_image {l : Launch} {D : va_G} {ad : Nat → Nat} {cA : Nat → ClassId} {d : Nat} (hdp : 2 ≤ d) {a0 : Nat} (k0 : kd a0 = 8) {h : Hp} {o : Int32 × Hp} (hf : f_X8_image a0 h = some o) : Cr l D ad cA d yX8_image cX8_image 1 (some .int) [.ref (ad a0)] h (some (.int o.1)) o.2 := by
  obtain ⟨d, rfl⟩ : ∃ e, d = e + 1 := ⟨d - 1, by omega⟩
  have hdp : 1 ≤ d := by omega
  unfold f_X8_image at hf
  refine Cr_of (by decide +kernel) rfl (Nat.le_of_ble_eq_true rfl) (lv0 := [(0, .ref (ad a0))]) rfl ?_
  refine j_aload_n (pc := 0) 0 dX8_image_0 rfl rfl ?_
  refine j_getR (pc := 1) (n := 6) dX8_image_1 fl333 k0 (by decide) rfl ?_
  refine j_aload_n (pc := 4) 0 dX8_image_4 rfl rfl ?_
  refine j_getR (pc := 5) (n := 1) dX8_image_5 fl332 k0 (by decide) rfl ?_
  refine j_callVv (pc := 8) (d := d) (As := [.ref (ad (a0 + 1))]) (st := []) dX8_image_8 s462 (lk_8_1 k0) (by decide) rfl rfl (by decide) (Nat.le_of_ble_eq_true rfl) (fun q hq => t_X3_copyFrom (by omega) (lk_8_1 k0) (lk_8_0 k0) hq) hf (fun q1 hf => ?_)
  refine j_aload_n (pc := 11) 0 dX8_image_11 rfl rfl ?_
  refine j_iconst (pc := 12) dX8_image_12 (v := 1) (by decide) ?_
  refine j_putZ (pc := 13) dX8_image_13 fl342 fp8_10 k0 (by decide) rfl (by decide) hf (fun m2 hf => ?_)
  refine j_aload_n (pc := 16) 0 dX8_image_16 rfl rfl ?_
  refine j_getR (pc := 17) (n := 1) dX8_image_17 fl332 k0 (by decide) rfl ?_
  refine j_callVi (pc := 20) (d := d) (As := []) (st := []) dX8_image_20 s385 (lk_8_0 k0) (by decide) rfl rfl (by decide) (Nat.le_of_ble_eq_true rfl) (fun q hq => t_X3_sumOfAll (lk_8_0 k0) hq) hf (fun q3 hf => ?_)
  exact j_iret (pc := 23) dX8_image_23 rfl hf
def f_X8_price (a0 : Nat) (x1 : Int32) (x2 : Int32) (x3 : Int32) (h : Hp) : Option (Int64 × Hp) := (f_X8_within x1 5 h).bind (fun q1 => if q1.1 = 0 then (some ((-9223372036854775808), q1.2)) else (if x2 < 1 then (some ((-9223372036854775808), q1.2)) else (if 60 < x2 then (some ((-9223372036854775808), q1.2)) else ((f_X8_within x3 1 q1.2).bind (fun q2 => if q2.1 = 0 then (some ((-9223372036854775808), q2.2)) else (if (q2.2.1 (a0 + 1) 5) = 6 then (some ((-9223372036854775808), q2.2)) else ((f_X3_totalOf (a0 + 1) x1 q2.2).bind (fun q3 => (f_X3_priceAbove (a0 + 1) (q2.2.1 (a0 + 1) 5) (Int32.toInt64 q3.1) x2 q3.2).bind (fun q4 => (f_X3_markAbove (a0 + 1) (q4.2.1 (a0 + 1) 5) x2 q4.2).bind (fun q5 => (f_X8_lowest q4.1 q5.1 x3 q5.2).bind (fun q6 => some (q6.1, q6.2))))))))))))
set_option maxHeartbeats 4000000 in
set_option maxRecDepth 100000 in
theorem t_X8_price {l : Launch} {D : va_G} {ad : Nat → Nat} {cA : Nat → ClassId} {d : Nat} (hdp : 2 ≤ d) {a0 : Nat} {x1 : Int32} {x2 : Int32} {x3 : Int32} (k0 : kd a0 = 8) {h : Hp} {o : Int64 × Hp} (hf : f_X8_price a0 x1 x2 x3 h = some o) : Cr l D ad cA d yX8_price cX8_price 6 (some .long) [.ref (ad a0), .int x1, .int x2, .int x3] h (some (.long o.1)) o.2 := by
  obtain ⟨d, rfl⟩ : ∃ e, d = e + 1 := ⟨d - 1, by omega⟩
  have hdp : 1 ≤ d := by omega
  unfold f_X8_price at hf
  refine Cr_of (by decide +kernel) rfl (Nat.le_of_ble_eq_true rfl) (lv0 := [(0, .ref (ad a0)), (1, .int x1), (2, .int x2), (3, .int x3)]) rfl ?_
  refine j_iload_n (pc := 0) 1 dX8_price_0 rfl rfl ?_
  refine j_iconst (pc := 1) dX8_price_1 (v := 5) (by decide) ?_
  refine j_callSi (pc := 2) (d := d) (As := [.int x1, .int 5]) (st := []) dX8_price_2 s370 rfl rfl (by decide) (Nat.le_of_ble_eq_true rfl) (fun q hq => t_X8_within  hq) hf (fun q1 hf => ?_)
  refine j_if_eq (pc := 5) (tgt := 27) dX8_price_5 (by decide) hf (fun _ hf => ?_) (fun _ hf => ?_)
  · refine j_ldc2_w (pc := 27) dX8_price_27 (v := -9223372036854775808) w_c598 ?_
    exact j_lret (pc := 30) dX8_price_30 rfl hf
  · refine j_iload_n (pc := 8) 2 dX8_price_8 rfl rfl ?_
    refine j_iconst (pc := 9) dX8_price_9 (v := 1) (by decide) ?_
    refine j_icmp_lt (pc := 10) (tgt := 27) dX8_price_10 (by decide) hf (fun _ hf => ?_) (fun _ hf => ?_)
    · refine j_ldc2_w (pc := 27) dX8_price_27 (v := -9223372036854775808) w_c598 ?_
      exact j_lret (pc := 30) dX8_price_30 rfl hf
    · refine j_iload_n (pc := 13) 2 dX8_price_13 rfl rfl ?_
      refine j_bipush (pc := 14) dX8_price_14 (v := 60) (by decide) ?_
      refine j_icmp_gt (pc := 16) (tgt := 27) dX8_price_16 (by decide) hf (fun _ hf => ?_) (fun _ hf => ?_)
      · refine j_ldc2_w (pc := 27) dX8_price_27 (v := -9223372036854775808) w_c598 ?_
        exact j_lret (pc := 30) dX8_price_30 rfl hf
      · refine j_iload_n (pc := 19) 3 dX8_price_19 rfl rfl ?_
        refine j_iconst (pc := 20) dX8_price_20 (v := 1) (by decide) ?_
        refine j_callSi (pc := 21) (d := d) (As := [.int x3, .int 1]) (st := []) dX8_price_21 s370 rfl rfl (by decide) (Nat.le_of_ble_eq_true rfl) (fun q hq => t_X8_within  hq) hf (fun q2 hf => ?_)
        refine j_if_ne (pc := 24) (tgt := 31) dX8_price_24 (by decide) hf (fun _ hf => ?_) (fun _ hf => ?_)
        · refine j_aload_n (pc := 31) 0 dX8_price_31 rfl rfl ?_
          refine j_getR (pc := 32) (n := 1) dX8_price_32 fl332 k0 (by decide) rfl ?_
          refine j_getI (pc := 35) dX8_price_35 fl117 (lk_8_0 k0) (by decide) rfl ?_
          refine j_bipush (pc := 38) dX8_price_38 (v := 6) (by decide) ?_
          refine j_icmp_ne (pc := 40) (tgt := 47) dX8_price_40 (by decide) hf (fun _ hf => ?_) (fun _ hf => ?_)
          · refine j_aload_n (pc := 47) 0 dX8_price_47 rfl rfl ?_
            refine j_getR (pc := 48) (n := 1) dX8_price_48 fl332 k0 (by decide) rfl ?_
            refine j_aload_n (pc := 51) 0 dX8_price_51 rfl rfl ?_
            refine j_getR (pc := 52) (n := 1) dX8_price_52 fl332 k0 (by decide) rfl ?_
            refine j_getI (pc := 55) dX8_price_55 fl117 (lk_8_0 k0) (by decide) rfl ?_
            refine j_aload_n (pc := 58) 0 dX8_price_58 rfl rfl ?_
            refine j_getR (pc := 59) (n := 1) dX8_price_59 fl332 k0 (by decide) rfl ?_
            refine j_iload_n (pc := 62) 1 dX8_price_62 rfl rfl ?_
            refine j_callVi (pc := 63) (d := d) (As := [.int x1]) (st := [.int (q2.2.1 (a0 + 1) 5), .ref (ad (a0 + 1))]) dX8_price_63 s389 (lk_8_0 k0) (by decide) rfl rfl (by decide) (Nat.le_of_ble_eq_true rfl) (fun q hq => t_X3_totalOf (by omega) (lk_8_0 k0) hq) hf (fun q3 hf => ?_)
            refine j_i2l (pc := 66) dX8_price_66  ?_
            refine j_iload_n (pc := 67) 2 dX8_price_67 rfl rfl ?_
            refine j_callVl (pc := 68) (d := d) (As := [.int (q2.2.1 (a0 + 1) 5), .long (Int32.toInt64 q3.1), .int x2]) (st := []) dX8_price_68 s599 (lk_8_0 k0) (by decide) rfl rfl (by decide) (Nat.le_of_ble_eq_true rfl) (fun q hq => t_X3_priceAbove (lk_8_0 k0) hq) hf (fun q4 hf => ?_)
            refine j_lstore (pc := 71) (lv' := [(4, .long q4.1), (0, .ref (ad a0)), (1, .int x1), (2, .int x2), (3, .int x3)]) dX8_price_71 (by decide) rfl ?_
            refine j_lload (pc := 73) 0 dX8_price_73 rfl ?_
            refine j_aload_n (pc := 75) 1 dX8_price_75 rfl rfl ?_
            refine j_getR (pc := 76) (n := 1) dX8_price_76 fl332 k0 (by decide) rfl ?_
            refine j_aload_n (pc := 79) 1 dX8_price_79 rfl rfl ?_
            refine j_getR (pc := 80) (n := 1) dX8_price_80 fl332 k0 (by decide) rfl ?_
            refine j_getI (pc := 83) dX8_price_83 fl117 (lk_8_0 k0) (by decide) rfl ?_
            refine j_iload_n (pc := 86) 3 dX8_price_86 rfl rfl ?_
            refine j_callVl (pc := 87) (d := d) (As := [.int (q4.2.1 (a0 + 1) 5), .int x2]) (st := [.long q4.1]) dX8_price_87 s600 (lk_8_0 k0) (by decide) rfl rfl (by decide) (Nat.le_of_ble_eq_true rfl) (fun q hq => t_X3_markAbove (lk_8_0 k0) hq) hf (fun q5 hf => ?_)
            refine j_iload_n (pc := 90) 4 dX8_price_90 rfl rfl ?_
            refine j_callSl (pc := 91) (d := d) (As := [.long q4.1, .long q5.1, .int x3]) (st := []) dX8_price_91 s601 rfl rfl (by decide) (Nat.le_of_ble_eq_true rfl) (fun q hq => t_X8_lowest (by omega)  hq) hf (fun q6 hf => ?_)
            exact j_lret (pc := 94) dX8_price_94 rfl hf
          · refine j_ldc2_w (pc := 43) dX8_price_43 (v := -9223372036854775808) w_c598 ?_
            exact j_lret (pc := 46) dX8_price_46 rfl hf
        · refine j_ldc2_w (pc := 27) dX8_price_27 (v := -9223372036854775808) w_c598 ?_
          exact j_lret (pc := 30) dX8_price_30 rfl hf
