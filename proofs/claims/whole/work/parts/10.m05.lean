def f_X9_paper (a0 : Nat) (x1 : Int32) (h : Hp) : Option (Int32 × Hp) := (f_X9_within (Int32.toInt64 x1) 0 (Int32.toInt64 ((h.1 a0 28) - 1)) h).bind (fun q1 => if q1.1 = 0 then (some ((-1), q1.2)) else (if ix x1 96 = true then (some (q1.2.1 (a0 + 19) (Int32.toNatClampNeg x1), q1.2)) else none))
set_option maxHeartbeats 4000000 in
set_option maxRecDepth 100000 in
theorem t_X9_paper {l : Launch} {D : va_G} {ad : Nat → Nat} {cA : Nat → ClassId} {d : Nat} (hdp : 1 ≤ d) {a0 : Nat} {x1 : Int32} (k0 : kd a0 = 9) {h : Hp} {o : Int32 × Hp} (hf : f_X9_paper a0 x1 h = some o) : Cr l D ad cA d yX9_paper cX9_paper 2 (some .int) [.ref (ad a0), .int x1] h (some (.int o.1)) o.2 := by
  obtain ⟨d, rfl⟩ : ∃ e, d = e + 1 := ⟨d - 1, by omega⟩
  have hdp : 0 ≤ d := by omega
  unfold f_X9_paper at hf
  refine Cr_of (by decide +kernel) rfl (Nat.le_of_ble_eq_true rfl) (lv0 := [(0, .ref (ad a0)), (1, .int x1)]) rfl ?_
  refine j_iload_n (pc := 0) 1 dX9_paper_0 rfl rfl ?_
  refine j_i2l (pc := 1) dX9_paper_1  ?_
  refine j_lconst (pc := 2) dX9_paper_2 (v := 0) rfl ?_
  refine j_aload_n (pc := 3) 0 dX9_paper_3 rfl rfl ?_
  refine j_getI (pc := 4) dX9_paper_4 fl874 k0 (by decide) rfl ?_
  refine j_iconst (pc := 7) dX9_paper_7 (v := 1) (by decide) ?_
  refine j_isub (pc := 8) dX9_paper_8  ?_
  refine j_i2l (pc := 9) dX9_paper_9  ?_
  refine j_callSi (pc := 10) (d := d) (As := [.long (Int32.toInt64 x1), .long 0, .long (Int32.toInt64 ((h.1 a0 28) - 1))]) (st := []) dX9_paper_10 s982 rfl rfl (by decide) (Nat.le_of_ble_eq_true rfl) (fun q hq => t_X9_within  hq) hf (fun q1 hf => ?_)
  refine j_if_eq (pc := 13) (tgt := 25) dX9_paper_13 (by decide) hf (fun _ hf => ?_) (fun _ hf => ?_)
  · refine j_iconst (pc := 25) dX9_paper_25 (v := -1) (by decide) ?_
    exact j_iret (pc := 26) dX9_paper_26 rfl hf
  · refine j_aload_n (pc := 16) 0 dX9_paper_16 rfl rfl ?_
    refine j_getR (pc := 17) (n := 19) dX9_paper_17 fl873 k0 (by decide) rfl ?_
    refine j_iload_n (pc := 20) 1 dX9_paper_20 rfl rfl ?_
    refine j_iaload (pc := 21) dX9_paper_21 (lk_9_27 k0) (ll_9_27 k0) hf (fun _ hf => ?_)
    refine j_goto (pc := 22) (tgt := 26) dX9_paper_22 (by decide) ?_
    exact j_iret (pc := 26) dX9_paper_26 rfl hf
def f_X9_product_153 (k112 : Nat → Nat → Int32 → Int64 → Int32 → Hp → Option (Int64 × Hp)) (a0 : Nat) (a1 : Nat) (x2 : Int32) (x5 : Int32) (y0 : Int32) (y1 : Int32) (b2 : Nat) (y3 : Int64) (b4 : Nat) (h : Hp) : Option (Int64 × Hp) := (f_X9_above b2 y1 y0 h).bind (fun q9 => (f_X9_times b4 y3 (Int32.toInt64 q9.1) q9.2).bind (fun q10 => lt (x5 + 1) (fun v11 => k112 a0 a1 x2 q10.1 v11 q10.2)))
set_option maxHeartbeats 4000000 in
set_option maxRecDepth 100000 in
theorem t_X9_product_153 {l : Launch} {D : va_G} {ad : Nat → Nat} {cA : Nat → ClassId} {d : Nat} (hdp : 0 ≤ d) {o : Int64 × Hp} {k112 : Nat → Nat → Int32 → Int64 → Int32 → Hp → Option (Int64 × Hp)} (hk112 : ∀ {a0 : Nat} {a1 : Nat} {x2 : Int32} {x3 : Int64} {x5 : Int32} (k0 : kd a0 = 9) (k1 : kd a1 = 10) {h : Hp}, k112 a0 a1 x2 x3 x5 h = some o → J l D ad cA (fun _ => True) (rmd (d + 1)) (0, 0) (mQ D ad cA (some (.long o.1)) o.2) cX9_product RX9 6 (some .long) 112 [(0, .ref (ad a0)), (1, .ref (ad a1)), (2, .int x2), (3, .long x3), (5, .int x5)] [] h) {a0 : Nat} {a1 : Nat} {x2 : Int32} {x5 : Int32} {y0 : Int32} {y1 : Int32} {b2 : Nat} {y3 : Int64} {b4 : Nat} (k0 : kd a0 = 9) (k1 : kd a1 = 10) (kb2 : kd b2 = 9) (kb4 : kd b4 = 9) {h : Hp} (hf : f_X9_product_153 k112 a0 a1 x2 x5 y0 y1 b2 y3 b4 h = some o) : J l D ad cA (fun _ => True) (rmd (d + 1)) (0, 0) (mQ D ad cA (some (.long o.1)) o.2) cX9_product RX9 6 (some .long) 153 [(0, .ref (ad a0)), (1, .ref (ad a1)), (2, .int x2), (5, .int x5)] [.int y0, .int y1, .ref (ad b2), .long y3, .ref (ad b4)] h := by
  unfold f_X9_product_153 at hf
  refine j_callVi (pc := 153) (d := d) (As := [.int y1, .int y0]) (st := [.long y3, .ref (ad b4)]) dX9_product_153 s1083 kb2 (by decide) rfl rfl (by decide) (Nat.le_of_ble_eq_true rfl) (fun q hq => t_X9_above kb2 hq) hf (fun q9 hf => ?_)
  refine j_i2l (pc := 156) dX9_product_156  ?_
  refine j_callVl (pc := 157) (d := d) (As := [.long y3, .long (Int32.toInt64 q9.1)]) (st := []) dX9_product_157 s1312 kb4 (by decide) rfl rfl (by decide) (Nat.le_of_ble_eq_true rfl) (fun q hq => t_X9_times kb4 hq) hf (fun q10 hf => ?_)
  refine j_lstore_n (pc := 160) (lv' := [(3, .long q10.1), (0, .ref (ad a0)), (1, .ref (ad a1)), (2, .int x2), (5, .int x5)]) dX9_product_160 rfl (by decide) rfl ?_
  refine j_iinc (pc := 161) 4 (c := 1) (lv' := fun v11 => [(5, .int v11), (3, .long q10.1), (0, .ref (ad a0)), (1, .ref (ad a1)), (2, .int x2)]) dX9_product_161 rfl (by decide) (by decide) (fun _ => rfl) hf (fun v11 hf => ?_)
  refine j_goto (pc := 164) (tgt := 112) dX9_product_164 (by decide) ?_
  refine j_sub [2, 3, 4, 1, 0] rfl ?_
  exact hk112 k0 k1 hf
def f_X9_product_112 (k112 : Nat → Nat → Int32 → Int64 → Int32 → Hp → Option (Int64 × Hp)) (a0 : Nat) (a1 : Nat) (x2 : Int32) (x3 : Int64) (x5 : Int32) (h : Hp) : Option (Int64 × Hp) := if (h.1 a0 35) ≤ x5 then (some (x3, h)) else ((f_X9_wayNow a0 h).bind (fun q6 => if x2 = 0 then ((f_X9_gains a0 x5 q6.2).bind (fun q7 => if ix q7.1 (ln a1) = true then (f_X9_product_153 k112 a0 a1 x2 x5 ((q7.2.1 a1 (Int32.toNatClampNeg q7.1)) + 1) q6.1 a0 x3 a0 q7.2) else none)) else ((f_X9_givesUp a0 x5 q6.2).bind (fun q8 => if ix q8.1 (ln a1) = true then (f_X9_product_153 k112 a0 a1 x2 x5 (q8.2.1 a1 (Int32.toNatClampNeg q8.1)) q6.1 a0 x3 a0 q8.2) else none))))
set_option maxHeartbeats 4000000 in
set_option maxRecDepth 100000 in
theorem t_X9_product_112 {l : Launch} {D : va_G} {ad : Nat → Nat} {cA : Nat → ClassId} {d : Nat} (hdp : 0 ≤ d) {o : Int64 × Hp}  : ∀ (n : Nat) {a0 : Nat} {a1 : Nat} {x2 : Int32} {x3 : Int64} {x5 : Int32} (k0 : kd a0 = 9) (k1 : kd a1 = 10) {h : Hp}, lp (F := Nat → Nat → Int32 → Int64 → Int32 → Hp → Option (Int64 × Hp)) (fun _ _ _ _ _ _ => none) (f_X9_product_112) n a0 a1 x2 x3 x5 h = some o → J l D ad cA (fun _ => True) (rmd (d + 1)) (0, 0) (mQ D ad cA (some (.long o.1)) o.2) cX9_product RX9 6 (some .long) 112 [(0, .ref (ad a0)), (1, .ref (ad a1)), (2, .int x2), (3, .long x3), (5, .int x5)] [] h := by
  intro n
  induction n with
  | zero =>
    intro a0 a1 x2 x3 x5 k0 k1 h hf
    have hf : (none : Option (Int64 × Hp)) = some o := hf
    cases hf
  | succ n hk112 =>
    intro a0 a1 x2 x3 x5 k0 k1 h hf
    have hf : f_X9_product_112  (lp (F := Nat → Nat → Int32 → Int64 → Int32 → Hp → Option (Int64 × Hp)) (fun _ _ _ _ _ _ => none) (f_X9_product_112) n) a0 a1 x2 x3 x5 h = some o := hf
    unfold f_X9_product_112 at hf
    refine j_iload (pc := 112) 4 dX9_product_112 rfl ?_
    refine j_aload_n (pc := 114) 0 dX9_product_114 rfl rfl ?_
    refine j_getI (pc := 115) dX9_product_115 fl881 k0 (by decide) rfl ?_
    refine j_icmp_ge (pc := 118) (tgt := 167) dX9_product_118 (by decide) hf (fun _ hf => ?_) (fun _ hf => ?_)
    · refine j_lload_n (pc := 167) 3 dX9_product_167 rfl rfl ?_
      exact j_lret (pc := 168) dX9_product_168 rfl hf
    · refine j_aload_n (pc := 121) 0 dX9_product_121 rfl rfl ?_
      refine j_lload_n (pc := 122) 3 dX9_product_122 rfl rfl ?_
      refine j_aload_n (pc := 123) 0 dX9_product_123 rfl rfl ?_
      refine j_aload_n (pc := 124) 0 dX9_product_124 rfl rfl ?_
      refine j_callVi (pc := 125) (d := d) (As := []) (st := [.ref (ad a0), .long x3, .ref (ad a0)]) dX9_product_125 s1079 k0 (by decide) rfl rfl (by decide) (Nat.le_of_ble_eq_true rfl) (fun q hq => t_X9_wayNow k0 hq) hf (fun q6 hf => ?_)
      refine j_iload_n (pc := 128) 2 dX9_product_128 rfl rfl ?_
      refine j_if_eq (pc := 129) (tgt := 143) dX9_product_129 (by decide) hf (fun _ hf => ?_) (fun _ hf => ?_)
      · refine j_aload_n (pc := 143) 1 dX9_product_143 rfl rfl ?_
        refine j_aload_n (pc := 144) 0 dX9_product_144 rfl rfl ?_
        refine j_iload (pc := 145) 4 dX9_product_145 rfl ?_
        refine j_callVi (pc := 147) (d := d) (As := [.int x5]) (st := [.ref (ad a1), .int q6.1, .ref (ad a0), .long x3, .ref (ad a0)]) dX9_product_147 s1304 k0 (by decide) rfl rfl (by decide) (Nat.le_of_ble_eq_true rfl) (fun q hq => t_X9_gains k0 hq) hf (fun q7 hf => ?_)
        refine j_iaload (pc := 150) dX9_product_150 k1 rfl hf (fun _ hf => ?_)
        refine j_iconst (pc := 151) dX9_product_151 (v := 1) (by decide) ?_
        refine j_iadd (pc := 152) dX9_product_152  ?_
        refine j_sub [0, 1, 2, 4] rfl ?_
        exact t_X9_product_153 hdp hk112 k0 k1 k0 k0 hf
      · refine j_aload_n (pc := 132) 1 dX9_product_132 rfl rfl ?_
        refine j_aload_n (pc := 133) 0 dX9_product_133 rfl rfl ?_
        refine j_iload (pc := 134) 4 dX9_product_134 rfl ?_
        refine j_callVi (pc := 136) (d := d) (As := [.int x5]) (st := [.ref (ad a1), .int q6.1, .ref (ad a0), .long x3, .ref (ad a0)]) dX9_product_136 s1308 k0 (by decide) rfl rfl (by decide) (Nat.le_of_ble_eq_true rfl) (fun q hq => t_X9_givesUp k0 hq) hf (fun q8 hf => ?_)
        refine j_iaload (pc := 139) dX9_product_139 k1 rfl hf (fun _ hf => ?_)
        refine j_goto (pc := 140) (tgt := 153) dX9_product_140 (by decide) ?_
        refine j_sub [0, 1, 2, 4] rfl ?_
        exact t_X9_product_153 hdp hk112 k0 k1 k0 k0 hf
def f_X9_product_95 (k54 : Nat → Nat → Int32 → Int64 → Int32 → Hp → Option (Int64 × Hp)) (a0 : Nat) (a1 : Nat) (x2 : Int32) (x5 : Int32) (y0 : Int32) (y1 : Int32) (b2 : Nat) (y3 : Int64) (b4 : Nat) (h : Hp) : Option (Int64 × Hp) := (f_X9_below b2 y1 y0 h).bind (fun q12 => (f_X9_times b4 y3 (Int32.toInt64 q12.1) q12.2).bind (fun q13 => lt (x5 + 1) (fun v14 => k54 a0 a1 x2 q13.1 v14 q13.2)))
set_option maxHeartbeats 4000000 in
set_option maxRecDepth 100000 in
theorem t_X9_product_95 {l : Launch} {D : va_G} {ad : Nat → Nat} {cA : Nat → ClassId} {d : Nat} (hdp : 0 ≤ d) {o : Int64 × Hp} {k54 : Nat → Nat → Int32 → Int64 → Int32 → Hp → Option (Int64 × Hp)} (hk54 : ∀ {a0 : Nat} {a1 : Nat} {x2 : Int32} {x3 : Int64} {x5 : Int32} (k0 : kd a0 = 9) (k1 : kd a1 = 10) {h : Hp}, k54 a0 a1 x2 x3 x5 h = some o → J l D ad cA (fun _ => True) (rmd (d + 1)) (0, 0) (mQ D ad cA (some (.long o.1)) o.2) cX9_product RX9 6 (some .long) 54 [(0, .ref (ad a0)), (1, .ref (ad a1)), (2, .int x2), (3, .long x3), (5, .int x5)] [] h) {a0 : Nat} {a1 : Nat} {x2 : Int32} {x5 : Int32} {y0 : Int32} {y1 : Int32} {b2 : Nat} {y3 : Int64} {b4 : Nat} (k0 : kd a0 = 9) (k1 : kd a1 = 10) (kb2 : kd b2 = 9) (kb4 : kd b4 = 9) {h : Hp} (hf : f_X9_product_95 k54 a0 a1 x2 x5 y0 y1 b2 y3 b4 h = some o) : J l D ad cA (fun _ => True) (rmd (d + 1)) (0, 0) (mQ D ad cA (some (.long o.1)) o.2) cX9_product RX9 6 (some .long) 95 [(0, .ref (ad a0)), (1, .ref (ad a1)), (2, .int x2), (5, .int x5)] [.int y0, .int y1, .ref (ad b2), .long y3, .ref (ad b4)] h := by
  unfold f_X9_product_95 at hf
  refine j_callVi (pc := 95) (d := d) (As := [.int y1, .int y0]) (st := [.long y3, .ref (ad b4)]) dX9_product_95 s1092 kb2 (by decide) rfl rfl (by decide) (Nat.le_of_ble_eq_true rfl) (fun q hq => t_X9_below kb2 hq) hf (fun q12 hf => ?_)
  refine j_i2l (pc := 98) dX9_product_98  ?_
  refine j_callVl (pc := 99) (d := d) (As := [.long y3, .long (Int32.toInt64 q12.1)]) (st := []) dX9_product_99 s1312 kb4 (by decide) rfl rfl (by decide) (Nat.le_of_ble_eq_true rfl) (fun q hq => t_X9_times kb4 hq) hf (fun q13 hf => ?_)
  refine j_lstore_n (pc := 102) (lv' := [(3, .long q13.1), (0, .ref (ad a0)), (1, .ref (ad a1)), (2, .int x2), (5, .int x5)]) dX9_product_102 rfl (by decide) rfl ?_
  refine j_iinc (pc := 103) 4 (c := 1) (lv' := fun v14 => [(5, .int v14), (3, .long q13.1), (0, .ref (ad a0)), (1, .ref (ad a1)), (2, .int x2)]) dX9_product_103 rfl (by decide) (by decide) (fun _ => rfl) hf (fun v14 hf => ?_)
  refine j_goto (pc := 106) (tgt := 54) dX9_product_106 (by decide) ?_
  refine j_sub [2, 3, 4, 1, 0] rfl ?_
  exact hk54 k0 k1 hf
def f_X9_product_54 (k54 : Nat → Nat → Int32 → Int64 → Int32 → Hp → Option (Int64 × Hp)) (a0 : Nat) (a1 : Nat) (x2 : Int32) (x3 : Int64) (x5 : Int32) (h : Hp) : Option (Int64 × Hp) := if (h.1 a0 35) ≤ x5 then (lp (F := Nat → Nat → Int32 → Int64 → Int32 → Hp → Option (Int64 × Hp)) (fun _ _ _ _ _ _ => none) (f_X9_product_112) 1000 a0 a1 x2 x3 0 h) else ((f_X9_wayNow a0 h).bind (fun q3 => if x2 = 0 then ((f_X9_givesUp a0 x5 q3.2).bind (fun q4 => if ix q4.1 (ln a1) = true then (f_X9_product_95 k54 a0 a1 x2 x5 (q4.2.1 a1 (Int32.toNatClampNeg q4.1)) q3.1 a0 x3 a0 q4.2) else none)) else ((f_X9_gains a0 x5 q3.2).bind (fun q5 => if ix q5.1 (ln a1) = true then (f_X9_product_95 k54 a0 a1 x2 x5 ((q5.2.1 a1 (Int32.toNatClampNeg q5.1)) + 1) q3.1 a0 x3 a0 q5.2) else none))))
set_option maxHeartbeats 4000000 in
set_option maxRecDepth 100000 in
theorem t_X9_product_54 {l : Launch} {D : va_G} {ad : Nat → Nat} {cA : Nat → ClassId} {d : Nat} (hdp : 0 ≤ d) {o : Int64 × Hp}  : ∀ (n : Nat) {a0 : Nat} {a1 : Nat} {x2 : Int32} {x3 : Int64} {x5 : Int32} (k0 : kd a0 = 9) (k1 : kd a1 = 10) {h : Hp}, lp (F := Nat → Nat → Int32 → Int64 → Int32 → Hp → Option (Int64 × Hp)) (fun _ _ _ _ _ _ => none) (f_X9_product_54) n a0 a1 x2 x3 x5 h = some o → J l D ad cA (fun _ => True) (rmd (d + 1)) (0, 0) (mQ D ad cA (some (.long o.1)) o.2) cX9_product RX9 6 (some .long) 54 [(0, .ref (ad a0)), (1, .ref (ad a1)), (2, .int x2), (3, .long x3), (5, .int x5)] [] h := by
  intro n
  induction n with
  | zero =>
    intro a0 a1 x2 x3 x5 k0 k1 h hf
    have hf : (none : Option (Int64 × Hp)) = some o := hf
    cases hf
  | succ n hk54 =>
    intro a0 a1 x2 x3 x5 k0 k1 h hf
    have hf : f_X9_product_54  (lp (F := Nat → Nat → Int32 → Int64 → Int32 → Hp → Option (Int64 × Hp)) (fun _ _ _ _ _ _ => none) (f_X9_product_54) n) a0 a1 x2 x3 x5 h = some o := hf
    unfold f_X9_product_54 at hf
    refine j_iload (pc := 54) 4 dX9_product_54 rfl ?_
    refine j_aload_n (pc := 56) 0 dX9_product_56 rfl rfl ?_
    refine j_getI (pc := 57) dX9_product_57 fl881 k0 (by decide) rfl ?_
    refine j_icmp_ge (pc := 60) (tgt := 109) dX9_product_60 (by decide) hf (fun _ hf => ?_) (fun _ hf => ?_)
    · refine j_iconst (pc := 109) dX9_product_109 (v := 0) (by decide) ?_
      refine j_istore (pc := 110) (lv' := [(5, .int 0), (0, .ref (ad a0)), (1, .ref (ad a1)), (2, .int x2), (3, .long x3)]) dX9_product_110 (by decide) rfl ?_
      refine j_sub [1, 2, 3, 4, 0] rfl ?_
      exact t_X9_product_112 hdp  1000 k0 k1 hf
    · refine j_aload_n (pc := 63) 0 dX9_product_63 rfl rfl ?_
      refine j_lload_n (pc := 64) 3 dX9_product_64 rfl rfl ?_
      refine j_aload_n (pc := 65) 0 dX9_product_65 rfl rfl ?_
      refine j_aload_n (pc := 66) 0 dX9_product_66 rfl rfl ?_
      refine j_callVi (pc := 67) (d := d) (As := []) (st := [.ref (ad a0), .long x3, .ref (ad a0)]) dX9_product_67 s1079 k0 (by decide) rfl rfl (by decide) (Nat.le_of_ble_eq_true rfl) (fun q hq => t_X9_wayNow k0 hq) hf (fun q3 hf => ?_)
      refine j_iload_n (pc := 70) 2 dX9_product_70 rfl rfl ?_
      refine j_if_eq (pc := 71) (tgt := 87) dX9_product_71 (by decide) hf (fun _ hf => ?_) (fun _ hf => ?_)
      · refine j_aload_n (pc := 87) 1 dX9_product_87 rfl rfl ?_
        refine j_aload_n (pc := 88) 0 dX9_product_88 rfl rfl ?_
        refine j_iload (pc := 89) 4 dX9_product_89 rfl ?_
        refine j_callVi (pc := 91) (d := d) (As := [.int x5]) (st := [.ref (ad a1), .int q3.1, .ref (ad a0), .long x3, .ref (ad a0)]) dX9_product_91 s1308 k0 (by decide) rfl rfl (by decide) (Nat.le_of_ble_eq_true rfl) (fun q hq => t_X9_givesUp k0 hq) hf (fun q4 hf => ?_)
        refine j_iaload (pc := 94) dX9_product_94 k1 rfl hf (fun _ hf => ?_)
        refine j_sub [0, 1, 2, 4] rfl ?_
        exact t_X9_product_95 hdp hk54 k0 k1 k0 k0 hf
      · refine j_aload_n (pc := 74) 1 dX9_product_74 rfl rfl ?_
        refine j_aload_n (pc := 75) 0 dX9_product_75 rfl rfl ?_
        refine j_iload (pc := 76) 4 dX9_product_76 rfl ?_
        refine j_callVi (pc := 78) (d := d) (As := [.int x5]) (st := [.ref (ad a1), .int q3.1, .ref (ad a0), .long x3, .ref (ad a0)]) dX9_product_78 s1304 k0 (by decide) rfl rfl (by decide) (Nat.le_of_ble_eq_true rfl) (fun q hq => t_X9_gains k0 hq) hf (fun q5 hf => ?_)
        refine j_iaload (pc := 81) dX9_product_81 k1 rfl hf (fun _ hf => ?_)
        refine j_iconst (pc := 82) dX9_product_82 (v := 1) (by decide) ?_
        refine j_iadd (pc := 83) dX9_product_83  ?_
        refine j_goto (pc := 84) (tgt := 95) dX9_product_84 (by decide) ?_
        refine j_sub [0, 1, 2, 4] rfl ?_
        exact t_X9_product_95 hdp hk54 k0 k1 k0 k0 hf
def f_X9_product_39 (k5 : Nat → Nat → Int32 → Int64 → Int32 → Hp → Option (Int64 × Hp)) (a0 : Nat) (a1 : Nat) (x2 : Int32) (x5 : Int32) (y0 : Int32) (b1 : Nat) (y2 : Int64) (b3 : Nat) (h : Hp) : Option (Int64 × Hp) := if ix y0 44 = true then ((f_X9_times b3 y2 (Int32.toInt64 (h.1 b1 (Int32.toNatClampNeg y0))) h).bind (fun q15 => lt (x5 + 1) (fun v16 => k5 a0 a1 x2 q15.1 v16 q15.2))) else none
set_option maxHeartbeats 4000000 in
set_option maxRecDepth 100000 in
theorem t_X9_product_39 {l : Launch} {D : va_G} {ad : Nat → Nat} {cA : Nat → ClassId} {d : Nat} (hdp : 0 ≤ d) {o : Int64 × Hp} {k5 : Nat → Nat → Int32 → Int64 → Int32 → Hp → Option (Int64 × Hp)} (hk5 : ∀ {a0 : Nat} {a1 : Nat} {x2 : Int32} {x3 : Int64} {x5 : Int32} (k0 : kd a0 = 9) (k1 : kd a1 = 10) {h : Hp}, k5 a0 a1 x2 x3 x5 h = some o → J l D ad cA (fun _ => True) (rmd (d + 1)) (0, 0) (mQ D ad cA (some (.long o.1)) o.2) cX9_product RX9 6 (some .long) 5 [(0, .ref (ad a0)), (1, .ref (ad a1)), (2, .int x2), (3, .long x3), (5, .int x5)] [] h) {a0 : Nat} {a1 : Nat} {x2 : Int32} {x5 : Int32} {y0 : Int32} {b1 : Nat} {y2 : Int64} {b3 : Nat} (k0 : kd a0 = 9) (k1 : kd a1 = 10) (kb1 : kd b1 = 10) (nb1 : ln b1 = 44) (kb3 : kd b3 = 9) {h : Hp} (hf : f_X9_product_39 k5 a0 a1 x2 x5 y0 b1 y2 b3 h = some o) : J l D ad cA (fun _ => True) (rmd (d + 1)) (0, 0) (mQ D ad cA (some (.long o.1)) o.2) cX9_product RX9 6 (some .long) 39 [(0, .ref (ad a0)), (1, .ref (ad a1)), (2, .int x2), (5, .int x5)] [.int y0, .ref (ad b1), .long y2, .ref (ad b3)] h := by
  unfold f_X9_product_39 at hf
  refine j_iaload (pc := 39) dX9_product_39 kb1 nb1 hf (fun _ hf => ?_)
  refine j_i2l (pc := 40) dX9_product_40  ?_
  refine j_callVl (pc := 41) (d := d) (As := [.long y2, .long (Int32.toInt64 (h.1 b1 (Int32.toNatClampNeg y0)))]) (st := []) dX9_product_41 s1312 kb3 (by decide) rfl rfl (by decide) (Nat.le_of_ble_eq_true rfl) (fun q hq => t_X9_times kb3 hq) hf (fun q15 hf => ?_)
  refine j_lstore_n (pc := 44) (lv' := [(3, .long q15.1), (0, .ref (ad a0)), (1, .ref (ad a1)), (2, .int x2), (5, .int x5)]) dX9_product_44 rfl (by decide) rfl ?_
  refine j_iinc (pc := 45) 4 (c := 1) (lv' := fun v16 => [(5, .int v16), (3, .long q15.1), (0, .ref (ad a0)), (1, .ref (ad a1)), (2, .int x2)]) dX9_product_45 rfl (by decide) (by decide) (fun _ => rfl) hf (fun v16 hf => ?_)
  refine j_goto (pc := 48) (tgt := 5) dX9_product_48 (by decide) ?_
  refine j_sub [2, 3, 4, 1, 0] rfl ?_
  exact hk5 k0 k1 hf
def f_X9_product_5 (k5 : Nat → Nat → Int32 → Int64 → Int32 → Hp → Option (Int64 × Hp)) (a0 : Nat) (a1 : Nat) (x2 : Int32) (x3 : Int64) (x5 : Int32) (h : Hp) : Option (Int64 × Hp) := if (h.1 a0 35) ≤ x5 then (lp (F := Nat → Nat → Int32 → Int64 → Int32 → Hp → Option (Int64 × Hp)) (fun _ _ _ _ _ _ => none) (f_X9_product_54) 1000 a0 a1 x2 x3 0 h) else (if x2 = 0 then ((f_X9_givesUp a0 x5 h).bind (fun q1 => f_X9_product_39 k5 a0 a1 x2 x5 q1.1 (a0 + 1) x3 a0 q1.2)) else ((f_X9_gains a0 x5 h).bind (fun q2 => f_X9_product_39 k5 a0 a1 x2 x5 q2.1 (a0 + 1) x3 a0 q2.2)))
set_option maxHeartbeats 4000000 in
set_option maxRecDepth 100000 in
theorem t_X9_product_5 {l : Launch} {D : va_G} {ad : Nat → Nat} {cA : Nat → ClassId} {d : Nat} (hdp : 0 ≤ d) {o : Int64 × Hp}  : ∀ (n : Nat) {a0 : Nat} {a1 : Nat} {x2 : Int32} {x3 : Int64} {x5 : Int32} (k0 : kd a0 = 9) (k1 : kd a1 = 10) {h : Hp}, lp (F := Nat → Nat → Int32 → Int64 → Int32 → Hp → Option (Int64 × Hp)) (fun _ _ _ _ _ _ => none) (f_X9_product_5) n a0 a1 x2 x3 x5 h = some o → J l D ad cA (fun _ => True) (rmd (d + 1)) (0, 0) (mQ D ad cA (some (.long o.1)) o.2) cX9_product RX9 6 (some .long) 5 [(0, .ref (ad a0)), (1, .ref (ad a1)), (2, .int x2), (3, .long x3), (5, .int x5)] [] h := by
  intro n
  induction n with
  | zero =>
    intro a0 a1 x2 x3 x5 k0 k1 h hf
    have hf : (none : Option (Int64 × Hp)) = some o := hf
    cases hf
  | succ n hk5 =>
    intro a0 a1 x2 x3 x5 k0 k1 h hf
    have hf : f_X9_product_5  (lp (F := Nat → Nat → Int32 → Int64 → Int32 → Hp → Option (Int64 × Hp)) (fun _ _ _ _ _ _ => none) (f_X9_product_5) n) a0 a1 x2 x3 x5 h = some o := hf
    unfold f_X9_product_5 at hf
    refine j_iload (pc := 5) 4 dX9_product_5 rfl ?_
    refine j_aload_n (pc := 7) 0 dX9_product_7 rfl rfl ?_
    refine j_getI (pc := 8) dX9_product_8 fl881 k0 (by decide) rfl ?_
    refine j_icmp_ge (pc := 11) (tgt := 51) dX9_product_11 (by decide) hf (fun _ hf => ?_) (fun _ hf => ?_)
    · refine j_iconst (pc := 51) dX9_product_51 (v := 0) (by decide) ?_
      refine j_istore (pc := 52) (lv' := [(5, .int 0), (0, .ref (ad a0)), (1, .ref (ad a1)), (2, .int x2), (3, .long x3)]) dX9_product_52 (by decide) rfl ?_
      refine j_sub [1, 2, 3, 4, 0] rfl ?_
      exact t_X9_product_54 hdp  1000 k0 k1 hf
    · refine j_aload_n (pc := 14) 0 dX9_product_14 rfl rfl ?_
      refine j_lload_n (pc := 15) 3 dX9_product_15 rfl rfl ?_
      refine j_aload_n (pc := 16) 0 dX9_product_16 rfl rfl ?_
      refine j_getR (pc := 17) (n := 1) dX9_product_17 fl846 k0 (by decide) rfl ?_
      refine j_iload_n (pc := 20) 2 dX9_product_20 rfl rfl ?_
      refine j_if_eq (pc := 21) (tgt := 33) dX9_product_21 (by decide) hf (fun _ hf => ?_) (fun _ hf => ?_)
      · refine j_aload_n (pc := 33) 0 dX9_product_33 rfl rfl ?_
        refine j_iload (pc := 34) 4 dX9_product_34 rfl ?_
        refine j_callVi (pc := 36) (d := d) (As := [.int x5]) (st := [.ref (ad (a0 + 1)), .long x3, .ref (ad a0)]) dX9_product_36 s1308 k0 (by decide) rfl rfl (by decide) (Nat.le_of_ble_eq_true rfl) (fun q hq => t_X9_givesUp k0 hq) hf (fun q1 hf => ?_)
        refine j_sub [0, 1, 2, 4] rfl ?_
        exact t_X9_product_39 hdp hk5 k0 k1 (lk_9_0 k0) (ll_9_0 k0) k0 hf
      · refine j_aload_n (pc := 24) 0 dX9_product_24 rfl rfl ?_
        refine j_iload (pc := 25) 4 dX9_product_25 rfl ?_
        refine j_callVi (pc := 27) (d := d) (As := [.int x5]) (st := [.ref (ad (a0 + 1)), .long x3, .ref (ad a0)]) dX9_product_27 s1304 k0 (by decide) rfl rfl (by decide) (Nat.le_of_ble_eq_true rfl) (fun q hq => t_X9_gains k0 hq) hf (fun q2 hf => ?_)
        refine j_goto (pc := 30) (tgt := 39) dX9_product_30 (by decide) ?_
        refine j_sub [0, 1, 2, 4] rfl ?_
        exact t_X9_product_39 hdp hk5 k0 k1 (lk_9_0 k0) (ll_9_0 k0) k0 hf
def f_X9_product (a0 : Nat) (a1 : Nat) (x2 : Int32) (h : Hp) : Option (Int64 × Hp) := lp (F := Nat → Nat → Int32 → Int64 → Int32 → Hp → Option (Int64 × Hp)) (fun _ _ _ _ _ _ => none) (f_X9_product_5) 1000 a0 a1 x2 1 0 h
set_option maxHeartbeats 4000000 in
set_option maxRecDepth 100000 in
theorem t_X9_product {l : Launch} {D : va_G} {ad : Nat → Nat} {cA : Nat → ClassId} {d : Nat} (hdp : 1 ≤ d) {a0 : Nat} {a1 : Nat} {x2 : Int32} (k0 : kd a0 = 9) (k1 : kd a1 = 10) {h : Hp} {o : Int64 × Hp} (hf : f_X9_product a0 a1 x2 h = some o) : Cr l D ad cA d yX9_product cX9_product 6 (some .long) [.ref (ad a0), .ref (ad a1), .int x2] h (some (.long o.1)) o.2 := by
  obtain ⟨d, rfl⟩ : ∃ e, d = e + 1 := ⟨d - 1, by omega⟩
  have hdp : 0 ≤ d := by omega
  unfold f_X9_product at hf
  refine Cr_of (by decide +kernel) rfl (Nat.le_of_ble_eq_true rfl) (lv0 := [(0, .ref (ad a0)), (1, .ref (ad a1)), (2, .int x2)]) rfl ?_
  refine j_lconst (pc := 0) dX9_product_0 (v := 1) rfl ?_
  refine j_lstore_n (pc := 1) (lv' := [(3, .long 1), (0, .ref (ad a0)), (1, .ref (ad a1)), (2, .int x2)]) dX9_product_1 rfl (by decide) rfl ?_
  refine j_iconst (pc := 2) dX9_product_2 (v := 0) (by decide) ?_
  refine j_istore (pc := 3) (lv' := [(5, .int 0), (3, .long 1), (0, .ref (ad a0)), (1, .ref (ad a1)), (2, .int x2)]) dX9_product_3 (by decide) rfl ?_
  refine j_sub [2, 3, 4, 1, 0] rfl ?_
  exact t_X9_product_5 hdp  1000 k0 k1 hf
def f_X9_tell (a0 : Nat) (x1 : Int32) (x2 : Int32) (h : Hp) : Option (Int32 × Hp) := (f_X9_within (Int32.toInt64 x1) 0 99 h).bind (fun q1 => if q1.1 = 0 then (some ((-2), q1.2)) else ((f_X9_within (Int32.toInt64 x2) 1 99 q1.2).bind (fun q2 => if q2.1 = 0 then (some ((-2), q2.2)) else (if x1 ≤ x2 then ((f_X9_tells a0 42 x1 q2.2).bind (fun q3 => (f_X9_tells a0 43 x2 q3.2).bind (fun q4 => some (1, q4.2)))) else (some ((-2), q2.2))))))
set_option maxHeartbeats 4000000 in
set_option maxRecDepth 100000 in
theorem t_X9_tell {l : Launch} {D : va_G} {ad : Nat → Nat} {cA : Nat → ClassId} {d : Nat} (hdp : 1 ≤ d) {a0 : Nat} {x1 : Int32} {x2 : Int32} (k0 : kd a0 = 9) {h : Hp} {o : Int32 × Hp} (hf : f_X9_tell a0 x1 x2 h = some o) : Cr l D ad cA d yX9_tell cX9_tell 3 (some .int) [.ref (ad a0), .int x1, .int x2] h (some (.int o.1)) o.2 := by
  obtain ⟨d, rfl⟩ : ∃ e, d = e + 1 := ⟨d - 1, by omega⟩
  have hdp : 0 ≤ d := by omega
  unfold f_X9_tell at hf
  refine Cr_of (by decide +kernel) rfl (Nat.le_of_ble_eq_true rfl) (lv0 := [(0, .ref (ad a0)), (1, .int x1), (2, .int x2)]) rfl ?_
  refine j_iload_n (pc := 0) 1 dX9_tell_0 rfl rfl ?_
  refine j_i2l (pc := 1) dX9_tell_1  ?_
  refine j_lconst (pc := 2) dX9_tell_2 (v := 0) rfl ?_
  refine j_ldc2_w (pc := 3) dX9_tell_3 (v := 99) w_c1042 ?_
  refine j_callSi (pc := 6) (d := d) (As := [.long (Int32.toInt64 x1), .long 0, .long 99]) (st := []) dX9_tell_6 s982 rfl rfl (by decide) (Nat.le_of_ble_eq_true rfl) (fun q hq => t_X9_within  hq) hf (fun q1 hf => ?_)
  refine j_if_eq (pc := 9) (tgt := 29) dX9_tell_9 (by decide) hf (fun _ hf => ?_) (fun _ hf => ?_)
  · refine j_bipush (pc := 29) dX9_tell_29 (v := -2) (by decide) ?_
    exact j_iret (pc := 31) dX9_tell_31 rfl hf
  · refine j_iload_n (pc := 12) 2 dX9_tell_12 rfl rfl ?_
    refine j_i2l (pc := 13) dX9_tell_13  ?_
    refine j_lconst (pc := 14) dX9_tell_14 (v := 1) rfl ?_
    refine j_ldc2_w (pc := 15) dX9_tell_15 (v := 99) w_c1042 ?_
    refine j_callSi (pc := 18) (d := d) (As := [.long (Int32.toInt64 x2), .long 1, .long 99]) (st := []) dX9_tell_18 s982 rfl rfl (by decide) (Nat.le_of_ble_eq_true rfl) (fun q hq => t_X9_within  hq) hf (fun q2 hf => ?_)
    refine j_if_eq (pc := 21) (tgt := 29) dX9_tell_21 (by decide) hf (fun _ hf => ?_) (fun _ hf => ?_)
    · refine j_bipush (pc := 29) dX9_tell_29 (v := -2) (by decide) ?_
      exact j_iret (pc := 31) dX9_tell_31 rfl hf
    · refine j_iload_n (pc := 24) 1 dX9_tell_24 rfl rfl ?_
      refine j_iload_n (pc := 25) 2 dX9_tell_25 rfl rfl ?_
      refine j_icmp_le (pc := 26) (tgt := 32) dX9_tell_26 (by decide) hf (fun _ hf => ?_) (fun _ hf => ?_)
      · refine j_aload_n (pc := 32) 0 dX9_tell_32 rfl rfl ?_
        refine j_bipush (pc := 33) dX9_tell_33 (v := 42) (by decide) ?_
        refine j_iload_n (pc := 35) 1 dX9_tell_35 rfl rfl ?_
        refine j_callVi (pc := 36) (d := d) (As := [.int 42, .int x1]) (st := []) dX9_tell_36 s990 k0 (by decide) rfl rfl (by decide) (Nat.le_of_ble_eq_true rfl) (fun q hq => t_X9_tells k0 hq) hf (fun q3 hf => ?_)
        refine j_pop (pc := 39) dX9_tell_39 rfl ?_
        refine j_aload_n (pc := 40) 0 dX9_tell_40 rfl rfl ?_
        refine j_bipush (pc := 41) dX9_tell_41 (v := 43) (by decide) ?_
        refine j_iload_n (pc := 43) 2 dX9_tell_43 rfl rfl ?_
        refine j_callVi (pc := 44) (d := d) (As := [.int 43, .int x2]) (st := []) dX9_tell_44 s990 k0 (by decide) rfl rfl (by decide) (Nat.le_of_ble_eq_true rfl) (fun q hq => t_X9_tells k0 hq) hf (fun q4 hf => ?_)
        refine j_pop (pc := 47) dX9_tell_47 rfl ?_
        refine j_iconst (pc := 48) dX9_tell_48 (v := 1) (by decide) ?_
        exact j_iret (pc := 49) dX9_tell_49 rfl hf
      · refine j_bipush (pc := 29) dX9_tell_29 (v := -2) (by decide) ?_
        exact j_iret (pc := 31) dX9_tell_31 rfl hf
def f_X9_top (a0 : Nat) (x1 : Int32) (x2 : Int64) (x4 : Int32) (h : Hp) : Option (Int64 × Hp) := if x1 = 3 then (some (x2 * x2, h)) else ((f_X9_below a0 x1 x4 h).bind (fun q1 => some (x2 * (Int32.toInt64 q1.1), q1.2)))
set_option maxHeartbeats 4000000 in
set_option maxRecDepth 100000 in
theorem t_X9_top {l : Launch} {D : va_G} {ad : Nat → Nat} {cA : Nat → ClassId} {d : Nat} (hdp : 1 ≤ d) {a0 : Nat} {x1 : Int32} {x2 : Int64} {x4 : Int32} (k0 : kd a0 = 9) {h : Hp} {o : Int64 × Hp} (hf : f_X9_top a0 x1 x2 x4 h = some o) : Cr l D ad cA d yX9_top cX9_top 5 (some .long) [.ref (ad a0), .int x1, .long x2, .int x4] h (some (.long o.1)) o.2 := by
  obtain ⟨d, rfl⟩ : ∃ e, d = e + 1 := ⟨d - 1, by omega⟩
  have hdp : 0 ≤ d := by omega
  unfold f_X9_top at hf
  refine Cr_of (by decide +kernel) rfl (Nat.le_of_ble_eq_true rfl) (lv0 := [(0, .ref (ad a0)), (1, .int x1), (2, .long x2), (4, .int x4)]) rfl ?_
  refine j_iload_n (pc := 0) 1 dX9_top_0 rfl rfl ?_
  refine j_iconst (pc := 1) dX9_top_1 (v := 3) (by decide) ?_
  refine j_icmp_ne (pc := 2) (tgt := 11) dX9_top_2 (by decide) hf (fun _ hf => ?_) (fun _ hf => ?_)
  · refine j_lload_n (pc := 11) 2 dX9_top_11 rfl rfl ?_
    refine j_aload_n (pc := 12) 0 dX9_top_12 rfl rfl ?_
    refine j_iload_n (pc := 13) 1 dX9_top_13 rfl rfl ?_
    refine j_iload (pc := 14) 3 dX9_top_14 rfl ?_
    refine j_callVi (pc := 16) (d := d) (As := [.int x1, .int x4]) (st := [.long x2]) dX9_top_16 s1092 k0 (by decide) rfl rfl (by decide) (Nat.le_of_ble_eq_true rfl) (fun q hq => t_X9_below k0 hq) hf (fun q1 hf => ?_)
    refine j_i2l (pc := 19) dX9_top_19  ?_
    refine j_lmul (pc := 20) dX9_top_20  ?_
    exact j_lret (pc := 21) dX9_top_21 rfl hf
  · refine j_lload_n (pc := 5) 2 dX9_top_5 rfl rfl ?_
    refine j_lload_n (pc := 6) 2 dX9_top_6 rfl rfl ?_
    refine j_lmul (pc := 7) dX9_top_7  ?_
    refine j_goto (pc := 8) (tgt := 21) dX9_top_8 (by decide) ?_
    exact j_lret (pc := 21) dX9_top_21 rfl hf
def f_X9_total_4 (k4 : Nat → Int32 → Int32 → Int32 → Hp → Option (Int32 × Hp)) (a0 : Nat) (x1 : Int32) (x2 : Int32) (x3 : Int32) (h : Hp) : Option (Int32 × Hp) := if 4 ≤ x3 then (some (x2, h)) else ((f_X9_votesOf a0 x3 x1 h).bind (fun q1 => lt (x2 + q1.1) (fun v2 => lt (x3 + 1) (fun v3 => k4 a0 x1 v2 v3 q1.2))))
set_option maxHeartbeats 4000000 in
set_option maxRecDepth 100000 in
theorem t_X9_total_4 {l : Launch} {D : va_G} {ad : Nat → Nat} {cA : Nat → ClassId} {d : Nat} (hdp : 0 ≤ d) {o : Int32 × Hp}  : ∀ (n : Nat) {a0 : Nat} {x1 : Int32} {x2 : Int32} {x3 : Int32} (k0 : kd a0 = 9) {h : Hp}, lp (F := Nat → Int32 → Int32 → Int32 → Hp → Option (Int32 × Hp)) (fun _ _ _ _ _ => none) (f_X9_total_4) n a0 x1 x2 x3 h = some o → J l D ad cA (fun _ => True) (rmd (d + 1)) (0, 0) (mQ D ad cA (some (.int o.1)) o.2) cX9_total RX9 4 (some .int) 4 [(0, .ref (ad a0)), (1, .int x1), (2, .int x2), (3, .int x3)] [] h := by
  intro n
  induction n with
  | zero =>
    intro a0 x1 x2 x3 k0 h hf
    have hf : (none : Option (Int32 × Hp)) = some o := hf
    cases hf
  | succ n hk4 =>
    intro a0 x1 x2 x3 k0 h hf
    have hf : f_X9_total_4  (lp (F := Nat → Int32 → Int32 → Int32 → Hp → Option (Int32 × Hp)) (fun _ _ _ _ _ => none) (f_X9_total_4) n) a0 x1 x2 x3 h = some o := hf
    unfold f_X9_total_4 at hf
    refine j_iload_n (pc := 4) 3 dX9_total_4 rfl rfl ?_
    refine j_iconst (pc := 5) dX9_total_5 (v := 4) (by decide) ?_
    refine j_icmp_ge (pc := 6) (tgt := 24) dX9_total_6 (by decide) hf (fun _ hf => ?_) (fun _ hf => ?_)
    · refine j_iload_n (pc := 24) 2 dX9_total_24 rfl rfl ?_
      exact j_iret (pc := 25) dX9_total_25 rfl hf
    · refine j_iload_n (pc := 9) 2 dX9_total_9 rfl rfl ?_
      refine j_aload_n (pc := 10) 0 dX9_total_10 rfl rfl ?_
      refine j_iload_n (pc := 11) 3 dX9_total_11 rfl rfl ?_
      refine j_iload_n (pc := 12) 1 dX9_total_12 rfl rfl ?_
      refine j_callVi (pc := 13) (d := d) (As := [.int x3, .int x1]) (st := [.int x2]) dX9_total_13 s1006 k0 (by decide) rfl rfl (by decide) (Nat.le_of_ble_eq_true rfl) (fun q hq => t_X9_votesOf k0 hq) hf (fun q1 hf => ?_)
      refine j_iadd (pc := 16) dX9_total_16  ?_
      refine j_istore_nN (pc := 17) (lv' := fun v2 => [(2, .int v2), (0, .ref (ad a0)), (1, .int x1), (3, .int x3)]) dX9_total_17 rfl (by decide) (fun _ => rfl) hf (fun v2 hf => ?_)
      refine j_iinc (pc := 18) 3 (c := 1) (lv' := fun v3 => [(3, .int v3), (2, .int v2), (0, .ref (ad a0)), (1, .int x1)]) dX9_total_18 rfl (by decide) (by decide) (fun _ => rfl) hf (fun v3 hf => ?_)
      refine j_goto (pc := 21) (tgt := 4) dX9_total_21 (by decide) ?_
      refine j_sub [2, 3, 1, 0] rfl ?_
      exact hk4 k0 hf
def f_X9_total (a0 : Nat) (x1 : Int32) (h : Hp) : Option (Int32 × Hp) := lp (F := Nat → Int32 → Int32 → Int32 → Hp → Option (Int32 × Hp)) (fun _ _ _ _ _ => none) (f_X9_total_4) 1000 a0 x1 0 0 h
set_option maxHeartbeats 4000000 in
set_option maxRecDepth 100000 in
theorem t_X9_total {l : Launch} {D : va_G} {ad : Nat → Nat} {cA : Nat → ClassId} {d : Nat} (hdp : 1 ≤ d) {a0 : Nat} {x1 : Int32} (k0 : kd a0 = 9) {h : Hp} {o : Int32 × Hp} (hf : f_X9_total a0 x1 h = some o) : Cr l D ad cA d yX9_total cX9_total 4 (some .int) [.ref (ad a0), .int x1] h (some (.int o.1)) o.2 := by
  obtain ⟨d, rfl⟩ : ∃ e, d = e + 1 := ⟨d - 1, by omega⟩
  have hdp : 0 ≤ d := by omega
  unfold f_X9_total at hf
  refine Cr_of (by decide +kernel) rfl (Nat.le_of_ble_eq_true rfl) (lv0 := [(0, .ref (ad a0)), (1, .int x1)]) rfl ?_
  refine j_iconst (pc := 0) dX9_total_0 (v := 0) (by decide) ?_
  refine j_istore_n (pc := 1) (lv' := [(2, .int 0), (0, .ref (ad a0)), (1, .int x1)]) dX9_total_1 rfl (by decide) rfl ?_
  refine j_iconst (pc := 2) dX9_total_2 (v := 0) (by decide) ?_
  refine j_istore_n (pc := 3) (lv' := [(3, .int 0), (2, .int 0), (0, .ref (ad a0)), (1, .int x1)]) dX9_total_3 rfl (by decide) rfl ?_
  refine j_sub [2, 3, 1, 0] rfl ?_
  exact t_X9_total_4 hdp  1000 k0 hf
def f_X9_wardsWithSeats_25 (k4 : Nat → Int32 → Int32 → Hp → Option (Int32 × Hp)) (a0 : Nat) (x2 : Int32) (y0 : Int32) (y1 : Int32) (h : Hp) : Option (Int32 × Hp) := lt (y1 ||| y0) (fun v2 => lt (x2 + 1) (fun v3 => k4 a0 v2 v3 h))
set_option maxHeartbeats 4000000 in
set_option maxRecDepth 100000 in
theorem t_X9_wardsWithSeats_25 {l : Launch} {D : va_G} {ad : Nat → Nat} {cA : Nat → ClassId} {d : Nat} (hdp : 0 ≤ d) {o : Int32 × Hp} {k4 : Nat → Int32 → Int32 → Hp → Option (Int32 × Hp)} (hk4 : ∀ {a0 : Nat} {x1 : Int32} {x2 : Int32} (k0 : kd a0 = 9) {h : Hp}, k4 a0 x1 x2 h = some o → J l D ad cA (fun _ => True) (rmd (d + 1)) (0, 0) (mQ D ad cA (some (.int o.1)) o.2) cX9_wardsWithSeats RX9 3 (some .int) 4 [(0, .ref (ad a0)), (1, .int x1), (2, .int x2)] [] h) {a0 : Nat} {x2 : Int32} {y0 : Int32} {y1 : Int32} (k0 : kd a0 = 9) {h : Hp} (hf : f_X9_wardsWithSeats_25 k4 a0 x2 y0 y1 h = some o) : J l D ad cA (fun _ => True) (rmd (d + 1)) (0, 0) (mQ D ad cA (some (.int o.1)) o.2) cX9_wardsWithSeats RX9 3 (some .int) 25 [(0, .ref (ad a0)), (2, .int x2)] [.int y0, .int y1] h := by
  unfold f_X9_wardsWithSeats_25 at hf
  refine j_ior (pc := 25) dX9_wardsWithSeats_25  ?_
  refine j_istore_nN (pc := 26) (lv' := fun v2 => [(1, .int v2), (0, .ref (ad a0)), (2, .int x2)]) dX9_wardsWithSeats_26 rfl (by decide) (fun _ => rfl) hf (fun v2 hf => ?_)
  refine j_iinc (pc := 27) 2 (c := 1) (lv' := fun v3 => [(2, .int v3), (1, .int v2), (0, .ref (ad a0))]) dX9_wardsWithSeats_27 rfl (by decide) (by decide) (fun _ => rfl) hf (fun v3 hf => ?_)
  refine j_goto (pc := 30) (tgt := 4) dX9_wardsWithSeats_30 (by decide) ?_
  refine j_sub [2, 1, 0] rfl ?_
  exact hk4 k0 hf
def f_X9_wardsWithSeats_4 (k4 : Nat → Int32 → Int32 → Hp → Option (Int32 × Hp)) (a0 : Nat) (x1 : Int32) (x2 : Int32) (h : Hp) : Option (Int32 × Hp) := if 4 ≤ x2 then (some (x1, h)) else ((f_X9_seatsOf a0 x2 h).bind (fun q1 => if q1.1 ≤ 0 then (f_X9_wardsWithSeats_25 k4 a0 x2 0 x1 q1.2) else (f_X9_wardsWithSeats_25 k4 a0 x2 (1 <<< (x2 &&& 31)) x1 q1.2)))
set_option maxHeartbeats 4000000 in
set_option maxRecDepth 100000 in
theorem t_X9_wardsWithSeats_4 {l : Launch} {D : va_G} {ad : Nat → Nat} {cA : Nat → ClassId} {d : Nat} (hdp : 0 ≤ d) {o : Int32 × Hp}  : ∀ (n : Nat) {a0 : Nat} {x1 : Int32} {x2 : Int32} (k0 : kd a0 = 9) {h : Hp}, lp (F := Nat → Int32 → Int32 → Hp → Option (Int32 × Hp)) (fun _ _ _ _ => none) (f_X9_wardsWithSeats_4) n a0 x1 x2 h = some o → J l D ad cA (fun _ => True) (rmd (d + 1)) (0, 0) (mQ D ad cA (some (.int o.1)) o.2) cX9_wardsWithSeats RX9 3 (some .int) 4 [(0, .ref (ad a0)), (1, .int x1), (2, .int x2)] [] h := by
  intro n
  induction n with
  | zero =>
    intro a0 x1 x2 k0 h hf
    have hf : (none : Option (Int32 × Hp)) = some o := hf
    cases hf
  | succ n hk4 =>
    intro a0 x1 x2 k0 h hf
    have hf : f_X9_wardsWithSeats_4  (lp (F := Nat → Int32 → Int32 → Hp → Option (Int32 × Hp)) (fun _ _ _ _ => none) (f_X9_wardsWithSeats_4) n) a0 x1 x2 h = some o := hf
    unfold f_X9_wardsWithSeats_4 at hf
    refine j_iload_n (pc := 4) 2 dX9_wardsWithSeats_4 rfl rfl ?_
    refine j_iconst (pc := 5) dX9_wardsWithSeats_5 (v := 4) (by decide) ?_
    refine j_icmp_ge (pc := 6) (tgt := 33) dX9_wardsWithSeats_6 (by decide) hf (fun _ hf => ?_) (fun _ hf => ?_)
    · refine j_iload_n (pc := 33) 1 dX9_wardsWithSeats_33 rfl rfl ?_
      exact j_iret (pc := 34) dX9_wardsWithSeats_34 rfl hf
    · refine j_iload_n (pc := 9) 1 dX9_wardsWithSeats_9 rfl rfl ?_
      refine j_aload_n (pc := 10) 0 dX9_wardsWithSeats_10 rfl rfl ?_
      refine j_iload_n (pc := 11) 2 dX9_wardsWithSeats_11 rfl rfl ?_
      refine j_callVi (pc := 12) (d := d) (As := [.int x2]) (st := [.int x1]) dX9_wardsWithSeats_12 s1275 k0 (by decide) rfl rfl (by decide) (Nat.le_of_ble_eq_true rfl) (fun q hq => t_X9_seatsOf k0 hq) hf (fun q1 hf => ?_)
      refine j_if_le (pc := 15) (tgt := 24) dX9_wardsWithSeats_15 (by decide) hf (fun _ hf => ?_) (fun _ hf => ?_)
      · refine j_iconst (pc := 24) dX9_wardsWithSeats_24 (v := 0) (by decide) ?_
        refine j_sub [0, 2] rfl ?_
        exact t_X9_wardsWithSeats_25 hdp hk4 k0 hf
      · refine j_iconst (pc := 18) dX9_wardsWithSeats_18 (v := 1) (by decide) ?_
        refine j_iload_n (pc := 19) 2 dX9_wardsWithSeats_19 rfl rfl ?_
        refine j_ishl (pc := 20) dX9_wardsWithSeats_20  ?_
        refine j_goto (pc := 21) (tgt := 25) dX9_wardsWithSeats_21 (by decide) ?_
        refine j_sub [0, 2] rfl ?_
        exact t_X9_wardsWithSeats_25 hdp hk4 k0 hf
def f_X9_wardsWithSeats (a0 : Nat) (h : Hp) : Option (Int32 × Hp) := lp (F := Nat → Int32 → Int32 → Hp → Option (Int32 × Hp)) (fun _ _ _ _ => none) (f_X9_wardsWithSeats_4) 1000 a0 0 0 h
set_option maxHeartbeats 4000000 in
set_option maxRecDepth 100000 in
theorem t_X9_wardsWithSeats {l : Launch} {D : va_G} {ad : Nat → Nat} {cA : Nat → ClassId} {d : Nat} (hdp : 1 ≤ d) {a0 : Nat} (k0 : kd a0 = 9) {h : Hp} {o : Int32 × Hp} (hf : f_X9_wardsWithSeats a0 h = some o) : Cr l D ad cA d yX9_wardsWithSeats cX9_wardsWithSeats 3 (some .int) [.ref (ad a0)] h (some (.int o.1)) o.2 := by
  obtain ⟨d, rfl⟩ : ∃ e, d = e + 1 := ⟨d - 1, by omega⟩
  have hdp : 0 ≤ d := by omega
  unfold f_X9_wardsWithSeats at hf
  refine Cr_of (by decide +kernel) rfl (Nat.le_of_ble_eq_true rfl) (lv0 := [(0, .ref (ad a0))]) rfl ?_
  refine j_iconst (pc := 0) dX9_wardsWithSeats_0 (v := 0) (by decide) ?_
  refine j_istore_n (pc := 1) (lv' := [(1, .int 0), (0, .ref (ad a0))]) dX9_wardsWithSeats_1 rfl (by decide) rfl ?_
  refine j_iconst (pc := 2) dX9_wardsWithSeats_2 (v := 0) (by decide) ?_
  refine j_istore_n (pc := 3) (lv' := [(2, .int 0), (1, .int 0), (0, .ref (ad a0))]) dX9_wardsWithSeats_3 rfl (by decide) rfl ?_
  refine j_sub [2, 1, 0] rfl ?_
  exact t_X9_wardsWithSeats_4 hdp  1000 k0 hf
def f_X9_way (a0 : Nat) (x1 : Int32) (h : Hp) : Option (Int32 × Hp) := (f_X9_within (Int32.toInt64 x1) 0 6 h).bind (fun q1 => if q1.1 = 0 then (some ((-1), q1.2)) else ((f_X9_tells a0 41 x1 q1.2).bind (fun q2 => some (q2.1, q2.2))))
set_option maxHeartbeats 4000000 in
set_option maxRecDepth 100000 in
theorem t_X9_way {l : Launch} {D : va_G} {ad : Nat → Nat} {cA : Nat → ClassId} {d : Nat} (hdp : 1 ≤ d) {a0 : Nat} {x1 : Int32} (k0 : kd a0 = 9) {h : Hp} {o : Int32 × Hp} (hf : f_X9_way a0 x1 h = some o) : Cr l D ad cA d yX9_way cX9_way 2 (some .int) [.ref (ad a0), .int x1] h (some (.int o.1)) o.2 := by
  obtain ⟨d, rfl⟩ : ∃ e, d = e + 1 := ⟨d - 1, by omega⟩
  have hdp : 0 ≤ d := by omega
  unfold f_X9_way at hf
  refine Cr_of (by decide +kernel) rfl (Nat.le_of_ble_eq_true rfl) (lv0 := [(0, .ref (ad a0)), (1, .int x1)]) rfl ?_
  refine j_iload_n (pc := 0) 1 dX9_way_0 rfl rfl ?_
  refine j_i2l (pc := 1) dX9_way_1  ?_
  refine j_lconst (pc := 2) dX9_way_2 (v := 0) rfl ?_
  refine j_ldc2_w (pc := 3) dX9_way_3 (v := 6) w_c1037 ?_
  refine j_callSi (pc := 6) (d := d) (As := [.long (Int32.toInt64 x1), .long 0, .long 6]) (st := []) dX9_way_6 s982 rfl rfl (by decide) (Nat.le_of_ble_eq_true rfl) (fun q hq => t_X9_within  hq) hf (fun q1 hf => ?_)
  refine j_if_eq (pc := 9) (tgt := 22) dX9_way_9 (by decide) hf (fun _ hf => ?_) (fun _ hf => ?_)
  · refine j_iconst (pc := 22) dX9_way_22 (v := -1) (by decide) ?_
    exact j_iret (pc := 23) dX9_way_23 rfl hf
  · refine j_aload_n (pc := 12) 0 dX9_way_12 rfl rfl ?_
    refine j_bipush (pc := 13) dX9_way_13 (v := 41) (by decide) ?_
    refine j_iload_n (pc := 15) 1 dX9_way_15 rfl rfl ?_
    refine j_callVi (pc := 16) (d := d) (As := [.int 41, .int x1]) (st := []) dX9_way_16 s990 k0 (by decide) rfl rfl (by decide) (Nat.le_of_ble_eq_true rfl) (fun q hq => t_X9_tells k0 hq) hf (fun q2 hf => ?_)
    refine j_goto (pc := 19) (tgt := 23) dX9_way_19 (by decide) ?_
    exact j_iret (pc := 23) dX9_way_23 rfl hf
def f_X9_writesNumber_17  (a0 : Nat) (x1 : Int32) (h : Hp) : Option (Unit × Hp) := if 10 = 0 then none else ((f_X9_writes a0 (48 + (x1 - x1 / 10 * 10)) h).bind (fun q2 => some ((), q2.2)))
set_option maxHeartbeats 4000000 in
set_option maxRecDepth 100000 in
theorem t_X9_writesNumber_17 {l : Launch} {D : va_G} {ad : Nat → Nat} {cA : Nat → ClassId} {d : Nat} (hdp : 0 ≤ d) {o : Unit × Hp}  {a0 : Nat} {x1 : Int32} (k0 : kd a0 = 9) {h : Hp} (hf : f_X9_writesNumber_17  a0 x1 h = some o) : J l D ad cA (fun _ => True) (rmd (d + 1)) (0, 0) (mQ D ad cA (none) o.2) cX9_writesNumber RX9 2 (none) 17 [(0, .ref (ad a0)), (1, .int x1)] [] h := by
  unfold f_X9_writesNumber_17 at hf
  refine j_aload_n (pc := 17) 0 dX9_writesNumber_17 rfl rfl ?_
  refine j_bipush (pc := 18) dX9_writesNumber_18 (v := 48) (by decide) ?_
  refine j_iload_n (pc := 20) 1 dX9_writesNumber_20 rfl rfl ?_
  refine j_bipush (pc := 21) dX9_writesNumber_21 (v := 10) (by decide) ?_
  refine j_irem (pc := 23) dX9_writesNumber_23 hf (fun hf => ?_)
  refine j_iadd (pc := 24) dX9_writesNumber_24  ?_
  refine j_callVv (pc := 25) (d := d) (As := [.int (48 + (x1 - x1 / 10 * 10))]) (st := []) dX9_writesNumber_25 s1243 k0 (by decide) rfl rfl (by decide) (Nat.le_of_ble_eq_true rfl) (fun q hq => t_X9_writes k0 hq) hf (fun q2 hf => ?_)
  exact j_vret (pc := 28) dX9_writesNumber_28 rfl hf
def f_X9_writesNumber (a0 : Nat) (x1 : Int32) (h : Hp) : Option (Unit × Hp) := if x1 ≤ 9 then (f_X9_writesNumber_17  a0 x1 h) else (if 10 = 0 then none else ((f_X9_writes a0 (48 + (x1 / 10)) h).bind (fun q1 => f_X9_writesNumber_17  a0 x1 q1.2)))
set_option maxHeartbeats 4000000 in
set_option maxRecDepth 100000 in
theorem t_X9_writesNumber {l : Launch} {D : va_G} {ad : Nat → Nat} {cA : Nat → ClassId} {d : Nat} (hdp : 1 ≤ d) {a0 : Nat} {x1 : Int32} (k0 : kd a0 = 9) {h : Hp} {o : Unit × Hp} (hf : f_X9_writesNumber a0 x1 h = some o) : Cr l D ad cA d yX9_writesNumber cX9_writesNumber 2 (none) [.ref (ad a0), .int x1] h (none) o.2 := by
  obtain ⟨d, rfl⟩ : ∃ e, d = e + 1 := ⟨d - 1, by omega⟩
  have hdp : 0 ≤ d := by omega
  unfold f_X9_writesNumber at hf
  refine Cr_of (by decide +kernel) rfl (Nat.le_of_ble_eq_true rfl) (lv0 := [(0, .ref (ad a0)), (1, .int x1)]) rfl ?_
  refine j_iload_n (pc := 0) 1 dX9_writesNumber_0 rfl rfl ?_
  refine j_bipush (pc := 1) dX9_writesNumber_1 (v := 9) (by decide) ?_
  refine j_icmp_le (pc := 3) (tgt := 17) dX9_writesNumber_3 (by decide) hf (fun _ hf => ?_) (fun _ hf => ?_)
  · refine j_sub [0, 1] rfl ?_
    exact t_X9_writesNumber_17 hdp  k0 hf
  · refine j_aload_n (pc := 6) 0 dX9_writesNumber_6 rfl rfl ?_
    refine j_bipush (pc := 7) dX9_writesNumber_7 (v := 48) (by decide) ?_
    refine j_iload_n (pc := 9) 1 dX9_writesNumber_9 rfl rfl ?_
    refine j_bipush (pc := 10) dX9_writesNumber_10 (v := 10) (by decide) ?_
    refine j_idiv (pc := 12) dX9_writesNumber_12 hf (fun hf => ?_)
    refine j_iadd (pc := 13) dX9_writesNumber_13  ?_
    refine j_callVv (pc := 14) (d := d) (As := [.int (48 + (x1 / 10))]) (st := []) dX9_writesNumber_14 s1243 k0 (by decide) rfl rfl (by decide) (Nat.le_of_ble_eq_true rfl) (fun q hq => t_X9_writes k0 hq) hf (fun q1 hf => ?_)
    refine j_sub [0, 1] rfl ?_
    exact t_X9_writesNumber_17 hdp  k0 hf
def f_X0_dearest_90 (k4 : Nat → Int32 → Int32 → Hp → Option (Int32 × Hp)) (a0 : Nat) (x1 : Int32) (x2 : Int32) (h : Hp) : Option (Int32 × Hp) := lt (x2 + 1) (fun v3 => k4 a0 x1 v3 h)
set_option maxHeartbeats 4000000 in
set_option maxRecDepth 100000 in
theorem t_X0_dearest_90 {l : Launch} {D : va_G} {ad : Nat → Nat} {cA : Nat → ClassId} {d : Nat} (hdp : 1 ≤ d) {o : Int32 × Hp} {k4 : Nat → Int32 → Int32 → Hp → Option (Int32 × Hp)} (hk4 : ∀ {a0 : Nat} {x1 : Int32} {x2 : Int32} (k0 : kd a0 = 0) {h : Hp}, k4 a0 x1 x2 h = some o → J l D ad cA (fun _ => True) (rmd (d + 1)) (0, 0) (mQ D ad cA (some (.int o.1)) o.2) cX0_dearest RX0 4 (some .int) 4 [(0, .ref (ad a0)), (1, .int x1), (2, .int x2)] [] h) {a0 : Nat} {x1 : Int32} {x2 : Int32} (k0 : kd a0 = 0) {h : Hp} (hf : f_X0_dearest_90 k4 a0 x1 x2 h = some o) : J l D ad cA (fun _ => True) (rmd (d + 1)) (0, 0) (mQ D ad cA (some (.int o.1)) o.2) cX0_dearest RX0 4 (some .int) 90 [(0, .ref (ad a0)), (1, .int x1), (2, .int x2)] [] h := by
  unfold f_X0_dearest_90 at hf
  refine j_iinc (pc := 90) 2 (c := 1) (lv' := fun v3 => [(2, .int v3), (0, .ref (ad a0)), (1, .int x1)]) dX0_dearest_90 rfl (by decide) (by decide) (fun _ => rfl) hf (fun v3 hf => ?_)
  refine j_goto (pc := 93) (tgt := 4) dX0_dearest_93 (by decide) ?_
  refine j_sub [1, 2, 0] rfl ?_
  exact hk4 k0 hf
def f_X0_dearest_59 (k4 : Nat → Int32 → Int32 → Hp → Option (Int32 × Hp)) (a0 : Nat) (x1 : Int32) (x2 : Int32) (y0 : Int32) (h : Hp) : Option (Int32 × Hp) := if y0 ≤ 0 then (if y0 = 0 then (lt (sI h a0 3 ((h.1 a0 3) ||| (1 <<< (x2 &&& 31)))) (fun m4 => f_X0_dearest_90 k4 a0 x1 x2 m4)) else (f_X0_dearest_90 k4 a0 x1 x2 h)) else (lt (sI h a0 3 0) (fun m5 => f_X0_dearest_90 k4 a0 x2 x2 m5))
set_option maxHeartbeats 4000000 in
set_option maxRecDepth 100000 in
theorem t_X0_dearest_59 {l : Launch} {D : va_G} {ad : Nat → Nat} {cA : Nat → ClassId} {d : Nat} (hdp : 1 ≤ d) {o : Int32 × Hp} {k4 : Nat → Int32 → Int32 → Hp → Option (Int32 × Hp)} (hk4 : ∀ {a0 : Nat} {x1 : Int32} {x2 : Int32} (k0 : kd a0 = 0) {h : Hp}, k4 a0 x1 x2 h = some o → J l D ad cA (fun _ => True) (rmd (d + 1)) (0, 0) (mQ D ad cA (some (.int o.1)) o.2) cX0_dearest RX0 4 (some .int) 4 [(0, .ref (ad a0)), (1, .int x1), (2, .int x2)] [] h) {a0 : Nat} {x1 : Int32} {x2 : Int32} {y0 : Int32} (k0 : kd a0 = 0) {h : Hp} (hf : f_X0_dearest_59 k4 a0 x1 x2 y0 h = some o) : J l D ad cA (fun _ => True) (rmd (d + 1)) (0, 0) (mQ D ad cA (some (.int o.1)) o.2) cX0_dearest RX0 4 (some .int) 59 [(0, .ref (ad a0)), (1, .int x1), (2, .int x2)] [.int y0] h := by
  unfold f_X0_dearest_59 at hf
  refine j_istore_n (pc := 59) (lv' := [(3, .int y0), (0, .ref (ad a0)), (1, .int x1), (2, .int x2)]) dX0_dearest_59 rfl (by decide) rfl ?_
  refine j_iload_n (pc := 60) 0 dX0_dearest_60 rfl rfl ?_
  refine j_if_le (pc := 61) (tgt := 74) dX0_dearest_61 (by decide) hf (fun _ hf => ?_) (fun _ hf => ?_)
  · refine j_iload_n (pc := 74) 0 dX0_dearest_74 rfl rfl ?_
    refine j_if_ne (pc := 75) (tgt := 90) dX0_dearest_75 (by decide) hf (fun _ hf => ?_) (fun _ hf => ?_)
    · refine j_sub [1, 2, 3] rfl ?_
      exact t_X0_dearest_90 hdp hk4 k0 hf
    · refine j_aload_n (pc := 78) 1 dX0_dearest_78 rfl rfl ?_
      refine j_dup (pc := 79) dX0_dearest_79 rfl ?_
      refine j_getI (pc := 80) dX0_dearest_80 fl160 k0 (by decide) rfl ?_
      refine j_iconst (pc := 83) dX0_dearest_83 (v := 1) (by decide) ?_
      refine j_iload_n (pc := 84) 3 dX0_dearest_84 rfl rfl ?_
      refine j_ishl (pc := 85) dX0_dearest_85  ?_
      refine j_ior (pc := 86) dX0_dearest_86  ?_
      refine j_putI (pc := 87) dX0_dearest_87 fl160 fp0_3 k0 (by decide) rfl hf (fun m4 hf => ?_)
      refine j_sub [1, 2, 3] rfl ?_
      exact t_X0_dearest_90 hdp hk4 k0 hf
  · refine j_iload_n (pc := 64) 3 dX0_dearest_64 rfl rfl ?_
    refine j_istore_n (pc := 65) (lv' := [(1, .int x2), (3, .int y0), (0, .ref (ad a0)), (2, .int x2)]) dX0_dearest_65 rfl (by decide) rfl ?_
    refine j_aload_n (pc := 66) 2 dX0_dearest_66 rfl rfl ?_
    refine j_iconst (pc := 67) dX0_dearest_67 (v := 0) (by decide) ?_
    refine j_putI (pc := 68) dX0_dearest_68 fl160 fp0_3 k0 (by decide) rfl hf (fun m5 hf => ?_)
    refine j_goto (pc := 71) (tgt := 90) dX0_dearest_71 (by decide) ?_
    refine j_sub [2, 0, 3] rfl ?_
    exact t_X0_dearest_90 hdp hk4 k0 hf
def f_X0_dearest_4 (k4 : Nat → Int32 → Int32 → Hp → Option (Int32 × Hp)) (a0 : Nat) (x1 : Int32) (x2 : Int32) (h : Hp) : Option (Int32 × Hp) := if 6 ≤ x2 then (some (if x1 < 0 then 0 else x1, h)) else ((f_X8_holds (h.1 a0 4) x2 h).bind (fun q1 => if q1.1 = 0 then (f_X0_dearest_90 k4 a0 x1 x2 q1.2) else (if 0 ≤ x1 then (if ix x2 6 = true then (if ix x2 6 = true then (if ix x1 6 = true then (if ix x1 6 = true then ((f_X8_comparePrices (q1.2.2 (a0 + 5) (Int32.toNatClampNeg x2)) (q1.2.2 (a0 + 6) (Int32.toNatClampNeg x2)) (q1.2.2 (a0 + 5) (Int32.toNatClampNeg x1)) (q1.2.2 (a0 + 6) (Int32.toNatClampNeg x1)) q1.2).bind (fun q2 => f_X0_dearest_59 k4 a0 x1 x2 q2.1 q2.2)) else none) else none) else none) else none) else (f_X0_dearest_59 k4 a0 x1 x2 1 q1.2))))
set_option maxHeartbeats 4000000 in
set_option maxRecDepth 100000 in
theorem t_X0_dearest_4 {l : Launch} {D : va_G} {ad : Nat → Nat} {cA : Nat → ClassId} {d : Nat} (hdp : 1 ≤ d) {o : Int32 × Hp}  : ∀ (n : Nat) {a0 : Nat} {x1 : Int32} {x2 : Int32} (k0 : kd a0 = 0) {h : Hp}, lp (F := Nat → Int32 → Int32 → Hp → Option (Int32 × Hp)) (fun _ _ _ _ => none) (f_X0_dearest_4) n a0 x1 x2 h = some o → J l D ad cA (fun _ => True) (rmd (d + 1)) (0, 0) (mQ D ad cA (some (.int o.1)) o.2) cX0_dearest RX0 4 (some .int) 4 [(0, .ref (ad a0)), (1, .int x1), (2, .int x2)] [] h := by
  intro n
  induction n with
  | zero =>
    intro a0 x1 x2 k0 h hf
    have hf : (none : Option (Int32 × Hp)) = some o := hf
    cases hf
  | succ n hk4 =>
    intro a0 x1 x2 k0 h hf
    have hf : f_X0_dearest_4  (lp (F := Nat → Int32 → Int32 → Hp → Option (Int32 × Hp)) (fun _ _ _ _ => none) (f_X0_dearest_4) n) a0 x1 x2 h = some o := hf
    unfold f_X0_dearest_4 at hf
    refine j_iload_n (pc := 4) 2 dX0_dearest_4 rfl rfl ?_
    refine j_bipush (pc := 5) dX0_dearest_5 (v := 6) (by decide) ?_
    refine j_icmp_ge (pc := 7) (tgt := 96) dX0_dearest_7 (by decide) hf (fun _ hf => ?_) (fun _ hf => ?_)
    · refine j_iload_n (pc := 96) 1 dX0_dearest_96 rfl rfl ?_
      refine j_iconst (pc := 97) dX0_dearest_97 (v := 0) (by decide) ?_
      refine j_mmax (pc := 98) dX0_dearest_98 w_516 w_mmax_s w_math w_mmax_c (Nat.le_of_ble_eq_true rfl) ?_
      exact j_iret (pc := 101) dX0_dearest_101 rfl hf
    · refine j_aload_n (pc := 10) 0 dX0_dearest_10 rfl rfl ?_
      refine j_getI (pc := 11) dX0_dearest_11 fl162 k0 (by decide) rfl ?_
      refine j_iload_n (pc := 14) 2 dX0_dearest_14 rfl rfl ?_
      refine j_callNi (pc := 15) (d := d) (As := [.int (h.1 a0 4), .int x2]) (st := []) dX0_dearest_15 s519 rfl rfl (by decide) (Nat.le_of_ble_eq_true rfl) (fun q hq => t_X8_holds  hq) hf (fun q1 hf => ?_)
      refine j_if_ne (pc := 18) (tgt := 24) dX0_dearest_18 (by decide) hf (fun _ hf => ?_) (fun _ hf => ?_)
      · refine j_iload_n (pc := 24) 1 dX0_dearest_24 rfl rfl ?_
        refine j_if_ge (pc := 25) (tgt := 32) dX0_dearest_25 (by decide) hf (fun _ hf => ?_) (fun _ hf => ?_)
        · refine j_aload_n (pc := 32) 0 dX0_dearest_32 rfl rfl ?_
          refine j_getR (pc := 33) (n := 5) dX0_dearest_33 fl165 k0 (by decide) rfl ?_
          refine j_iload_n (pc := 36) 2 dX0_dearest_36 rfl rfl ?_
          refine j_laload (pc := 37) dX0_dearest_37 (lk_0_7 k0) (ll_0_7 k0) hf (fun _ hf => ?_)
          refine j_aload_n (pc := 38) 0 dX0_dearest_38 rfl rfl ?_
          refine j_getR (pc := 39) (n := 6) dX0_dearest_39 fl166 k0 (by decide) rfl ?_
          refine j_iload_n (pc := 42) 2 dX0_dearest_42 rfl rfl ?_
          refine j_laload (pc := 43) dX0_dearest_43 (lk_0_8 k0) (ll_0_8 k0) hf (fun _ hf => ?_)
          refine j_aload_n (pc := 44) 0 dX0_dearest_44 rfl rfl ?_
          refine j_getR (pc := 45) (n := 5) dX0_dearest_45 fl165 k0 (by decide) rfl ?_
          refine j_iload_n (pc := 48) 1 dX0_dearest_48 rfl rfl ?_
          refine j_laload (pc := 49) dX0_dearest_49 (lk_0_7 k0) (ll_0_7 k0) hf (fun _ hf => ?_)
          refine j_aload_n (pc := 50) 0 dX0_dearest_50 rfl rfl ?_
          refine j_getR (pc := 51) (n := 6) dX0_dearest_51 fl166 k0 (by decide) rfl ?_
          refine j_iload_n (pc := 54) 1 dX0_dearest_54 rfl rfl ?_
          refine j_laload (pc := 55) dX0_dearest_55 (lk_0_8 k0) (ll_0_8 k0) hf (fun _ hf => ?_)
          refine j_callNi (pc := 56) (d := d) (As := [.long (q1.2.2 (a0 + 5) (Int32.toNatClampNeg x2)), .long (q1.2.2 (a0 + 6) (Int32.toNatClampNeg x2)), .long (q1.2.2 (a0 + 5) (Int32.toNatClampNeg x1)), .long (q1.2.2 (a0 + 6) (Int32.toNatClampNeg x1))]) (st := []) dX0_dearest_56 s545 rfl rfl (by decide) (Nat.le_of_ble_eq_true rfl) (fun q hq => t_X8_comparePrices (by omega)  hq) hf (fun q2 hf => ?_)
          refine j_sub [0, 1, 2] rfl ?_
          exact t_X0_dearest_59 hdp hk4 k0 hf
        · refine j_iconst (pc := 28) dX0_dearest_28 (v := 1) (by decide) ?_
          refine j_goto (pc := 29) (tgt := 59) dX0_dearest_29 (by decide) ?_
          refine j_sub [0, 1, 2] rfl ?_
          exact t_X0_dearest_59 hdp hk4 k0 hf
      · refine j_goto (pc := 21) (tgt := 90) dX0_dearest_21 (by decide) ?_
        refine j_sub [0, 1, 2] rfl ?_
        exact t_X0_dearest_90 hdp hk4 k0 hf
def f_X0_dearest (a0 : Nat) (h : Hp) : Option (Int32 × Hp) := lp (F := Nat → Int32 → Int32 → Hp → Option (Int32 × Hp)) (fun _ _ _ _ => none) (f_X0_dearest_4) 1000 a0 ((-1)) 0 h
set_option maxHeartbeats 4000000 in
set_option maxRecDepth 100000 in
theorem t_X0_dearest {l : Launch} {D : va_G} {ad : Nat → Nat} {cA : Nat → ClassId} {d : Nat} (hdp : 2 ≤ d) {a0 : Nat} (k0 : kd a0 = 0) {h : Hp} {o : Int32 × Hp} (hf : f_X0_dearest a0 h = some o) : Cr l D ad cA d yX0_dearest cX0_dearest 4 (some .int) [.ref (ad a0)] h (some (.int o.1)) o.2 := by
  obtain ⟨d, rfl⟩ : ∃ e, d = e + 1 := ⟨d - 1, by omega⟩
  have hdp : 1 ≤ d := by omega
  unfold f_X0_dearest at hf
  refine Cr_of (by decide +kernel) rfl (Nat.le_of_ble_eq_true rfl) (lv0 := [(0, .ref (ad a0))]) rfl ?_
  refine j_iconst (pc := 0) dX0_dearest_0 (v := -1) (by decide) ?_
  refine j_istore_n (pc := 1) (lv' := [(1, .int ((-1))), (0, .ref (ad a0))]) dX0_dearest_1 rfl (by decide) rfl ?_
  refine j_iconst (pc := 2) dX0_dearest_2 (v := 0) (by decide) ?_
  refine j_istore_n (pc := 3) (lv' := [(2, .int 0), (1, .int ((-1))), (0, .ref (ad a0))]) dX0_dearest_3 rfl (by decide) rfl ?_
  refine j_sub [2, 1, 0] rfl ?_
  exact t_X0_dearest_4 hdp  1000 k0 hf
def f_X0_edge_151 (k12 : Nat → Nat → Int32 → Int32 → Int32 → Int64 → Int64 → Int32 → Int32 → Hp → Option (Int64 × Hp)) (a0 : Nat) (a1 : Nat) (x2 : Int32) (x3 : Int32) (x4 : Int32) (x5 : Int64) (x7 : Int64) (x9 : Int32) (x10 : Int32) (h : Hp) : Option (Int64 × Hp) := lt (x10 + 1) (fun v3 => k12 a0 a1 x2 x3 x4 x5 x7 x9 v3 h)
set_option maxHeartbeats 4000000 in
set_option maxRecDepth 100000 in
theorem t_X0_edge_151 {l : Launch} {D : va_G} {ad : Nat → Nat} {cA : Nat → ClassId} {d : Nat} (hdp : 1 ≤ d) {o : Int64 × Hp} {k12 : Nat → Nat → Int32 → Int32 → Int32 → Int64 → Int64 → Int32 → Int32 → Hp → Option (Int64 × Hp)} (hk12 : ∀ {a0 : Nat} {a1 : Nat} {x2 : Int32} {x3 : Int32} {x4 : Int32} {x5 : Int64} {x7 : Int64} {x9 : Int32} {x10 : Int32} (k0 : kd a0 = 0) (k1 : kd a1 = 3) {h : Hp}, k12 a0 a1 x2 x3 x4 x5 x7 x9 x10 h = some o → J l D ad cA (fun _ => True) (rmd (d + 1)) (0, 0) (mQ D ad cA (some (.long o.1)) o.2) cX0_edge RX0 17 (some .long) 12 [(0, .ref (ad a0)), (1, .ref (ad a1)), (2, .int x2), (3, .int x3), (4, .int x4), (5, .long x5), (7, .long x7), (9, .int x9), (10, .int x10)] [] h) {a0 : Nat} {a1 : Nat} {x2 : Int32} {x3 : Int32} {x4 : Int32} {x5 : Int64} {x7 : Int64} {x9 : Int32} {x10 : Int32} (k0 : kd a0 = 0) (k1 : kd a1 = 3) {h : Hp} (hf : f_X0_edge_151 k12 a0 a1 x2 x3 x4 x5 x7 x9 x10 h = some o) : J l D ad cA (fun _ => True) (rmd (d + 1)) (0, 0) (mQ D ad cA (some (.long o.1)) o.2) cX0_edge RX0 17 (some .long) 151 [(0, .ref (ad a0)), (1, .ref (ad a1)), (2, .int x2), (3, .int x3), (4, .int x4), (5, .long x5), (7, .long x7), (9, .int x9), (10, .int x10)] [] h := by
  unfold f_X0_edge_151 at hf
  refine j_iinc (pc := 151) 8 (c := 1) (lv' := fun v3 => [(10, .int v3), (0, .ref (ad a0)), (1, .ref (ad a1)), (2, .int x2), (3, .int x3), (4, .int x4), (5, .long x5), (7, .long x7), (9, .int x9)]) dX0_edge_151 rfl (by decide) (by decide) (fun _ => rfl) hf (fun v3 hf => ?_)
  refine j_goto (pc := 154) (tgt := 12) dX0_edge_154 (by decide) ?_
  refine j_sub [1, 2, 3, 4, 5, 6, 7, 8, 0] rfl ?_
  exact hk12 k0 k1 hf
def f_X0_edge_140 (k12 : Nat → Nat → Int32 → Int32 → Int32 → Int64 → Int64 → Int32 → Int32 → Hp → Option (Int64 × Hp)) (a0 : Nat) (a1 : Nat) (x2 : Int32) (x3 : Int32) (x4 : Int32) (x10 : Int32) (x12 : Int64) (x14 : Int64) (h : Hp) : Option (Int64 × Hp) := f_X0_edge_151 k12 a0 a1 x2 x3 x4 x12 x14 1 x10 h
set_option maxHeartbeats 4000000 in
set_option maxRecDepth 100000 in
theorem t_X0_edge_140 {l : Launch} {D : va_G} {ad : Nat → Nat} {cA : Nat → ClassId} {d : Nat} (hdp : 1 ≤ d) {o : Int64 × Hp} {k12 : Nat → Nat → Int32 → Int32 → Int32 → Int64 → Int64 → Int32 → Int32 → Hp → Option (Int64 × Hp)} (hk12 : ∀ {a0 : Nat} {a1 : Nat} {x2 : Int32} {x3 : Int32} {x4 : Int32} {x5 : Int64} {x7 : Int64} {x9 : Int32} {x10 : Int32} (k0 : kd a0 = 0) (k1 : kd a1 = 3) {h : Hp}, k12 a0 a1 x2 x3 x4 x5 x7 x9 x10 h = some o → J l D ad cA (fun _ => True) (rmd (d + 1)) (0, 0) (mQ D ad cA (some (.long o.1)) o.2) cX0_edge RX0 17 (some .long) 12 [(0, .ref (ad a0)), (1, .ref (ad a1)), (2, .int x2), (3, .int x3), (4, .int x4), (5, .long x5), (7, .long x7), (9, .int x9), (10, .int x10)] [] h) {a0 : Nat} {a1 : Nat} {x2 : Int32} {x3 : Int32} {x4 : Int32} {x10 : Int32} {x12 : Int64} {x14 : Int64} (k0 : kd a0 = 0) (k1 : kd a1 = 3) {h : Hp} (hf : f_X0_edge_140 k12 a0 a1 x2 x3 x4 x10 x12 x14 h = some o) : J l D ad cA (fun _ => True) (rmd (d + 1)) (0, 0) (mQ D ad cA (some (.long o.1)) o.2) cX0_edge RX0 17 (some .long) 140 [(0, .ref (ad a0)), (1, .ref (ad a1)), (2, .int x2), (3, .int x3), (4, .int x4), (10, .int x10), (12, .long x12), (14, .long x14)] [] h := by
  unfold f_X0_edge_140 at hf
  refine j_lload (pc := 140) 6 dX0_edge_140 rfl ?_
  refine j_lstore (pc := 142) (lv' := [(5, .long x12), (0, .ref (ad a0)), (1, .ref (ad a1)), (2, .int x2), (3, .int x3), (4, .int x4), (10, .int x10), (12, .long x12), (14, .long x14)]) dX0_edge_142 (by decide) rfl ?_
  refine j_lload (pc := 144) 8 dX0_edge_144 rfl ?_
  refine j_lstore (pc := 146) (lv' := [(7, .long x14), (5, .long x12), (0, .ref (ad a0)), (1, .ref (ad a1)), (2, .int x2), (3, .int x3), (4, .int x4), (10, .int x10), (12, .long x12), (14, .long x14)]) dX0_edge_146 (by decide) rfl ?_
  refine j_iconst (pc := 148) dX0_edge_148 (v := 1) (by decide) ?_
  refine j_istore (pc := 149) (lv' := [(9, .int 1), (7, .long x14), (5, .long x12), (0, .ref (ad a0)), (1, .ref (ad a1)), (2, .int x2), (3, .int x3), (4, .int x4), (10, .int x10), (12, .long x12), (14, .long x14)]) dX0_edge_149 (by decide) rfl ?_
  refine j_sub [3, 4, 5, 6, 7, 2, 1, 0, 8] rfl ?_
  exact t_X0_edge_151 hdp hk12 k0 k1 hf
def f_X0_edge_78 (k12 : Nat → Nat → Int32 → Int32 → Int32 → Int64 → Int64 → Int32 → Int32 → Hp → Option (Int64 × Hp)) (a0 : Nat) (a1 : Nat) (x2 : Int32) (x3 : Int32) (x4 : Int32) (x5 : Int64) (x7 : Int64) (x9 : Int32) (x10 : Int32) (y0 : Int32) (h : Hp) : Option (Int64 × Hp) := if ix x10 6 = true then ((f_X3_priceAbove a1 x2 (h.2 (a0 + 3) (Int32.toNatClampNeg x10)) y0 h).bind (fun q4 => (f_X3_markAbove a1 x2 y0 q4.2).bind (fun q5 => (f_X8_comparePrices q4.1 q5.1 x5 x7 q5.2).bind (fun q6 => if x9 = 0 then (f_X0_edge_140 k12 a0 a1 x2 x3 x4 x10 q4.1 q5.1 q6.2) else (if x3 = 0 then (if 0 ≤ q6.1 then (f_X0_edge_151 k12 a0 a1 x2 x3 x4 x5 x7 x9 x10 q6.2) else (f_X0_edge_140 k12 a0 a1 x2 x3 x4 x10 q4.1 q5.1 q6.2)) else (if q6.1 ≤ 0 then (f_X0_edge_151 k12 a0 a1 x2 x3 x4 x5 x7 x9 x10 q6.2) else (f_X0_edge_140 k12 a0 a1 x2 x3 x4 x10 q4.1 q5.1 q6.2))))))) else none
set_option maxHeartbeats 4000000 in
set_option maxRecDepth 100000 in
theorem t_X0_edge_78 {l : Launch} {D : va_G} {ad : Nat → Nat} {cA : Nat → ClassId} {d : Nat} (hdp : 1 ≤ d) {o : Int64 × Hp} {k12 : Nat → Nat → Int32 → Int32 → Int32 → Int64 → Int64 → Int32 → Int32 → Hp → Option (Int64 × Hp)} (hk12 : ∀ {a0 : Nat} {a1 : Nat} {x2 : Int32} {x3 : Int32} {x4 : Int32} {x5 : Int64} {x7 : Int64} {x9 : Int32} {x10 : Int32} (k0 : kd a0 = 0) (k1 : kd a1 = 3) {h : Hp}, k12 a0 a1 x2 x3 x4 x5 x7 x9 x10 h = some o → J l D ad cA (fun _ => True) (rmd (d + 1)) (0, 0) (mQ D ad cA (some (.long o.1)) o.2) cX0_edge RX0 17 (some .long) 12 [(0, .ref (ad a0)), (1, .ref (ad a1)), (2, .int x2), (3, .int x3), (4, .int x4), (5, .long x5), (7, .long x7), (9, .int x9), (10, .int x10)] [] h) {a0 : Nat} {a1 : Nat} {x2 : Int32} {x3 : Int32} {x4 : Int32} {x5 : Int64} {x7 : Int64} {x9 : Int32} {x10 : Int32} {y0 : Int32} (k0 : kd a0 = 0) (k1 : kd a1 = 3) {h : Hp} (hf : f_X0_edge_78 k12 a0 a1 x2 x3 x4 x5 x7 x9 x10 y0 h = some o) : J l D ad cA (fun _ => True) (rmd (d + 1)) (0, 0) (mQ D ad cA (some (.long o.1)) o.2) cX0_edge RX0 17 (some .long) 78 [(0, .ref (ad a0)), (1, .ref (ad a1)), (2, .int x2), (3, .int x3), (4, .int x4), (5, .long x5), (7, .long x7), (9, .int x9), (10, .int x10)] [.int y0] h := by
  unfold f_X0_edge_78 at hf
  refine j_istore (pc := 78) (lv' := [(11, .int y0), (0, .ref (ad a0)), (1, .ref (ad a1)), (2, .int x2), (3, .int x3), (4, .int x4), (5, .long x5), (7, .long x7), (9, .int x9), (10, .int x10)]) dX0_edge_78 (by decide) rfl ?_
  refine j_aload_n (pc := 80) 2 dX0_edge_80 rfl rfl ?_
  refine j_iload_n (pc := 81) 3 dX0_edge_81 rfl rfl ?_
  refine j_aload_n (pc := 82) 1 dX0_edge_82 rfl rfl ?_
  refine j_getR (pc := 83) (n := 3) dX0_edge_83 fl163 k0 (by decide) rfl ?_
  refine j_iload (pc := 86) 9 dX0_edge_86 rfl ?_
  refine j_laload (pc := 88) dX0_edge_88 (lk_0_5 k0) (ll_0_5 k0) hf (fun _ hf => ?_)
  refine j_iload (pc := 89) 0 dX0_edge_89 rfl ?_
  refine j_callVl (pc := 91) (d := d) (As := [.int x2, .long (h.2 (a0 + 3) (Int32.toNatClampNeg x10)), .int y0]) (st := []) dX0_edge_91 s532 k1 (by decide) rfl rfl (by decide) (Nat.le_of_ble_eq_true rfl) (fun q hq => t_X3_priceAbove k1 hq) hf (fun q4 hf => ?_)
  refine j_lstore (pc := 94) (lv' := [(12, .long q4.1), (11, .int y0), (0, .ref (ad a0)), (1, .ref (ad a1)), (2, .int x2), (3, .int x3), (4, .int x4), (5, .long x5), (7, .long x7), (9, .int x9), (10, .int x10)]) dX0_edge_94 (by decide) rfl ?_
  refine j_aload_n (pc := 96) 3 dX0_edge_96 rfl rfl ?_
  refine j_iload_n (pc := 97) 4 dX0_edge_97 rfl rfl ?_
  refine j_iload (pc := 98) 1 dX0_edge_98 rfl ?_
  refine j_callVl (pc := 100) (d := d) (As := [.int x2, .int y0]) (st := []) dX0_edge_100 s537 k1 (by decide) rfl rfl (by decide) (Nat.le_of_ble_eq_true rfl) (fun q hq => t_X3_markAbove k1 hq) hf (fun q5 hf => ?_)
  refine j_lstore (pc := 103) (lv' := [(14, .long q5.1), (12, .long q4.1), (11, .int y0), (0, .ref (ad a0)), (1, .ref (ad a1)), (2, .int x2), (3, .int x3), (4, .int x4), (5, .long x5), (7, .long x7), (9, .int x9), (10, .int x10)]) dX0_edge_103 (by decide) rfl ?_
  refine j_lload (pc := 105) 1 dX0_edge_105 rfl ?_
  refine j_lload (pc := 107) 0 dX0_edge_107 rfl ?_
  refine j_lload (pc := 109) 8 dX0_edge_109 rfl ?_
  refine j_lload (pc := 111) 9 dX0_edge_111 rfl ?_
  refine j_callNi (pc := 113) (d := d) (As := [.long q4.1, .long q5.1, .long x5, .long x7]) (st := []) dX0_edge_113 s545 rfl rfl (by decide) (Nat.le_of_ble_eq_true rfl) (fun q hq => t_X8_comparePrices (by omega)  hq) hf (fun q6 hf => ?_)
  refine j_istore (pc := 116) (lv' := [(16, .int q6.1), (14, .long q5.1), (12, .long q4.1), (11, .int y0), (0, .ref (ad a0)), (1, .ref (ad a1)), (2, .int x2), (3, .int x3), (4, .int x4), (5, .long x5), (7, .long x7), (9, .int x9), (10, .int x10)]) dX0_edge_116 (by decide) rfl ?_
  refine j_iload (pc := 118) 11 dX0_edge_118 rfl ?_
  refine j_if_eq (pc := 120) (tgt := 140) dX0_edge_120 (by decide) hf (fun _ hf => ?_) (fun _ hf => ?_)
  · refine j_sub [4, 5, 6, 7, 8, 12, 2, 1] rfl ?_
    exact t_X0_edge_140 hdp hk12 k0 k1 hf
  · refine j_iload_n (pc := 123) 7 dX0_edge_123 rfl rfl ?_
    refine j_if_eq (pc := 124) (tgt := 135) dX0_edge_124 (by decide) hf (fun _ hf => ?_) (fun _ hf => ?_)
    · refine j_iload (pc := 135) 0 dX0_edge_135 rfl ?_
      refine j_if_ge (pc := 137) (tgt := 151) dX0_edge_137 (by decide) hf (fun _ hf => ?_) (fun _ hf => ?_)
      · refine j_sub [4, 5, 6, 7, 8, 9, 10, 11, 12] rfl ?_
        exact t_X0_edge_151 hdp hk12 k0 k1 hf
      · refine j_sub [4, 5, 6, 7, 8, 12, 2, 1] rfl ?_
        exact t_X0_edge_140 hdp hk12 k0 k1 hf
    · refine j_iload (pc := 127) 0 dX0_edge_127 rfl ?_
      refine j_if_le (pc := 129) (tgt := 151) dX0_edge_129 (by decide) hf (fun _ hf => ?_) (fun _ hf => ?_)
      · refine j_sub [4, 5, 6, 7, 8, 9, 10, 11, 12] rfl ?_
        exact t_X0_edge_151 hdp hk12 k0 k1 hf
      · refine j_goto (pc := 132) (tgt := 140) dX0_edge_132 (by decide) ?_
        refine j_sub [4, 5, 6, 7, 8, 12, 2, 1] rfl ?_
        exact t_X0_edge_140 hdp hk12 k0 k1 hf
def f_X0_edge_55 (k12 : Nat → Nat → Int32 → Int32 → Int32 → Int64 → Int64 → Int32 → Int32 → Hp → Option (Int64 × Hp)) (a0 : Nat) (a1 : Nat) (x2 : Int32) (x3 : Int32) (x4 : Int32) (x5 : Int64) (x7 : Int64) (x9 : Int32) (x10 : Int32) (h : Hp) : Option (Int64 × Hp) := if x3 = 0 then (if ix x10 6 = true then (f_X0_edge_78 k12 a0 a1 x2 x3 x4 x5 x7 x9 x10 (h.1 (a0 + 1) (Int32.toNatClampNeg x10)) h) else none) else (if ix x10 6 = true then (f_X0_edge_78 k12 a0 a1 x2 x3 x4 x5 x7 x9 x10 ((h.1 (a0 + 1) (Int32.toNatClampNeg x10)) + 1) h) else none)
set_option maxHeartbeats 4000000 in
set_option maxRecDepth 100000 in
theorem t_X0_edge_55 {l : Launch} {D : va_G} {ad : Nat → Nat} {cA : Nat → ClassId} {d : Nat} (hdp : 1 ≤ d) {o : Int64 × Hp} {k12 : Nat → Nat → Int32 → Int32 → Int32 → Int64 → Int64 → Int32 → Int32 → Hp → Option (Int64 × Hp)} (hk12 : ∀ {a0 : Nat} {a1 : Nat} {x2 : Int32} {x3 : Int32} {x4 : Int32} {x5 : Int64} {x7 : Int64} {x9 : Int32} {x10 : Int32} (k0 : kd a0 = 0) (k1 : kd a1 = 3) {h : Hp}, k12 a0 a1 x2 x3 x4 x5 x7 x9 x10 h = some o → J l D ad cA (fun _ => True) (rmd (d + 1)) (0, 0) (mQ D ad cA (some (.long o.1)) o.2) cX0_edge RX0 17 (some .long) 12 [(0, .ref (ad a0)), (1, .ref (ad a1)), (2, .int x2), (3, .int x3), (4, .int x4), (5, .long x5), (7, .long x7), (9, .int x9), (10, .int x10)] [] h) {a0 : Nat} {a1 : Nat} {x2 : Int32} {x3 : Int32} {x4 : Int32} {x5 : Int64} {x7 : Int64} {x9 : Int32} {x10 : Int32} (k0 : kd a0 = 0) (k1 : kd a1 = 3) {h : Hp} (hf : f_X0_edge_55 k12 a0 a1 x2 x3 x4 x5 x7 x9 x10 h = some o) : J l D ad cA (fun _ => True) (rmd (d + 1)) (0, 0) (mQ D ad cA (some (.long o.1)) o.2) cX0_edge RX0 17 (some .long) 55 [(0, .ref (ad a0)), (1, .ref (ad a1)), (2, .int x2), (3, .int x3), (4, .int x4), (5, .long x5), (7, .long x7), (9, .int x9), (10, .int x10)] [] h := by
  unfold f_X0_edge_55 at hf
  refine j_iload_n (pc := 55) 3 dX0_edge_55 rfl rfl ?_
  refine j_if_eq (pc := 56) (tgt := 71) dX0_edge_56 (by decide) hf (fun _ hf => ?_) (fun _ hf => ?_)
  · refine j_aload_n (pc := 71) 0 dX0_edge_71 rfl rfl ?_
    refine j_getR (pc := 72) (n := 1) dX0_edge_72 fl152 k0 (by decide) rfl ?_
    refine j_iload (pc := 75) 8 dX0_edge_75 rfl ?_
    refine j_iaload (pc := 77) dX0_edge_77 (lk_0_0 k0) (ll_0_0 k0) hf (fun _ hf => ?_)
    refine j_sub [0, 1, 2, 3, 4, 5, 6, 7, 8] rfl ?_
    exact t_X0_edge_78 hdp hk12 k0 k1 hf
  · refine j_aload_n (pc := 59) 0 dX0_edge_59 rfl rfl ?_
    refine j_getR (pc := 60) (n := 1) dX0_edge_60 fl152 k0 (by decide) rfl ?_
    refine j_iload (pc := 63) 8 dX0_edge_63 rfl ?_
    refine j_iaload (pc := 65) dX0_edge_65 (lk_0_0 k0) (ll_0_0 k0) hf (fun _ hf => ?_)
    refine j_iconst (pc := 66) dX0_edge_66 (v := 1) (by decide) ?_
    refine j_iadd (pc := 67) dX0_edge_67  ?_
    refine j_goto (pc := 68) (tgt := 78) dX0_edge_68 (by decide) ?_
    refine j_sub [0, 1, 2, 3, 4, 5, 6, 7, 8] rfl ?_
    exact t_X0_edge_78 hdp hk12 k0 k1 hf
def f_X0_edge_12 (k12 : Nat → Nat → Int32 → Int32 → Int32 → Int64 → Int64 → Int32 → Int32 → Hp → Option (Int64 × Hp)) (a0 : Nat) (a1 : Nat) (x2 : Int32) (x3 : Int32) (x4 : Int32) (x5 : Int64) (x7 : Int64) (x9 : Int32) (x10 : Int32) (h : Hp) : Option (Int64 × Hp) := if 6 ≤ x10 then (if x9 = 0 then (some ((-9223372036854775808), h)) else ((f_X8_lowest x5 x7 x4 h).bind (fun q1 => some (q1.1, q1.2)))) else ((f_X8_holds (h.1 a0 4) x10 h).bind (fun q2 => if q2.1 = 0 then (f_X0_edge_151 k12 a0 a1 x2 x3 x4 x5 x7 x9 x10 q2.2) else (if x3 = 0 then (if ix x10 6 = true then (if ix x10 6 = true then (if (q2.2.1 (a0 + 4) (Int32.toNatClampNeg x10)) < (q2.2.1 (a0 + 1) (Int32.toNatClampNeg x10)) then (f_X0_edge_55 k12 a0 a1 x2 x3 x4 x5 x7 x9 x10 q2.2) else (f_X0_edge_151 k12 a0 a1 x2 x3 x4 x5 x7 x9 x10 q2.2)) else none) else none) else (f_X0_edge_55 k12 a0 a1 x2 x3 x4 x5 x7 x9 x10 q2.2))))
set_option maxHeartbeats 4000000 in
set_option maxRecDepth 100000 in
theorem t_X0_edge_12 {l : Launch} {D : va_G} {ad : Nat → Nat} {cA : Nat → ClassId} {d : Nat} (hdp : 1 ≤ d) {o : Int64 × Hp}  : ∀ (n : Nat) {a0 : Nat} {a1 : Nat} {x2 : Int32} {x3 : Int32} {x4 : Int32} {x5 : Int64} {x7 : Int64} {x9 : Int32} {x10 : Int32} (k0 : kd a0 = 0) (k1 : kd a1 = 3) {h : Hp}, lp (F := Nat → Nat → Int32 → Int32 → Int32 → Int64 → Int64 → Int32 → Int32 → Hp → Option (Int64 × Hp)) (fun _ _ _ _ _ _ _ _ _ _ => none) (f_X0_edge_12) n a0 a1 x2 x3 x4 x5 x7 x9 x10 h = some o → J l D ad cA (fun _ => True) (rmd (d + 1)) (0, 0) (mQ D ad cA (some (.long o.1)) o.2) cX0_edge RX0 17 (some .long) 12 [(0, .ref (ad a0)), (1, .ref (ad a1)), (2, .int x2), (3, .int x3), (4, .int x4), (5, .long x5), (7, .long x7), (9, .int x9), (10, .int x10)] [] h := by
  intro n
  induction n with
  | zero =>
    intro a0 a1 x2 x3 x4 x5 x7 x9 x10 k0 k1 h hf
    have hf : (none : Option (Int64 × Hp)) = some o := hf
    cases hf
  | succ n hk12 =>
    intro a0 a1 x2 x3 x4 x5 x7 x9 x10 k0 k1 h hf
    have hf : f_X0_edge_12  (lp (F := Nat → Nat → Int32 → Int32 → Int32 → Int64 → Int64 → Int32 → Int32 → Hp → Option (Int64 × Hp)) (fun _ _ _ _ _ _ _ _ _ _ => none) (f_X0_edge_12) n) a0 a1 x2 x3 x4 x5 x7 x9 x10 h = some o := hf
    unfold f_X0_edge_12 at hf
    refine j_iload (pc := 12) 8 dX0_edge_12 rfl ?_
    refine j_bipush (pc := 14) dX0_edge_14 (v := 6) (by decide) ?_
    refine j_icmp_ge (pc := 16) (tgt := 157) dX0_edge_16 (by decide) hf (fun _ hf => ?_) (fun _ hf => ?_)
    · refine j_iload (pc := 157) 7 dX0_edge_157 rfl ?_
      refine j_if_eq (pc := 159) (tgt := 174) dX0_edge_159 (by decide) hf (fun _ hf => ?_) (fun _ hf => ?_)
      · refine j_ldc2_w (pc := 174) dX0_edge_174 (v := -9223372036854775808) w_c616 ?_
        exact j_lret (pc := 177) dX0_edge_177 rfl hf
      · refine j_lload (pc := 162) 5 dX0_edge_162 rfl ?_
        refine j_lload (pc := 164) 6 dX0_edge_164 rfl ?_
        refine j_iload (pc := 166) 4 dX0_edge_166 rfl ?_
        refine j_callNl (pc := 168) (d := d) (As := [.long x5, .long x7, .int x4]) (st := []) dX0_edge_168 s615 rfl rfl (by decide) (Nat.le_of_ble_eq_true rfl) (fun q hq => t_X8_lowest (by omega)  hq) hf (fun q1 hf => ?_)
        refine j_goto (pc := 171) (tgt := 177) dX0_edge_171 (by decide) ?_
        exact j_lret (pc := 177) dX0_edge_177 rfl hf
    · refine j_aload_n (pc := 19) 0 dX0_edge_19 rfl rfl ?_
      refine j_getI (pc := 20) dX0_edge_20 fl162 k0 (by decide) rfl ?_
      refine j_iload (pc := 23) 8 dX0_edge_23 rfl ?_
      refine j_callNi (pc := 25) (d := d) (As := [.int (h.1 a0 4), .int x10]) (st := []) dX0_edge_25 s519 rfl rfl (by decide) (Nat.le_of_ble_eq_true rfl) (fun q hq => t_X8_holds  hq) hf (fun q2 hf => ?_)
      refine j_if_eq (pc := 28) (tgt := 151) dX0_edge_28 (by decide) hf (fun _ hf => ?_) (fun _ hf => ?_)
      · refine j_sub [0, 1, 2, 3, 4, 5, 6, 7, 8] rfl ?_
        exact t_X0_edge_151 hdp hk12 k0 k1 hf
      · refine j_iload_n (pc := 31) 3 dX0_edge_31 rfl rfl ?_
        refine j_if_ne (pc := 32) (tgt := 55) dX0_edge_32 (by decide) hf (fun _ hf => ?_) (fun _ hf => ?_)
        · refine j_sub [0, 1, 2, 3, 4, 5, 6, 7, 8] rfl ?_
          exact t_X0_edge_55 hdp hk12 k0 k1 hf
        · refine j_aload_n (pc := 35) 0 dX0_edge_35 rfl rfl ?_
          refine j_getR (pc := 36) (n := 1) dX0_edge_36 fl152 k0 (by decide) rfl ?_
          refine j_iload (pc := 39) 8 dX0_edge_39 rfl ?_
          refine j_iaload (pc := 41) dX0_edge_41 (lk_0_0 k0) (ll_0_0 k0) hf (fun _ hf => ?_)
          refine j_aload_n (pc := 42) 0 dX0_edge_42 rfl rfl ?_
          refine j_getR (pc := 43) (n := 4) dX0_edge_43 fl164 k0 (by decide) rfl ?_
          refine j_iload (pc := 46) 8 dX0_edge_46 rfl ?_
          refine j_iaload (pc := 48) dX0_edge_48 (lk_0_6 k0) (ll_0_6 k0) hf (fun _ hf => ?_)
          refine j_icmp_gt (pc := 49) (tgt := 55) dX0_edge_49 (by decide) hf (fun _ hf => ?_) (fun _ hf => ?_)
          · refine j_sub [0, 1, 2, 3, 4, 5, 6, 7, 8] rfl ?_
            exact t_X0_edge_55 hdp hk12 k0 k1 hf
          · refine j_goto (pc := 52) (tgt := 151) dX0_edge_52 (by decide) ?_
            refine j_sub [0, 1, 2, 3, 4, 5, 6, 7, 8] rfl ?_
            exact t_X0_edge_151 hdp hk12 k0 k1 hf
def f_X0_edge (a0 : Nat) (a1 : Nat) (x2 : Int32) (x3 : Int32) (x4 : Int32) (h : Hp) : Option (Int64 × Hp) := lp (F := Nat → Nat → Int32 → Int32 → Int32 → Int64 → Int64 → Int32 → Int32 → Hp → Option (Int64 × Hp)) (fun _ _ _ _ _ _ _ _ _ _ => none) (f_X0_edge_12) 1000 a0 a1 x2 x3 x4 0 0 0 0 h
set_option maxHeartbeats 4000000 in
set_option maxRecDepth 100000 in
theorem t_X0_edge {l : Launch} {D : va_G} {ad : Nat → Nat} {cA : Nat → ClassId} {d : Nat} (hdp : 2 ≤ d) {a0 : Nat} {a1 : Nat} {x2 : Int32} {x3 : Int32} {x4 : Int32} (k0 : kd a0 = 0) (k1 : kd a1 = 3) {h : Hp} {o : Int64 × Hp} (hf : f_X0_edge a0 a1 x2 x3 x4 h = some o) : Cr l D ad cA d yX0_edge cX0_edge 17 (some .long) [.ref (ad a0), .ref (ad a1), .int x2, .int x3, .int x4] h (some (.long o.1)) o.2 := by
  obtain ⟨d, rfl⟩ : ∃ e, d = e + 1 := ⟨d - 1, by omega⟩
  have hdp : 1 ≤ d := by omega
  unfold f_X0_edge at hf
  refine Cr_of (by decide +kernel) rfl (Nat.le_of_ble_eq_true rfl) (lv0 := [(0, .ref (ad a0)), (1, .ref (ad a1)), (2, .int x2), (3, .int x3), (4, .int x4)]) rfl ?_
  refine j_lconst (pc := 0) dX0_edge_0 (v := 0) rfl ?_
  refine j_lstore (pc := 1) (lv' := [(5, .long 0), (0, .ref (ad a0)), (1, .ref (ad a1)), (2, .int x2), (3, .int x3), (4, .int x4)]) dX0_edge_1 (by decide) rfl ?_
  refine j_lconst (pc := 3) dX0_edge_3 (v := 0) rfl ?_
  refine j_lstore (pc := 4) (lv' := [(7, .long 0), (5, .long 0), (0, .ref (ad a0)), (1, .ref (ad a1)), (2, .int x2), (3, .int x3), (4, .int x4)]) dX0_edge_4 (by decide) rfl ?_
  refine j_iconst (pc := 6) dX0_edge_6 (v := 0) (by decide) ?_
  refine j_istore (pc := 7) (lv' := [(9, .int 0), (7, .long 0), (5, .long 0), (0, .ref (ad a0)), (1, .ref (ad a1)), (2, .int x2), (3, .int x3), (4, .int x4)]) dX0_edge_7 (by decide) rfl ?_
  refine j_iconst (pc := 9) dX0_edge_9 (v := 0) (by decide) ?_
  refine j_istore (pc := 10) (lv' := [(10, .int 0), (9, .int 0), (7, .long 0), (5, .long 0), (0, .ref (ad a0)), (1, .ref (ad a1)), (2, .int x2), (3, .int x3), (4, .int x4)]) dX0_edge_10 (by decide) rfl ?_
  refine j_sub [4, 5, 6, 7, 8, 3, 2, 1, 0] rfl ?_
  exact t_X0_edge_12 hdp  1000 k0 k1 hf
def f_X1_enterLists_50 (k9 : Nat → Nat → Int32 → Hp → Option (Unit × Hp)) (a0 : Nat) (a1 : Nat) (x2 : Int32) (h : Hp) : Option (Unit × Hp) := lt (x2 + 1) (fun v5 => k9 a0 a1 v5 h)
set_option maxHeartbeats 4000000 in
set_option maxRecDepth 100000 in
theorem t_X1_enterLists_50 {l : Launch} {D : va_G} {ad : Nat → Nat} {cA : Nat → ClassId} {d : Nat} (hdp : 1 ≤ d) {o : Unit × Hp} {k9 : Nat → Nat → Int32 → Hp → Option (Unit × Hp)} (hk9 : ∀ {a0 : Nat} {a1 : Nat} {x2 : Int32} (k0 : kd a0 = 1) (k1 : kd a1 = 3) {h : Hp}, k9 a0 a1 x2 h = some o → J l D ad cA (fun _ => True) (rmd (d + 1)) (0, 0) (mQ D ad cA (none) o.2) cX1_enterLists RX1 3 (none) 9 [(0, .ref (ad a0)), (1, .ref (ad a1)), (2, .int x2)] [] h) {a0 : Nat} {a1 : Nat} {x2 : Int32} (k0 : kd a0 = 1) (k1 : kd a1 = 3) {h : Hp} (hf : f_X1_enterLists_50 k9 a0 a1 x2 h = some o) : J l D ad cA (fun _ => True) (rmd (d + 1)) (0, 0) (mQ D ad cA (none) o.2) cX1_enterLists RX1 3 (none) 50 [(0, .ref (ad a0)), (1, .ref (ad a1)), (2, .int x2)] [] h := by
  unfold f_X1_enterLists_50 at hf
  refine j_iinc (pc := 50) 2 (c := 1) (lv' := fun v5 => [(2, .int v5), (0, .ref (ad a0)), (1, .ref (ad a1))]) dX1_enterLists_50 rfl (by decide) (by decide) (fun _ => rfl) hf (fun v5 hf => ?_)
  refine j_goto (pc := 53) (tgt := 9) dX1_enterLists_53 (by decide) ?_
  refine j_sub [1, 2, 0] rfl ?_
  exact hk9 k0 k1 hf
def f_X1_enterLists_9 (k9 : Nat → Nat → Int32 → Hp → Option (Unit × Hp)) (a0 : Nat) (a1 : Nat) (x2 : Int32) (h : Hp) : Option (Unit × Hp) := if 6 ≤ x2 then (some ((), h)) else ((f_X8_holds (h.1 a0 2) x2 h).bind (fun q2 => if q2.1 = 0 then (f_X1_enterLists_50 k9 a0 a1 x2 q2.2) else (if ix x2 6 = true then ((f_X3_totalOf a1 x2 q2.2).bind (fun q3 => if ix x2 6 = true then ((f_X0_enter (a0 + 1) (q2.2.1 (a1 + 4) (Int32.toNatClampNeg x2)) q3.1 (q3.2.1 (a1 + 3) (Int32.toNatClampNeg x2)) q3.2).bind (fun q4 => f_X1_enterLists_50 k9 a0 a1 x2 q4.2)) else none)) else none)))
set_option maxHeartbeats 4000000 in
set_option maxRecDepth 100000 in
theorem t_X1_enterLists_9 {l : Launch} {D : va_G} {ad : Nat → Nat} {cA : Nat → ClassId} {d : Nat} (hdp : 1 ≤ d) {o : Unit × Hp}  : ∀ (n : Nat) {a0 : Nat} {a1 : Nat} {x2 : Int32} (k0 : kd a0 = 1) (k1 : kd a1 = 3) {h : Hp}, lp (F := Nat → Nat → Int32 → Hp → Option (Unit × Hp)) (fun _ _ _ _ => none) (f_X1_enterLists_9) n a0 a1 x2 h = some o → J l D ad cA (fun _ => True) (rmd (d + 1)) (0, 0) (mQ D ad cA (none) o.2) cX1_enterLists RX1 3 (none) 9 [(0, .ref (ad a0)), (1, .ref (ad a1)), (2, .int x2)] [] h := by
  intro n
  induction n with
  | zero =>
    intro a0 a1 x2 k0 k1 h hf
    have hf : (none : Option (Unit × Hp)) = some o := hf
    cases hf
  | succ n hk9 =>
    intro a0 a1 x2 k0 k1 h hf
    have hf : f_X1_enterLists_9  (lp (F := Nat → Nat → Int32 → Hp → Option (Unit × Hp)) (fun _ _ _ _ => none) (f_X1_enterLists_9) n) a0 a1 x2 h = some o := hf
    unfold f_X1_enterLists_9 at hf
    refine j_iload_n (pc := 9) 2 dX1_enterLists_9 rfl rfl ?_
    refine j_bipush (pc := 10) dX1_enterLists_10 (v := 6) (by decide) ?_
    refine j_icmp_ge (pc := 12) (tgt := 56) dX1_enterLists_12 (by decide) hf (fun _ hf => ?_) (fun _ hf => ?_)
    · exact j_vret (pc := 56) dX1_enterLists_56 rfl hf
    · refine j_aload_n (pc := 15) 0 dX1_enterLists_15 rfl rfl ?_
      refine j_getI (pc := 16) dX1_enterLists_16 fl198 k0 (by decide) rfl ?_
      refine j_iload_n (pc := 19) 2 dX1_enterLists_19 rfl rfl ?_
      refine j_callNi (pc := 20) (d := d) (As := [.int (h.1 a0 2), .int x2]) (st := []) dX1_enterLists_20 s500 rfl rfl (by decide) (Nat.le_of_ble_eq_true rfl) (fun q hq => t_X8_holds  hq) hf (fun q2 hf => ?_)
      refine j_if_eq (pc := 23) (tgt := 50) dX1_enterLists_23 (by decide) hf (fun _ hf => ?_) (fun _ hf => ?_)
      · refine j_sub [0, 1, 2] rfl ?_
        exact t_X1_enterLists_50 hdp hk9 k0 k1 hf
      · refine j_aload_n (pc := 26) 0 dX1_enterLists_26 rfl rfl ?_
        refine j_getR (pc := 27) (n := 1) dX1_enterLists_27 fl193 k0 (by decide) rfl ?_
        refine j_aload_n (pc := 30) 1 dX1_enterLists_30 rfl rfl ?_
        refine j_getR (pc := 31) (n := 4) dX1_enterLists_31 fl110 k1 (by decide) rfl ?_
        refine j_iload_n (pc := 34) 2 dX1_enterLists_34 rfl rfl ?_
        refine j_iaload (pc := 35) dX1_enterLists_35 (lk_3_3 k1) (ll_3_3 k1) hf (fun _ hf => ?_)
        refine j_aload_n (pc := 36) 1 dX1_enterLists_36 rfl rfl ?_
        refine j_iload_n (pc := 37) 2 dX1_enterLists_37 rfl rfl ?_
        refine j_callVi (pc := 38) (d := d) (As := [.int x2]) (st := [.int (q2.2.1 (a1 + 4) (Int32.toNatClampNeg x2)), .ref (ad (a0 + 1))]) dX1_enterLists_38 s503 k1 (by decide) rfl rfl (by decide) (Nat.le_of_ble_eq_true rfl) (fun q hq => t_X3_totalOf (by omega) k1 hq) hf (fun q3 hf => ?_)
        refine j_aload_n (pc := 41) 1 dX1_enterLists_41 rfl rfl ?_
        refine j_getR (pc := 42) (n := 3) dX1_enterLists_42 fl107 k1 (by decide) rfl ?_
        refine j_iload_n (pc := 45) 2 dX1_enterLists_45 rfl rfl ?_
        refine j_iaload (pc := 46) dX1_enterLists_46 (lk_3_2 k1) (ll_3_2 k1) hf (fun _ hf => ?_)
        refine j_callVv (pc := 47) (d := d) (As := [.int (q2.2.1 (a1 + 4) (Int32.toNatClampNeg x2)), .int q3.1, .int (q3.2.1 (a1 + 3) (Int32.toNatClampNeg x2))]) (st := []) dX1_enterLists_47 s504 (lk_1_0 k0) (by decide) rfl rfl (by decide) (Nat.le_of_ble_eq_true rfl) (fun q hq => t_X0_enter (lk_1_0 k0) hq) hf (fun q4 hf => ?_)
        refine j_sub [0, 1, 2] rfl ?_
        exact t_X1_enterLists_50 hdp hk9 k0 k1 hf
def f_X1_enterLists (a0 : Nat) (a1 : Nat) (h : Hp) : Option (Unit × Hp) := (f_X0_empty (a0 + 1) h).bind (fun q1 => lp (F := Nat → Nat → Int32 → Hp → Option (Unit × Hp)) (fun _ _ _ _ => none) (f_X1_enterLists_9) 1000 a0 a1 0 q1.2)
set_option maxHeartbeats 4000000 in
set_option maxRecDepth 100000 in
theorem t_X1_enterLists {l : Launch} {D : va_G} {ad : Nat → Nat} {cA : Nat → ClassId} {d : Nat} (hdp : 2 ≤ d) {a0 : Nat} {a1 : Nat} (k0 : kd a0 = 1) (k1 : kd a1 = 3) {h : Hp} {o : Unit × Hp} (hf : f_X1_enterLists a0 a1 h = some o) : Cr l D ad cA d yX1_enterLists cX1_enterLists 3 (none) [.ref (ad a0), .ref (ad a1)] h (none) o.2 := by
  obtain ⟨d, rfl⟩ : ∃ e, d = e + 1 := ⟨d - 1, by omega⟩
  have hdp : 1 ≤ d := by omega
  unfold f_X1_enterLists at hf
  refine Cr_of (by decide +kernel) rfl (Nat.le_of_ble_eq_true rfl) (lv0 := [(0, .ref (ad a0)), (1, .ref (ad a1))]) rfl ?_
  refine j_aload_n (pc := 0) 0 dX1_enterLists_0 rfl rfl ?_
  refine j_getR (pc := 1) (n := 1) dX1_enterLists_1 fl193 k0 (by decide) rfl ?_
  refine j_callVv (pc := 4) (d := d) (As := []) (st := []) dX1_enterLists_4 s492 (lk_1_0 k0) (by decide) rfl rfl (by decide) (Nat.le_of_ble_eq_true rfl) (fun q hq => t_X0_empty (by omega) (lk_1_0 k0) hq) hf (fun q1 hf => ?_)
  refine j_iconst (pc := 7) dX1_enterLists_7 (v := 0) (by decide) ?_
  refine j_istore_n (pc := 8) (lv' := [(2, .int 0), (0, .ref (ad a0)), (1, .ref (ad a1))]) dX1_enterLists_8 rfl (by decide) rfl ?_
  refine j_sub [1, 2, 0] rfl ?_
  exact t_X1_enterLists_9 hdp  1000 k0 k1 hf
def f_X1_enterMembers_55 (k9 : Nat → Nat → Int32 → Int32 → Hp → Option (Unit × Hp)) (a0 : Nat) (a1 : Nat) (x2 : Int32) (x3 : Int32) (h : Hp) : Option (Unit × Hp) := lt (x3 + 1) (fun v5 => k9 a0 a1 x2 v5 h)
set_option maxHeartbeats 4000000 in
set_option maxRecDepth 100000 in
theorem t_X1_enterMembers_55 {l : Launch} {D : va_G} {ad : Nat → Nat} {cA : Nat → ClassId} {d : Nat} (hdp : 1 ≤ d) {o : Unit × Hp} {k9 : Nat → Nat → Int32 → Int32 → Hp → Option (Unit × Hp)} (hk9 : ∀ {a0 : Nat} {a1 : Nat} {x2 : Int32} {x3 : Int32} (k0 : kd a0 = 1) (k1 : kd a1 = 3) {h : Hp}, k9 a0 a1 x2 x3 h = some o → J l D ad cA (fun _ => True) (rmd (d + 1)) (0, 0) (mQ D ad cA (none) o.2) cX1_enterMembers RX1 4 (none) 9 [(0, .ref (ad a0)), (1, .ref (ad a1)), (2, .int x2), (3, .int x3)] [] h) {a0 : Nat} {a1 : Nat} {x2 : Int32} {x3 : Int32} (k0 : kd a0 = 1) (k1 : kd a1 = 3) {h : Hp} (hf : f_X1_enterMembers_55 k9 a0 a1 x2 x3 h = some o) : J l D ad cA (fun _ => True) (rmd (d + 1)) (0, 0) (mQ D ad cA (none) o.2) cX1_enterMembers RX1 4 (none) 55 [(0, .ref (ad a0)), (1, .ref (ad a1)), (2, .int x2), (3, .int x3)] [] h := by
  unfold f_X1_enterMembers_55 at hf
  refine j_iinc (pc := 55) 3 (c := 1) (lv' := fun v5 => [(3, .int v5), (0, .ref (ad a0)), (1, .ref (ad a1)), (2, .int x2)]) dX1_enterMembers_55 rfl (by decide) (by decide) (fun _ => rfl) hf (fun v5 hf => ?_)
  refine j_goto (pc := 58) (tgt := 9) dX1_enterMembers_58 (by decide) ?_
  refine j_sub [1, 2, 3, 0] rfl ?_
  exact hk9 k0 k1 hf
def f_X1_enterMembers_9 (k9 : Nat → Nat → Int32 → Int32 → Hp → Option (Unit × Hp)) (a0 : Nat) (a1 : Nat) (x2 : Int32) (x3 : Int32) (h : Hp) : Option (Unit × Hp) := if 6 ≤ x3 then (some ((), h)) else ((f_X8_holds (h.1 a0 2) x3 h).bind (fun q2 => if q2.1 = 0 then (f_X1_enterMembers_55 k9 a0 a1 x2 x3 q2.2) else (if ix x3 6 = true then (if (q2.2.1 (a1 + 4) (Int32.toNatClampNeg x3)) = x2 then ((f_X3_totalOf a1 x3 q2.2).bind (fun q3 => if ix x3 6 = true then ((f_X0_enter (a0 + 11) x3 q3.1 (q3.2.1 (a1 + 3) (Int32.toNatClampNeg x3)) q3.2).bind (fun q4 => f_X1_enterMembers_55 k9 a0 a1 x2 x3 q4.2)) else none)) else (f_X1_enterMembers_55 k9 a0 a1 x2 x3 q2.2)) else none)))
set_option maxHeartbeats 4000000 in
set_option maxRecDepth 100000 in
theorem t_X1_enterMembers_9 {l : Launch} {D : va_G} {ad : Nat → Nat} {cA : Nat → ClassId} {d : Nat} (hdp : 1 ≤ d) {o : Unit × Hp}  : ∀ (n : Nat) {a0 : Nat} {a1 : Nat} {x2 : Int32} {x3 : Int32} (k0 : kd a0 = 1) (k1 : kd a1 = 3) {h : Hp}, lp (F := Nat → Nat → Int32 → Int32 → Hp → Option (Unit × Hp)) (fun _ _ _ _ _ => none) (f_X1_enterMembers_9) n a0 a1 x2 x3 h = some o → J l D ad cA (fun _ => True) (rmd (d + 1)) (0, 0) (mQ D ad cA (none) o.2) cX1_enterMembers RX1 4 (none) 9 [(0, .ref (ad a0)), (1, .ref (ad a1)), (2, .int x2), (3, .int x3)] [] h := by
  intro n
  induction n with
  | zero =>
    intro a0 a1 x2 x3 k0 k1 h hf
    have hf : (none : Option (Unit × Hp)) = some o := hf
    cases hf
  | succ n hk9 =>
    intro a0 a1 x2 x3 k0 k1 h hf
    have hf : f_X1_enterMembers_9  (lp (F := Nat → Nat → Int32 → Int32 → Hp → Option (Unit × Hp)) (fun _ _ _ _ _ => none) (f_X1_enterMembers_9) n) a0 a1 x2 x3 h = some o := hf
    unfold f_X1_enterMembers_9 at hf
    refine j_iload_n (pc := 9) 3 dX1_enterMembers_9 rfl rfl ?_
    refine j_bipush (pc := 10) dX1_enterMembers_10 (v := 6) (by decide) ?_
    refine j_icmp_ge (pc := 12) (tgt := 61) dX1_enterMembers_12 (by decide) hf (fun _ hf => ?_) (fun _ hf => ?_)
    · exact j_vret (pc := 61) dX1_enterMembers_61 rfl hf
    · refine j_aload_n (pc := 15) 0 dX1_enterMembers_15 rfl rfl ?_
      refine j_getI (pc := 16) dX1_enterMembers_16 fl198 k0 (by decide) rfl ?_
      refine j_iload_n (pc := 19) 3 dX1_enterMembers_19 rfl rfl ?_
      refine j_callNi (pc := 20) (d := d) (As := [.int (h.1 a0 2), .int x3]) (st := []) dX1_enterMembers_20 s500 rfl rfl (by decide) (Nat.le_of_ble_eq_true rfl) (fun q hq => t_X8_holds  hq) hf (fun q2 hf => ?_)
      refine j_if_eq (pc := 23) (tgt := 55) dX1_enterMembers_23 (by decide) hf (fun _ hf => ?_) (fun _ hf => ?_)
      · refine j_sub [0, 1, 2, 3] rfl ?_
        exact t_X1_enterMembers_55 hdp hk9 k0 k1 hf
      · refine j_aload_n (pc := 26) 1 dX1_enterMembers_26 rfl rfl ?_
        refine j_getR (pc := 27) (n := 4) dX1_enterMembers_27 fl110 k1 (by decide) rfl ?_
        refine j_iload_n (pc := 30) 3 dX1_enterMembers_30 rfl rfl ?_
        refine j_iaload (pc := 31) dX1_enterMembers_31 (lk_3_3 k1) (ll_3_3 k1) hf (fun _ hf => ?_)
        refine j_iload_n (pc := 32) 2 dX1_enterMembers_32 rfl rfl ?_
        refine j_icmp_ne (pc := 33) (tgt := 55) dX1_enterMembers_33 (by decide) hf (fun _ hf => ?_) (fun _ hf => ?_)
        · refine j_sub [0, 1, 2, 3] rfl ?_
          exact t_X1_enterMembers_55 hdp hk9 k0 k1 hf
        · refine j_aload_n (pc := 36) 0 dX1_enterMembers_36 rfl rfl ?_
          refine j_getR (pc := 37) (n := 11) dX1_enterMembers_37 fl200 k0 (by decide) rfl ?_
          refine j_iload_n (pc := 40) 3 dX1_enterMembers_40 rfl rfl ?_
          refine j_aload_n (pc := 41) 1 dX1_enterMembers_41 rfl rfl ?_
          refine j_iload_n (pc := 42) 3 dX1_enterMembers_42 rfl rfl ?_
          refine j_callVi (pc := 43) (d := d) (As := [.int x3]) (st := [.int x3, .ref (ad (a0 + 11))]) dX1_enterMembers_43 s503 k1 (by decide) rfl rfl (by decide) (Nat.le_of_ble_eq_true rfl) (fun q hq => t_X3_totalOf (by omega) k1 hq) hf (fun q3 hf => ?_)
          refine j_aload_n (pc := 46) 1 dX1_enterMembers_46 rfl rfl ?_
          refine j_getR (pc := 47) (n := 3) dX1_enterMembers_47 fl107 k1 (by decide) rfl ?_
          refine j_iload_n (pc := 50) 3 dX1_enterMembers_50 rfl rfl ?_
          refine j_iaload (pc := 51) dX1_enterMembers_51 (lk_3_2 k1) (ll_3_2 k1) hf (fun _ hf => ?_)
          refine j_callVv (pc := 52) (d := d) (As := [.int x3, .int q3.1, .int (q3.2.1 (a1 + 3) (Int32.toNatClampNeg x3))]) (st := []) dX1_enterMembers_52 s504 (lk_1_3 k0) (by decide) rfl rfl (by decide) (Nat.le_of_ble_eq_true rfl) (fun q hq => t_X0_enter (lk_1_3 k0) hq) hf (fun q4 hf => ?_)
          refine j_sub [0, 1, 2, 3] rfl ?_
          exact t_X1_enterMembers_55 hdp hk9 k0 k1 hf
def f_X1_enterMembers (a0 : Nat) (a1 : Nat) (x2 : Int32) (h : Hp) : Option (Unit × Hp) := (f_X0_empty (a0 + 11) h).bind (fun q1 => lp (F := Nat → Nat → Int32 → Int32 → Hp → Option (Unit × Hp)) (fun _ _ _ _ _ => none) (f_X1_enterMembers_9) 1000 a0 a1 x2 0 q1.2)
set_option maxHeartbeats 4000000 in
set_option maxRecDepth 100000 in
theorem t_X1_enterMembers {l : Launch} {D : va_G} {ad : Nat → Nat} {cA : Nat → ClassId} {d : Nat} (hdp : 2 ≤ d) {a0 : Nat} {a1 : Nat} {x2 : Int32} (k0 : kd a0 = 1) (k1 : kd a1 = 3) {h : Hp} {o : Unit × Hp} (hf : f_X1_enterMembers a0 a1 x2 h = some o) : Cr l D ad cA d yX1_enterMembers cX1_enterMembers 4 (none) [.ref (ad a0), .ref (ad a1), .int x2] h (none) o.2 := by
  obtain ⟨d, rfl⟩ : ∃ e, d = e + 1 := ⟨d - 1, by omega⟩
  have hdp : 1 ≤ d := by omega
  unfold f_X1_enterMembers at hf
  refine Cr_of (by decide +kernel) rfl (Nat.le_of_ble_eq_true rfl) (lv0 := [(0, .ref (ad a0)), (1, .ref (ad a1)), (2, .int x2)]) rfl ?_
  refine j_aload_n (pc := 0) 0 dX1_enterMembers_0 rfl rfl ?_
  refine j_getR (pc := 1) (n := 11) dX1_enterMembers_1 fl200 k0 (by decide) rfl ?_
  refine j_callVv (pc := 4) (d := d) (As := []) (st := []) dX1_enterMembers_4 s492 (lk_1_3 k0) (by decide) rfl rfl (by decide) (Nat.le_of_ble_eq_true rfl) (fun q hq => t_X0_empty (by omega) (lk_1_3 k0) hq) hf (fun q1 hf => ?_)
  refine j_iconst (pc := 7) dX1_enterMembers_7 (v := 0) (by decide) ?_
  refine j_istore_n (pc := 8) (lv' := [(3, .int 0), (0, .ref (ad a0)), (1, .ref (ad a1)), (2, .int x2)]) dX1_enterMembers_8 rfl (by decide) rfl ?_
  refine j_sub [1, 2, 3, 0] rfl ?_
  exact t_X1_enterMembers_9 hdp  1000 k0 k1 hf
def f_X1_outsideQuota_149 (k46 : Nat → Nat → Int32 → Int64 → Int32 → Int32 → Hp → Option (Int32 × Hp)) (a0 : Nat) (a1 : Nat) (x2 : Int32) (x3 : Int64) (x5 : Int32) (x6 : Int32) (h : Hp) : Option (Int32 × Hp) := lt (x6 + 1) (fun v8 => k46 a0 a1 x2 x3 x5 v8 h)
set_option maxHeartbeats 4000000 in
set_option maxRecDepth 100000 in
theorem t_X1_outsideQuota_149 {l : Launch} {D : va_G} {ad : Nat → Nat} {cA : Nat → ClassId} {d : Nat} (hdp : 1 ≤ d) {o : Int32 × Hp} {k46 : Nat → Nat → Int32 → Int64 → Int32 → Int32 → Hp → Option (Int32 × Hp)} (hk46 : ∀ {a0 : Nat} {a1 : Nat} {x2 : Int32} {x3 : Int64} {x5 : Int32} {x6 : Int32} (k0 : kd a0 = 1) (k1 : kd a1 = 3) {h : Hp}, k46 a0 a1 x2 x3 x5 x6 h = some o → J l D ad cA (fun _ => True) (rmd (d + 1)) (0, 0) (mQ D ad cA (some (.int o.1)) o.2) cX1_outsideQuota RX1 13 (some .int) 46 [(0, .ref (ad a0)), (1, .ref (ad a1)), (2, .int x2), (3, .long x3), (5, .int x5), (6, .int x6)] [] h) {a0 : Nat} {a1 : Nat} {x2 : Int32} {x3 : Int64} {x5 : Int32} {x6 : Int32} (k0 : kd a0 = 1) (k1 : kd a1 = 3) {h : Hp} (hf : f_X1_outsideQuota_149 k46 a0 a1 x2 x3 x5 x6 h = some o) : J l D ad cA (fun _ => True) (rmd (d + 1)) (0, 0) (mQ D ad cA (some (.int o.1)) o.2) cX1_outsideQuota RX1 13 (some .int) 149 [(0, .ref (ad a0)), (1, .ref (ad a1)), (2, .int x2), (3, .long x3), (5, .int x5), (6, .int x6)] [] h := by
  unfold f_X1_outsideQuota_149 at hf
  refine j_iinc (pc := 149) 5 (c := 1) (lv' := fun v8 => [(6, .int v8), (0, .ref (ad a0)), (1, .ref (ad a1)), (2, .int x2), (3, .long x3), (5, .int x5)]) dX1_outsideQuota_149 rfl (by decide) (by decide) (fun _ => rfl) hf (fun v8 hf => ?_)
  refine j_goto (pc := 152) (tgt := 46) dX1_outsideQuota_152 (by decide) ?_
  refine j_sub [1, 2, 3, 4, 5, 0] rfl ?_
  exact hk46 k0 k1 hf
def f_X1_outsideQuota_140 (k46 : Nat → Nat → Int32 → Int64 → Int32 → Int32 → Hp → Option (Int32 × Hp)) (a0 : Nat) (a1 : Nat) (x2 : Int32) (x3 : Int64) (x5 : Int32) (x6 : Int32) (h : Hp) : Option (Int32 × Hp) := lt (x5 ||| (1 <<< (x6 &&& 31))) (fun v9 => f_X1_outsideQuota_149 k46 a0 a1 x2 x3 v9 x6 h)
set_option maxHeartbeats 4000000 in
set_option maxRecDepth 100000 in
theorem t_X1_outsideQuota_140 {l : Launch} {D : va_G} {ad : Nat → Nat} {cA : Nat → ClassId} {d : Nat} (hdp : 1 ≤ d) {o : Int32 × Hp} {k46 : Nat → Nat → Int32 → Int64 → Int32 → Int32 → Hp → Option (Int32 × Hp)} (hk46 : ∀ {a0 : Nat} {a1 : Nat} {x2 : Int32} {x3 : Int64} {x5 : Int32} {x6 : Int32} (k0 : kd a0 = 1) (k1 : kd a1 = 3) {h : Hp}, k46 a0 a1 x2 x3 x5 x6 h = some o → J l D ad cA (fun _ => True) (rmd (d + 1)) (0, 0) (mQ D ad cA (some (.int o.1)) o.2) cX1_outsideQuota RX1 13 (some .int) 46 [(0, .ref (ad a0)), (1, .ref (ad a1)), (2, .int x2), (3, .long x3), (5, .int x5), (6, .int x6)] [] h) {a0 : Nat} {a1 : Nat} {x2 : Int32} {x3 : Int64} {x5 : Int32} {x6 : Int32} (k0 : kd a0 = 1) (k1 : kd a1 = 3) {h : Hp} (hf : f_X1_outsideQuota_140 k46 a0 a1 x2 x3 x5 x6 h = some o) : J l D ad cA (fun _ => True) (rmd (d + 1)) (0, 0) (mQ D ad cA (some (.int o.1)) o.2) cX1_outsideQuota RX1 13 (some .int) 140 [(0, .ref (ad a0)), (1, .ref (ad a1)), (2, .int x2), (3, .long x3), (5, .int x5), (6, .int x6)] [] h := by
  unfold f_X1_outsideQuota_140 at hf
  refine j_iload (pc := 140) 4 dX1_outsideQuota_140 rfl ?_
  refine j_iconst (pc := 142) dX1_outsideQuota_142 (v := 1) (by decide) ?_
  refine j_iload (pc := 143) 5 dX1_outsideQuota_143 rfl ?_
  refine j_ishl (pc := 145) dX1_outsideQuota_145  ?_
  refine j_ior (pc := 146) dX1_outsideQuota_146  ?_
  refine j_istoreN (pc := 147) (lv' := fun v9 => [(5, .int v9), (0, .ref (ad a0)), (1, .ref (ad a1)), (2, .int x2), (3, .long x3), (6, .int x6)]) dX1_outsideQuota_147 (by decide) (fun _ => rfl) hf (fun v9 hf => ?_)
  refine j_sub [1, 2, 3, 4, 0, 5] rfl ?_
  exact t_X1_outsideQuota_149 hdp hk46 k0 k1 hf
def f_X1_outsideQuota_110 (k46 : Nat → Nat → Int32 → Int64 → Int32 → Int32 → Hp → Option (Int32 × Hp)) (a0 : Nat) (a1 : Nat) (x2 : Int32) (x3 : Int64) (x5 : Int32) (x6 : Int32) (x9 : Int64) (y0 : Int64) (h : Hp) : Option (Int32 × Hp) := if ix x6 6 = true then (if (lg_cmp (Int32.toInt64 (h.1 (a0 + 10) (Int32.toNatClampNeg x6))) x9) < 0 then (f_X1_outsideQuota_140 k46 a0 a1 x2 x3 x5 x6 h) else (if ix x6 6 = true then (if (lg_cmp (Int32.toInt64 (h.1 (a0 + 10) (Int32.toNatClampNeg x6))) y0) ≤ 0 then (f_X1_outsideQuota_149 k46 a0 a1 x2 x3 x5 x6 h) else (f_X1_outsideQuota_140 k46 a0 a1 x2 x3 x5 x6 h)) else none)) else none
set_option maxHeartbeats 4000000 in
set_option maxRecDepth 100000 in
theorem t_X1_outsideQuota_110 {l : Launch} {D : va_G} {ad : Nat → Nat} {cA : Nat → ClassId} {d : Nat} (hdp : 1 ≤ d) {o : Int32 × Hp} {k46 : Nat → Nat → Int32 → Int64 → Int32 → Int32 → Hp → Option (Int32 × Hp)} (hk46 : ∀ {a0 : Nat} {a1 : Nat} {x2 : Int32} {x3 : Int64} {x5 : Int32} {x6 : Int32} (k0 : kd a0 = 1) (k1 : kd a1 = 3) {h : Hp}, k46 a0 a1 x2 x3 x5 x6 h = some o → J l D ad cA (fun _ => True) (rmd (d + 1)) (0, 0) (mQ D ad cA (some (.int o.1)) o.2) cX1_outsideQuota RX1 13 (some .int) 46 [(0, .ref (ad a0)), (1, .ref (ad a1)), (2, .int x2), (3, .long x3), (5, .int x5), (6, .int x6)] [] h) {a0 : Nat} {a1 : Nat} {x2 : Int32} {x3 : Int64} {x5 : Int32} {x6 : Int32} {x9 : Int64} {y0 : Int64} (k0 : kd a0 = 1) (k1 : kd a1 = 3) {h : Hp} (hf : f_X1_outsideQuota_110 k46 a0 a1 x2 x3 x5 x6 x9 y0 h = some o) : J l D ad cA (fun _ => True) (rmd (d + 1)) (0, 0) (mQ D ad cA (some (.int o.1)) o.2) cX1_outsideQuota RX1 13 (some .int) 110 [(0, .ref (ad a0)), (1, .ref (ad a1)), (2, .int x2), (3, .long x3), (5, .int x5), (6, .int x6), (9, .long x9)] [.long y0] h := by
  unfold f_X1_outsideQuota_110 at hf
  refine j_lstore (pc := 110) (lv' := [(11, .long y0), (0, .ref (ad a0)), (1, .ref (ad a1)), (2, .int x2), (3, .long x3), (5, .int x5), (6, .int x6), (9, .long x9)]) dX1_outsideQuota_110 (by decide) rfl ?_
  refine j_aload_n (pc := 112) 1 dX1_outsideQuota_112 rfl rfl ?_
  refine j_getR (pc := 113) (n := 10) dX1_outsideQuota_113 fl195 k0 (by decide) rfl ?_
  refine j_iload (pc := 116) 6 dX1_outsideQuota_116 rfl ?_
  refine j_iaload (pc := 118) dX1_outsideQuota_118 (lk_1_1 k0) (ll_1_1 k0) hf (fun _ hf => ?_)
  refine j_i2l (pc := 119) dX1_outsideQuota_119  ?_
  refine j_lload (pc := 120) 7 dX1_outsideQuota_120 rfl ?_
  refine j_lcmp (pc := 122) dX1_outsideQuota_122  ?_
  refine j_if_lt (pc := 123) (tgt := 140) dX1_outsideQuota_123 (by decide) hf (fun _ hf => ?_) (fun _ hf => ?_)
  · refine j_sub [1, 2, 3, 4, 5, 6] rfl ?_
    exact t_X1_outsideQuota_140 hdp hk46 k0 k1 hf
  · refine j_aload_n (pc := 126) 1 dX1_outsideQuota_126 rfl rfl ?_
    refine j_getR (pc := 127) (n := 10) dX1_outsideQuota_127 fl195 k0 (by decide) rfl ?_
    refine j_iload (pc := 130) 6 dX1_outsideQuota_130 rfl ?_
    refine j_iaload (pc := 132) dX1_outsideQuota_132 (lk_1_1 k0) (ll_1_1 k0) hf (fun _ hf => ?_)
    refine j_i2l (pc := 133) dX1_outsideQuota_133  ?_
    refine j_lload (pc := 134) 0 dX1_outsideQuota_134 rfl ?_
    refine j_lcmp (pc := 136) dX1_outsideQuota_136  ?_
    refine j_if_le (pc := 137) (tgt := 149) dX1_outsideQuota_137 (by decide) hf (fun _ hf => ?_) (fun _ hf => ?_)
    · refine j_sub [1, 2, 3, 4, 5, 6] rfl ?_
      exact t_X1_outsideQuota_149 hdp hk46 k0 k1 hf
    · refine j_sub [1, 2, 3, 4, 5, 6] rfl ?_
      exact t_X1_outsideQuota_140 hdp hk46 k0 k1 hf
def f_X1_outsideQuota_46 (k46 : Nat → Nat → Int32 → Int64 → Int32 → Int32 → Hp → Option (Int32 × Hp)) (a0 : Nat) (a1 : Nat) (x2 : Int32) (x3 : Int64) (x5 : Int32) (x6 : Int32) (h : Hp) : Option (Int32 × Hp) := if 6 ≤ x6 then (some (x5, h)) else ((f_X8_holds (h.1 a0 2) x6 h).bind (fun q4 => if q4.1 = 0 then (f_X1_outsideQuota_149 k46 a0 a1 x2 x3 x5 x6 q4.2) else (if (lg_cmp x3 0) = 0 then (f_X1_outsideQuota_149 k46 a0 a1 x2 x3 x5 x6 q4.2) else ((f_X3_totalOf a1 x6 q4.2).bind (fun q5 => lt ((Int32.toInt64 q5.1) * (Int32.toInt64 x2)) (fun v6 => if x3 = 0 then none else (lt (v6 / x3) (fun v7 => if x3 = 0 then none else (if (lg_cmp (v6 - v6 / x3 * x3) 0) = 0 then (f_X1_outsideQuota_110 k46 a0 a1 x2 x3 x5 x6 v7 v7 q5.2) else (f_X1_outsideQuota_110 k46 a0 a1 x2 x3 x5 x6 v7 (v7 + 1) q5.2))))))))))
set_option maxHeartbeats 4000000 in
set_option maxRecDepth 100000 in
theorem t_X1_outsideQuota_46 {l : Launch} {D : va_G} {ad : Nat → Nat} {cA : Nat → ClassId} {d : Nat} (hdp : 1 ≤ d) {o : Int32 × Hp}  : ∀ (n : Nat) {a0 : Nat} {a1 : Nat} {x2 : Int32} {x3 : Int64} {x5 : Int32} {x6 : Int32} (k0 : kd a0 = 1) (k1 : kd a1 = 3) {h : Hp}, lp (F := Nat → Nat → Int32 → Int64 → Int32 → Int32 → Hp → Option (Int32 × Hp)) (fun _ _ _ _ _ _ _ => none) (f_X1_outsideQuota_46) n a0 a1 x2 x3 x5 x6 h = some o → J l D ad cA (fun _ => True) (rmd (d + 1)) (0, 0) (mQ D ad cA (some (.int o.1)) o.2) cX1_outsideQuota RX1 13 (some .int) 46 [(0, .ref (ad a0)), (1, .ref (ad a1)), (2, .int x2), (3, .long x3), (5, .int x5), (6, .int x6)] [] h := by
  intro n
  induction n with
  | zero =>
    intro a0 a1 x2 x3 x5 x6 k0 k1 h hf
    have hf : (none : Option (Int32 × Hp)) = some o := hf
    cases hf
  | succ n hk46 =>
    intro a0 a1 x2 x3 x5 x6 k0 k1 h hf
    have hf : f_X1_outsideQuota_46  (lp (F := Nat → Nat → Int32 → Int64 → Int32 → Int32 → Hp → Option (Int32 × Hp)) (fun _ _ _ _ _ _ _ => none) (f_X1_outsideQuota_46) n) a0 a1 x2 x3 x5 x6 h = some o := hf
    unfold f_X1_outsideQuota_46 at hf
    refine j_iload (pc := 46) 5 dX1_outsideQuota_46 rfl ?_
    refine j_bipush (pc := 48) dX1_outsideQuota_48 (v := 6) (by decide) ?_
    refine j_icmp_ge (pc := 50) (tgt := 155) dX1_outsideQuota_50 (by decide) hf (fun _ hf => ?_) (fun _ hf => ?_)
    · refine j_iload (pc := 155) 4 dX1_outsideQuota_155 rfl ?_
      exact j_iret (pc := 157) dX1_outsideQuota_157 rfl hf
    · refine j_aload_n (pc := 53) 0 dX1_outsideQuota_53 rfl rfl ?_
      refine j_getI (pc := 54) dX1_outsideQuota_54 fl198 k0 (by decide) rfl ?_
      refine j_iload (pc := 57) 5 dX1_outsideQuota_57 rfl ?_
      refine j_callNi (pc := 59) (d := d) (As := [.int (h.1 a0 2), .int x6]) (st := []) dX1_outsideQuota_59 s500 rfl rfl (by decide) (Nat.le_of_ble_eq_true rfl) (fun q hq => t_X8_holds  hq) hf (fun q4 hf => ?_)
      refine j_if_eq (pc := 62) (tgt := 149) dX1_outsideQuota_62 (by decide) hf (fun _ hf => ?_) (fun _ hf => ?_)
      · refine j_sub [0, 1, 2, 3, 4, 5] rfl ?_
        exact t_X1_outsideQuota_149 hdp hk46 k0 k1 hf
      · refine j_lload_n (pc := 65) 3 dX1_outsideQuota_65 rfl rfl ?_
        refine j_lconst (pc := 66) dX1_outsideQuota_66 (v := 0) rfl ?_
        refine j_lcmp (pc := 67) dX1_outsideQuota_67  ?_
        refine j_if_ne (pc := 68) (tgt := 74) dX1_outsideQuota_68 (by decide) hf (fun _ hf => ?_) (fun _ hf => ?_)
        · refine j_aload_n (pc := 74) 1 dX1_outsideQuota_74 rfl rfl ?_
          refine j_iload (pc := 75) 5 dX1_outsideQuota_75 rfl ?_
          refine j_callVi (pc := 77) (d := d) (As := [.int x6]) (st := []) dX1_outsideQuota_77 s503 k1 (by decide) rfl rfl (by decide) (Nat.le_of_ble_eq_true rfl) (fun q hq => t_X3_totalOf (by omega) k1 hq) hf (fun q5 hf => ?_)
          refine j_i2l (pc := 80) dX1_outsideQuota_80  ?_
          refine j_iload_n (pc := 81) 2 dX1_outsideQuota_81 rfl rfl ?_
          refine j_i2l (pc := 82) dX1_outsideQuota_82  ?_
          refine j_lmul (pc := 83) dX1_outsideQuota_83  ?_
          refine j_lstoreN (pc := 84) (lv' := fun v6 => [(7, .long v6), (0, .ref (ad a0)), (1, .ref (ad a1)), (2, .int x2), (3, .long x3), (5, .int x5), (6, .int x6)]) dX1_outsideQuota_84 (by decide) (fun _ => rfl) hf (fun v6 hf => ?_)
          refine j_lload (pc := 86) 0 dX1_outsideQuota_86 rfl ?_
          refine j_lload_n (pc := 88) 4 dX1_outsideQuota_88 rfl rfl ?_
          refine j_ldiv (pc := 89) dX1_outsideQuota_89 hf (fun hf => ?_)
          refine j_lstoreN (pc := 90) (lv' := fun v7 => [(9, .long v7), (7, .long v6), (0, .ref (ad a0)), (1, .ref (ad a1)), (2, .int x2), (3, .long x3), (5, .int x5), (6, .int x6)]) dX1_outsideQuota_90 (by decide) (fun _ => rfl) hf (fun v7 hf => ?_)
          refine j_lload (pc := 92) 1 dX1_outsideQuota_92 rfl ?_
          refine j_lload_n (pc := 94) 5 dX1_outsideQuota_94 rfl rfl ?_
          refine j_lrem (pc := 95) dX1_outsideQuota_95 hf (fun hf => ?_)
          refine j_lconst (pc := 96) dX1_outsideQuota_96 (v := 0) rfl ?_
          refine j_lcmp (pc := 97) dX1_outsideQuota_97  ?_
          refine j_if_ne (pc := 98) (tgt := 106) dX1_outsideQuota_98 (by decide) hf (fun _ hf => ?_) (fun _ hf => ?_)
          · refine j_lload (pc := 106) 0 dX1_outsideQuota_106 rfl ?_
            refine j_lconst (pc := 108) dX1_outsideQuota_108 (v := 1) rfl ?_
            refine j_ladd (pc := 109) dX1_outsideQuota_109  ?_
            refine j_sub [2, 3, 4, 5, 6, 7, 0] rfl ?_
            exact t_X1_outsideQuota_110 hdp hk46 k0 k1 hf
          · refine j_lload (pc := 101) 0 dX1_outsideQuota_101 rfl ?_
            refine j_goto (pc := 103) (tgt := 110) dX1_outsideQuota_103 (by decide) ?_
            refine j_sub [2, 3, 4, 5, 6, 7, 0] rfl ?_
            exact t_X1_outsideQuota_110 hdp hk46 k0 k1 hf
        · refine j_goto (pc := 71) (tgt := 149) dX1_outsideQuota_71 (by decide) ?_
          refine j_sub [0, 1, 2, 3, 4, 5] rfl ?_
          exact t_X1_outsideQuota_149 hdp hk46 k0 k1 hf
def f_X1_outsideQuota_34 (k5 : Nat → Nat → Int32 → Int64 → Int32 → Hp → Option (Int32 × Hp)) (a0 : Nat) (a1 : Nat) (x2 : Int32) (x3 : Int64) (x5 : Int32) (h : Hp) : Option (Int32 × Hp) := lt (x5 + 1) (fun v10 => k5 a0 a1 x2 x3 v10 h)
set_option maxHeartbeats 4000000 in
set_option maxRecDepth 100000 in
theorem t_X1_outsideQuota_34 {l : Launch} {D : va_G} {ad : Nat → Nat} {cA : Nat → ClassId} {d : Nat} (hdp : 1 ≤ d) {o : Int32 × Hp} {k5 : Nat → Nat → Int32 → Int64 → Int32 → Hp → Option (Int32 × Hp)} (hk5 : ∀ {a0 : Nat} {a1 : Nat} {x2 : Int32} {x3 : Int64} {x5 : Int32} (k0 : kd a0 = 1) (k1 : kd a1 = 3) {h : Hp}, k5 a0 a1 x2 x3 x5 h = some o → J l D ad cA (fun _ => True) (rmd (d + 1)) (0, 0) (mQ D ad cA (some (.int o.1)) o.2) cX1_outsideQuota RX1 13 (some .int) 5 [(0, .ref (ad a0)), (1, .ref (ad a1)), (2, .int x2), (3, .long x3), (5, .int x5)] [] h) {a0 : Nat} {a1 : Nat} {x2 : Int32} {x3 : Int64} {x5 : Int32} (k0 : kd a0 = 1) (k1 : kd a1 = 3) {h : Hp} (hf : f_X1_outsideQuota_34 k5 a0 a1 x2 x3 x5 h = some o) : J l D ad cA (fun _ => True) (rmd (d + 1)) (0, 0) (mQ D ad cA (some (.int o.1)) o.2) cX1_outsideQuota RX1 13 (some .int) 34 [(0, .ref (ad a0)), (1, .ref (ad a1)), (2, .int x2), (3, .long x3), (5, .int x5)] [] h := by
  unfold f_X1_outsideQuota_34 at hf
  refine j_iinc (pc := 34) 4 (c := 1) (lv' := fun v10 => [(5, .int v10), (0, .ref (ad a0)), (1, .ref (ad a1)), (2, .int x2), (3, .long x3)]) dX1_outsideQuota_34 rfl (by decide) (by decide) (fun _ => rfl) hf (fun v10 hf => ?_)
  refine j_goto (pc := 37) (tgt := 5) dX1_outsideQuota_37 (by decide) ?_
  refine j_sub [1, 2, 3, 4, 0] rfl ?_
  exact hk5 k0 k1 hf
def f_X1_outsideQuota_5 (k5 : Nat → Nat → Int32 → Int64 → Int32 → Hp → Option (Int32 × Hp)) (a0 : Nat) (a1 : Nat) (x2 : Int32) (x3 : Int64) (x5 : Int32) (h : Hp) : Option (Int32 × Hp) := if 6 ≤ x5 then (lp (F := Nat → Nat → Int32 → Int64 → Int32 → Int32 → Hp → Option (Int32 × Hp)) (fun _ _ _ _ _ _ _ => none) (f_X1_outsideQuota_46) 1000 a0 a1 x2 x3 0 0 h) else ((f_X8_holds (h.1 a0 2) x5 h).bind (fun q1 => if q1.1 = 0 then (f_X1_outsideQuota_34 k5 a0 a1 x2 x3 x5 q1.2) else ((f_X3_totalOf a1 x5 q1.2).bind (fun q2 => lt (x3 + (Int32.toInt64 q2.1)) (fun v3 => f_X1_outsideQuota_34 k5 a0 a1 x2 v3 x5 q2.2)))))
set_option maxHeartbeats 4000000 in
set_option maxRecDepth 100000 in
theorem t_X1_outsideQuota_5 {l : Launch} {D : va_G} {ad : Nat → Nat} {cA : Nat → ClassId} {d : Nat} (hdp : 1 ≤ d) {o : Int32 × Hp}  : ∀ (n : Nat) {a0 : Nat} {a1 : Nat} {x2 : Int32} {x3 : Int64} {x5 : Int32} (k0 : kd a0 = 1) (k1 : kd a1 = 3) {h : Hp}, lp (F := Nat → Nat → Int32 → Int64 → Int32 → Hp → Option (Int32 × Hp)) (fun _ _ _ _ _ _ => none) (f_X1_outsideQuota_5) n a0 a1 x2 x3 x5 h = some o → J l D ad cA (fun _ => True) (rmd (d + 1)) (0, 0) (mQ D ad cA (some (.int o.1)) o.2) cX1_outsideQuota RX1 13 (some .int) 5 [(0, .ref (ad a0)), (1, .ref (ad a1)), (2, .int x2), (3, .long x3), (5, .int x5)] [] h := by
  intro n
  induction n with
  | zero =>
    intro a0 a1 x2 x3 x5 k0 k1 h hf
    have hf : (none : Option (Int32 × Hp)) = some o := hf
    cases hf
  | succ n hk5 =>
    intro a0 a1 x2 x3 x5 k0 k1 h hf
    have hf : f_X1_outsideQuota_5  (lp (F := Nat → Nat → Int32 → Int64 → Int32 → Hp → Option (Int32 × Hp)) (fun _ _ _ _ _ _ => none) (f_X1_outsideQuota_5) n) a0 a1 x2 x3 x5 h = some o := hf
    unfold f_X1_outsideQuota_5 at hf
    refine j_iload (pc := 5) 4 dX1_outsideQuota_5 rfl ?_
    refine j_bipush (pc := 7) dX1_outsideQuota_7 (v := 6) (by decide) ?_
    refine j_icmp_ge (pc := 9) (tgt := 40) dX1_outsideQuota_9 (by decide) hf (fun _ hf => ?_) (fun _ hf => ?_)
    · refine j_iconst (pc := 40) dX1_outsideQuota_40 (v := 0) (by decide) ?_
      refine j_istore (pc := 41) (lv' := [(5, .int 0), (0, .ref (ad a0)), (1, .ref (ad a1)), (2, .int x2), (3, .long x3)]) dX1_outsideQuota_41 (by decide) rfl ?_
      refine j_iconst (pc := 43) dX1_outsideQuota_43 (v := 0) (by decide) ?_
      refine j_istore (pc := 44) (lv' := [(6, .int 0), (5, .int 0), (0, .ref (ad a0)), (1, .ref (ad a1)), (2, .int x2), (3, .long x3)]) dX1_outsideQuota_44 (by decide) rfl ?_
      refine j_sub [2, 3, 4, 5, 1, 0] rfl ?_
      exact t_X1_outsideQuota_46 hdp  1000 k0 k1 hf
    · refine j_aload_n (pc := 12) 0 dX1_outsideQuota_12 rfl rfl ?_
      refine j_getI (pc := 13) dX1_outsideQuota_13 fl198 k0 (by decide) rfl ?_
      refine j_iload (pc := 16) 4 dX1_outsideQuota_16 rfl ?_
      refine j_callNi (pc := 18) (d := d) (As := [.int (h.1 a0 2), .int x5]) (st := []) dX1_outsideQuota_18 s500 rfl rfl (by decide) (Nat.le_of_ble_eq_true rfl) (fun q hq => t_X8_holds  hq) hf (fun q1 hf => ?_)
      refine j_if_eq (pc := 21) (tgt := 34) dX1_outsideQuota_21 (by decide) hf (fun _ hf => ?_) (fun _ hf => ?_)
      · refine j_sub [0, 1, 2, 3, 4] rfl ?_
        exact t_X1_outsideQuota_34 hdp hk5 k0 k1 hf
      · refine j_lload_n (pc := 24) 3 dX1_outsideQuota_24 rfl rfl ?_
        refine j_aload_n (pc := 25) 1 dX1_outsideQuota_25 rfl rfl ?_
        refine j_iload (pc := 26) 4 dX1_outsideQuota_26 rfl ?_
        refine j_callVi (pc := 28) (d := d) (As := [.int x5]) (st := [.long x3]) dX1_outsideQuota_28 s503 k1 (by decide) rfl rfl (by decide) (Nat.le_of_ble_eq_true rfl) (fun q hq => t_X3_totalOf (by omega) k1 hq) hf (fun q2 hf => ?_)
        refine j_i2l (pc := 31) dX1_outsideQuota_31  ?_
        refine j_ladd (pc := 32) dX1_outsideQuota_32  ?_
        refine j_lstore_nN (pc := 33) (lv' := fun v3 => [(3, .long v3), (0, .ref (ad a0)), (1, .ref (ad a1)), (2, .int x2), (5, .int x5)]) dX1_outsideQuota_33 rfl (by decide) (fun _ => rfl) hf (fun v3 hf => ?_)
        refine j_sub [1, 2, 3, 0, 4] rfl ?_
        exact t_X1_outsideQuota_34 hdp hk5 k0 k1 hf
def f_X1_outsideQuota (a0 : Nat) (a1 : Nat) (x2 : Int32) (h : Hp) : Option (Int32 × Hp) := lp (F := Nat → Nat → Int32 → Int64 → Int32 → Hp → Option (Int32 × Hp)) (fun _ _ _ _ _ _ => none) (f_X1_outsideQuota_5) 1000 a0 a1 x2 0 0 h
set_option maxHeartbeats 4000000 in
set_option maxRecDepth 100000 in
theorem t_X1_outsideQuota {l : Launch} {D : va_G} {ad : Nat → Nat} {cA : Nat → ClassId} {d : Nat} (hdp : 2 ≤ d) {a0 : Nat} {a1 : Nat} {x2 : Int32} (k0 : kd a0 = 1) (k1 : kd a1 = 3) {h : Hp} {o : Int32 × Hp} (hf : f_X1_outsideQuota a0 a1 x2 h = some o) : Cr l D ad cA d yX1_outsideQuota cX1_outsideQuota 13 (some .int) [.ref (ad a0), .ref (ad a1), .int x2] h (some (.int o.1)) o.2 := by
  obtain ⟨d, rfl⟩ : ∃ e, d = e + 1 := ⟨d - 1, by omega⟩
  have hdp : 1 ≤ d := by omega
  unfold f_X1_outsideQuota at hf
  refine Cr_of (by decide +kernel) rfl (Nat.le_of_ble_eq_true rfl) (lv0 := [(0, .ref (ad a0)), (1, .ref (ad a1)), (2, .int x2)]) rfl ?_
  refine j_lconst (pc := 0) dX1_outsideQuota_0 (v := 0) rfl ?_
  refine j_lstore_n (pc := 1) (lv' := [(3, .long 0), (0, .ref (ad a0)), (1, .ref (ad a1)), (2, .int x2)]) dX1_outsideQuota_1 rfl (by decide) rfl ?_
  refine j_iconst (pc := 2) dX1_outsideQuota_2 (v := 0) (by decide) ?_
  refine j_istore (pc := 3) (lv' := [(5, .int 0), (3, .long 0), (0, .ref (ad a0)), (1, .ref (ad a1)), (2, .int x2)]) dX1_outsideQuota_3 (by decide) rfl ?_
  refine j_sub [2, 3, 4, 1, 0] rfl ?_
  exact t_X1_outsideQuota_5 hdp  1000 k0 k1 hf
