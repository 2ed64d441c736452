def f_J13_compare_74951 (x0 : Int64) (x2 : Int64) (h : Hp) : Option (Int32 × Hp) := if 0 ≤ (lg_cmp x0 x2) then (if (lg_cmp x0 x2) = 0 then (some (0, h)) else (some (1, h))) else (some ((-1), h))
set_option maxHeartbeats 4000000 in
set_option maxRecDepth 100000 in
theorem t_J13_compare_74951 {l : Launch} {D : va_G} {ad : Nat → Nat} {cA : Nat → ClassId} {d : Nat} {x0 : Int64} {x2 : Int64}  {h : Hp} {o : Int32 × Hp} (hf : f_J13_compare_74951 x0 x2 h = some o) : Cr l D ad cA d yJ13_compare_74951 cJ13_compare_74951 4 (some .int) [.long x0, .long x2] h (some (.int o.1)) o.2 := by
  unfold f_J13_compare_74951 at hf
  refine Cr_of (by decide +kernel) rfl (Nat.le_of_ble_eq_true rfl) (lv0 := [(0, .long x0), (2, .long x2)]) rfl ?_
  refine j_lload_n (pc := 0) 0 dJ13_compare_74951_0 rfl rfl ?_
  refine j_lload_n (pc := 1) 1 dJ13_compare_74951_1 rfl rfl ?_
  refine j_lcmp (pc := 2) dJ13_compare_74951_2  ?_
  refine j_if_ge (pc := 3) (tgt := 10) dJ13_compare_74951_3 (by decide) hf (fun _ hf => ?_) (fun _ hf => ?_)
  · refine j_lload_n (pc := 10) 0 dJ13_compare_74951_10 rfl rfl ?_
    refine j_lload_n (pc := 11) 1 dJ13_compare_74951_11 rfl rfl ?_
    refine j_lcmp (pc := 12) dJ13_compare_74951_12  ?_
    refine j_if_ne (pc := 13) (tgt := 20) dJ13_compare_74951_13 (by decide) hf (fun _ hf => ?_) (fun _ hf => ?_)
    · refine j_iconst (pc := 20) dJ13_compare_74951_20 (v := 1) (by decide) ?_
      exact j_iret (pc := 21) dJ13_compare_74951_21 rfl hf
    · refine j_iconst (pc := 16) dJ13_compare_74951_16 (v := 0) (by decide) ?_
      refine j_goto (pc := 17) (tgt := 21) dJ13_compare_74951_17 (by decide) ?_
      exact j_iret (pc := 21) dJ13_compare_74951_21 rfl hf
  · refine j_iconst (pc := 6) dJ13_compare_74951_6 (v := -1) (by decide) ?_
    refine j_goto (pc := 7) (tgt := 21) dJ13_compare_74951_7 (by decide) ?_
    exact j_iret (pc := 21) dJ13_compare_74951_21 rfl hf
def f_J6_bitCount_0f7a4 (x0 : Int32) (h : Hp) : Option (Int32 × Hp) := lt (x0 - (((Int32.toUInt32 x0 >>> (Int32.toUInt32 1 &&& Int32.toUInt32 31)).toInt32) &&& 1431655765)) (fun v1 => lt ((v1 &&& 858993459) + (((Int32.toUInt32 v1 >>> (Int32.toUInt32 2 &&& Int32.toUInt32 31)).toInt32) &&& 858993459)) (fun v2 => lt ((v2 + ((Int32.toUInt32 v2 >>> (Int32.toUInt32 4 &&& Int32.toUInt32 31)).toInt32)) &&& 252645135) (fun v3 => lt (v3 + ((Int32.toUInt32 v3 >>> (Int32.toUInt32 8 &&& Int32.toUInt32 31)).toInt32)) (fun v4 => lt (v4 + ((Int32.toUInt32 v4 >>> (Int32.toUInt32 16 &&& Int32.toUInt32 31)).toInt32)) (fun v5 => some (v5 &&& 63, h))))))
set_option maxHeartbeats 4000000 in
set_option maxRecDepth 100000 in
theorem t_J6_bitCount_0f7a4 {l : Launch} {D : va_G} {ad : Nat → Nat} {cA : Nat → ClassId} {d : Nat} {x0 : Int32}  {h : Hp} {o : Int32 × Hp} (hf : f_J6_bitCount_0f7a4 x0 h = some o) : Cr l D ad cA d yJ6_bitCount_0f7a4 cJ6_bitCount_0f7a4 1 (some .int) [.int x0] h (some (.int o.1)) o.2 := by
  unfold f_J6_bitCount_0f7a4 at hf
  refine Cr_of (by decide +kernel) rfl (Nat.le_of_ble_eq_true rfl) (lv0 := [(0, .int x0)]) rfl ?_
  refine j_iload_n (pc := 0) 0 dJ6_bitCount_0f7a4_0 rfl rfl ?_
  refine j_iload_n (pc := 1) 0 dJ6_bitCount_0f7a4_1 rfl rfl ?_
  refine j_iconst (pc := 2) dJ6_bitCount_0f7a4_2 (v := 1) (by decide) ?_
  refine j_iushr (pc := 3) dJ6_bitCount_0f7a4_3  ?_
  refine j_ldc_w (pc := 4) dJ6_bitCount_0f7a4_4 (v := 1431655765) w_c703 ?_
  refine j_iand (pc := 7) dJ6_bitCount_0f7a4_7  ?_
  refine j_isub (pc := 8) dJ6_bitCount_0f7a4_8  ?_
  refine j_istore_nN (pc := 9) (lv' := fun v1 => [(0, .int v1)]) dJ6_bitCount_0f7a4_9 rfl (by decide) (fun _ => rfl) hf (fun v1 hf => ?_)
  refine j_iload_n (pc := 10) 0 dJ6_bitCount_0f7a4_10 rfl rfl ?_
  refine j_ldc_w (pc := 11) dJ6_bitCount_0f7a4_11 (v := 858993459) w_c704 ?_
  refine j_iand (pc := 14) dJ6_bitCount_0f7a4_14  ?_
  refine j_iload_n (pc := 15) 0 dJ6_bitCount_0f7a4_15 rfl rfl ?_
  refine j_iconst (pc := 16) dJ6_bitCount_0f7a4_16 (v := 2) (by decide) ?_
  refine j_iushr (pc := 17) dJ6_bitCount_0f7a4_17  ?_
  refine j_ldc_w (pc := 18) dJ6_bitCount_0f7a4_18 (v := 858993459) w_c704 ?_
  refine j_iand (pc := 21) dJ6_bitCount_0f7a4_21  ?_
  refine j_iadd (pc := 22) dJ6_bitCount_0f7a4_22  ?_
  refine j_istore_nN (pc := 23) (lv' := fun v2 => [(0, .int v2)]) dJ6_bitCount_0f7a4_23 rfl (by decide) (fun _ => rfl) hf (fun v2 hf => ?_)
  refine j_iload_n (pc := 24) 0 dJ6_bitCount_0f7a4_24 rfl rfl ?_
  refine j_iload_n (pc := 25) 0 dJ6_bitCount_0f7a4_25 rfl rfl ?_
  refine j_iconst (pc := 26) dJ6_bitCount_0f7a4_26 (v := 4) (by decide) ?_
  refine j_iushr (pc := 27) dJ6_bitCount_0f7a4_27  ?_
  refine j_iadd (pc := 28) dJ6_bitCount_0f7a4_28  ?_
  refine j_ldc_w (pc := 29) dJ6_bitCount_0f7a4_29 (v := 252645135) w_c705 ?_
  refine j_iand (pc := 32) dJ6_bitCount_0f7a4_32  ?_
  refine j_istore_nN (pc := 33) (lv' := fun v3 => [(0, .int v3)]) dJ6_bitCount_0f7a4_33 rfl (by decide) (fun _ => rfl) hf (fun v3 hf => ?_)
  refine j_iload_n (pc := 34) 0 dJ6_bitCount_0f7a4_34 rfl rfl ?_
  refine j_iload_n (pc := 35) 0 dJ6_bitCount_0f7a4_35 rfl rfl ?_
  refine j_bipush (pc := 36) dJ6_bitCount_0f7a4_36 (v := 8) (by decide) ?_
  refine j_iushr (pc := 38) dJ6_bitCount_0f7a4_38  ?_
  refine j_iadd (pc := 39) dJ6_bitCount_0f7a4_39  ?_
  refine j_istore_nN (pc := 40) (lv' := fun v4 => [(0, .int v4)]) dJ6_bitCount_0f7a4_40 rfl (by decide) (fun _ => rfl) hf (fun v4 hf => ?_)
  refine j_iload_n (pc := 41) 0 dJ6_bitCount_0f7a4_41 rfl rfl ?_
  refine j_iload_n (pc := 42) 0 dJ6_bitCount_0f7a4_42 rfl rfl ?_
  refine j_bipush (pc := 43) dJ6_bitCount_0f7a4_43 (v := 16) (by decide) ?_
  refine j_iushr (pc := 45) dJ6_bitCount_0f7a4_45  ?_
  refine j_iadd (pc := 46) dJ6_bitCount_0f7a4_46  ?_
  refine j_istore_nN (pc := 47) (lv' := fun v5 => [(0, .int v5)]) dJ6_bitCount_0f7a4_47 rfl (by decide) (fun _ => rfl) hf (fun v5 hf => ?_)
  refine j_iload_n (pc := 48) 0 dJ6_bitCount_0f7a4_48 rfl rfl ?_
  refine j_bipush (pc := 49) dJ6_bitCount_0f7a4_49 (v := 63) (by decide) ?_
  refine j_iand (pc := 51) dJ6_bitCount_0f7a4_51  ?_
  exact j_iret (pc := 52) dJ6_bitCount_0f7a4_52 rfl hf
def f_J7_fill_53178_5 (k5 : Nat → Int32 → Int32 → Int32 → Hp → Option (Unit × Hp)) (a0 : Nat) (x1 : Int32) (x2 : Int32) (x3 : Int32) (h : Hp) : Option (Unit × Hp) := if x3 ≤ x2 then (some ((), h)) else (if ix x2 (ln a0) = true then (lt (sI h a0 (Int32.toNatClampNeg x2) x1) (fun m2 => lt (x2 + 1) (fun v3 => k5 a0 x1 v3 x3 m2))) else none)
set_option maxHeartbeats 4000000 in
set_option maxRecDepth 100000 in
theorem t_J7_fill_53178_5 {l : Launch} {D : va_G} {ad : Nat → Nat} {cA : Nat → ClassId} {d : Nat} {o : Unit × Hp}  : ∀ (n : Nat) {a0 : Nat} {x1 : Int32} {x2 : Int32} {x3 : Int32} (k0 : kd a0 = 10) {h : Hp}, lp (F := Nat → Int32 → Int32 → Int32 → Hp → Option (Unit × Hp)) (fun _ _ _ _ _ => none) (f_J7_fill_53178_5) n a0 x1 x2 x3 h = some o → J l D ad cA (fun _ => True) (rmd d) (0, 0) (mQ D ad cA (none) o.2) cJ7_fill_53178 RJ7 4 (none) 5 [(0, .ref (ad a0)), (1, .int x1), (2, .int x2), (3, .int x3)] [] h := by
  intro n
  induction n with
  | zero =>
    intro a0 x1 x2 x3 k0 h hf
    have hf : (none : Option (Unit × Hp)) = some o := hf
    cases hf
  | succ n hk5 =>
    intro a0 x1 x2 x3 k0 h hf
    have hf : f_J7_fill_53178_5  (lp (F := Nat → Int32 → Int32 → Int32 → Hp → Option (Unit × Hp)) (fun _ _ _ _ _ => none) (f_J7_fill_53178_5) n) a0 x1 x2 x3 h = some o := hf
    unfold f_J7_fill_53178_5 at hf
    refine j_iload_n (pc := 5) 2 dJ7_fill_53178_5 rfl rfl ?_
    refine j_iload_n (pc := 6) 3 dJ7_fill_53178_6 rfl rfl ?_
    refine j_icmp_ge (pc := 7) (tgt := 20) dJ7_fill_53178_7 (by decide) hf (fun _ hf => ?_) (fun _ hf => ?_)
    · exact j_vret (pc := 20) dJ7_fill_53178_20 rfl hf
    · refine j_aload_n (pc := 10) 0 dJ7_fill_53178_10 rfl rfl ?_
      refine j_iload_n (pc := 11) 2 dJ7_fill_53178_11 rfl rfl ?_
      refine j_iload_n (pc := 12) 1 dJ7_fill_53178_12 rfl rfl ?_
      refine j_iastore (pc := 13) dJ7_fill_53178_13 k0 rfl hf (fun m2 hf => ?_)
      refine j_iinc (pc := 14) 2 (c := 1) (lv' := fun v3 => [(2, .int v3), (0, .ref (ad a0)), (1, .int x1), (3, .int x3)]) dJ7_fill_53178_14 rfl (by decide) (by decide) (fun _ => rfl) hf (fun v3 hf => ?_)
      refine j_goto (pc := 17) (tgt := 5) dJ7_fill_53178_17 (by decide) ?_
      refine j_sub [1, 2, 0, 3] rfl ?_
      exact hk5 k0 hf
def f_J7_fill_53178 (a0 : Nat) (x1 : Int32) (h : Hp) : Option (Unit × Hp) := lt (Int32.ofNat (ln a0)) (fun v1 => lp (F := Nat → Int32 → Int32 → Int32 → Hp → Option (Unit × Hp)) (fun _ _ _ _ _ => none) (f_J7_fill_53178_5) 1000 a0 x1 0 v1 h)
set_option maxHeartbeats 4000000 in
set_option maxRecDepth 100000 in
theorem t_J7_fill_53178 {l : Launch} {D : va_G} {ad : Nat → Nat} {cA : Nat → ClassId} {d : Nat} {a0 : Nat} {x1 : Int32} (k0 : kd a0 = 10) {h : Hp} {o : Unit × Hp} (hf : f_J7_fill_53178 a0 x1 h = some o) : Cr l D ad cA d yJ7_fill_53178 cJ7_fill_53178 4 (none) [.ref (ad a0), .int x1] h (none) o.2 := by
  unfold f_J7_fill_53178 at hf
  refine Cr_of (by decide +kernel) rfl (Nat.le_of_ble_eq_true rfl) (lv0 := [(0, .ref (ad a0)), (1, .int x1)]) rfl ?_
  refine j_iconst (pc := 0) dJ7_fill_53178_0 (v := 0) (by decide) ?_
  refine j_istore_n (pc := 1) (lv' := [(2, .int 0), (0, .ref (ad a0)), (1, .int x1)]) dJ7_fill_53178_1 rfl (by decide) rfl ?_
  refine j_aload_n (pc := 2) 1 dJ7_fill_53178_2 rfl rfl ?_
  refine j_alen10 (pc := 3) dJ7_fill_53178_3 k0 rfl ?_
  refine j_istore_nN (pc := 4) (lv' := fun v1 => [(3, .int v1), (2, .int 0), (0, .ref (ad a0)), (1, .int x1)]) dJ7_fill_53178_4 rfl (by decide) (fun _ => rfl) hf (fun v1 hf => ?_)
  refine j_sub [2, 3, 1, 0] rfl ?_
  exact t_J7_fill_53178_5  1000 k0 hf
def f_J7_fill_d0a16_6 (k6 : Nat → Int64 → Int32 → Int32 → Hp → Option (Unit × Hp)) (a0 : Nat) (x1 : Int64) (x3 : Int32) (x4 : Int32) (h : Hp) : Option (Unit × Hp) := if x4 ≤ x3 then (some ((), h)) else (if ix x3 (ln a0) = true then (lt (sL h a0 (Int32.toNatClampNeg x3) x1) (fun m2 => lt (x3 + 1) (fun v3 => k6 a0 x1 v3 x4 m2))) else none)
set_option maxHeartbeats 4000000 in
set_option maxRecDepth 100000 in
theorem t_J7_fill_d0a16_6 {l : Launch} {D : va_G} {ad : Nat → Nat} {cA : Nat → ClassId} {d : Nat} {o : Unit × Hp}  : ∀ (n : Nat) {a0 : Nat} {x1 : Int64} {x3 : Int32} {x4 : Int32} (k0 : kd a0 = 11) {h : Hp}, lp (F := Nat → Int64 → Int32 → Int32 → Hp → Option (Unit × Hp)) (fun _ _ _ _ _ => none) (f_J7_fill_d0a16_6) n a0 x1 x3 x4 h = some o → J l D ad cA (fun _ => True) (rmd d) (0, 0) (mQ D ad cA (none) o.2) cJ7_fill_d0a16 RJ7 5 (none) 6 [(0, .ref (ad a0)), (1, .long x1), (3, .int x3), (4, .int x4)] [] h := by
  intro n
  induction n with
  | zero =>
    intro a0 x1 x3 x4 k0 h hf
    have hf : (none : Option (Unit × Hp)) = some o := hf
    cases hf
  | succ n hk6 =>
    intro a0 x1 x3 x4 k0 h hf
    have hf : f_J7_fill_d0a16_6  (lp (F := Nat → Int64 → Int32 → Int32 → Hp → Option (Unit × Hp)) (fun _ _ _ _ _ => none) (f_J7_fill_d0a16_6) n) a0 x1 x3 x4 h = some o := hf
    unfold f_J7_fill_d0a16_6 at hf
    refine j_iload_n (pc := 6) 2 dJ7_fill_d0a16_6 rfl rfl ?_
    refine j_iload (pc := 7) 3 dJ7_fill_d0a16_7 rfl ?_
    refine j_icmp_ge (pc := 9) (tgt := 22) dJ7_fill_d0a16_9 (by decide) hf (fun _ hf => ?_) (fun _ hf => ?_)
    · exact j_vret (pc := 22) dJ7_fill_d0a16_22 rfl hf
    · refine j_aload_n (pc := 12) 0 dJ7_fill_d0a16_12 rfl rfl ?_
      refine j_iload_n (pc := 13) 2 dJ7_fill_d0a16_13 rfl rfl ?_
      refine j_lload_n (pc := 14) 1 dJ7_fill_d0a16_14 rfl rfl ?_
      refine j_lastore (pc := 15) dJ7_fill_d0a16_15 k0 rfl hf (fun m2 hf => ?_)
      refine j_iinc (pc := 16) 2 (c := 1) (lv' := fun v3 => [(3, .int v3), (0, .ref (ad a0)), (1, .long x1), (4, .int x4)]) dJ7_fill_d0a16_16 rfl (by decide) (by decide) (fun _ => rfl) hf (fun v3 hf => ?_)
      refine j_goto (pc := 19) (tgt := 6) dJ7_fill_d0a16_19 (by decide) ?_
      refine j_sub [1, 2, 0, 3] rfl ?_
      exact hk6 k0 hf
def f_J7_fill_d0a16 (a0 : Nat) (x1 : Int64) (h : Hp) : Option (Unit × Hp) := lt (Int32.ofNat (ln a0)) (fun v1 => lp (F := Nat → Int64 → Int32 → Int32 → Hp → Option (Unit × Hp)) (fun _ _ _ _ _ => none) (f_J7_fill_d0a16_6) 1000 a0 x1 0 v1 h)
set_option maxHeartbeats 4000000 in
set_option maxRecDepth 100000 in
theorem t_J7_fill_d0a16 {l : Launch} {D : va_G} {ad : Nat → Nat} {cA : Nat → ClassId} {d : Nat} {a0 : Nat} {x1 : Int64} (k0 : kd a0 = 11) {h : Hp} {o : Unit × Hp} (hf : f_J7_fill_d0a16 a0 x1 h = some o) : Cr l D ad cA d yJ7_fill_d0a16 cJ7_fill_d0a16 5 (none) [.ref (ad a0), .long x1] h (none) o.2 := by
  unfold f_J7_fill_d0a16 at hf
  refine Cr_of (by decide +kernel) rfl (Nat.le_of_ble_eq_true rfl) (lv0 := [(0, .ref (ad a0)), (1, .long x1)]) rfl ?_
  refine j_iconst (pc := 0) dJ7_fill_d0a16_0 (v := 0) (by decide) ?_
  refine j_istore_n (pc := 1) (lv' := [(3, .int 0), (0, .ref (ad a0)), (1, .long x1)]) dJ7_fill_d0a16_1 rfl (by decide) rfl ?_
  refine j_aload_n (pc := 2) 1 dJ7_fill_d0a16_2 rfl rfl ?_
  refine j_alen11 (pc := 3) dJ7_fill_d0a16_3 k0 rfl ?_
  refine j_istoreN (pc := 4) (lv' := fun v1 => [(4, .int v1), (3, .int 0), (0, .ref (ad a0)), (1, .long x1)]) dJ7_fill_d0a16_4 (by decide) (fun _ => rfl) hf (fun v1 hf => ?_)
  refine j_sub [2, 3, 1, 0] rfl ?_
  exact t_J7_fill_d0a16_6  1000 k0 hf
def f_X0_enter (a0 : Nat) (x1 : Int32) (x2 : Int32) (x3 : Int32) (h : Hp) : Option (Unit × Hp) := lt (sI h a0 4 ((h.1 a0 4) ||| (1 <<< (x1 &&& 31)))) (fun m1 => if ix x1 6 = true then (if ix x1 6 = true then (lt (sL m1 (a0 + 3) (Int32.toNatClampNeg x1) ((m1.2 (a0 + 3) (Int32.toNatClampNeg x1)) + (Int32.toInt64 x2))) (fun m2 => if ix x1 6 = true then (if ix x1 6 = true then (lt (sI m2 (a0 + 4) (Int32.toNatClampNeg x1) ((m2.1 (a0 + 4) (Int32.toNatClampNeg x1)) + x3)) (fun m3 => some ((), m3))) else none) else none)) else none) else none)
set_option maxHeartbeats 4000000 in
set_option maxRecDepth 100000 in
theorem t_X0_enter {l : Launch} {D : va_G} {ad : Nat → Nat} {cA : Nat → ClassId} {d : Nat} {a0 : Nat} {x1 : Int32} {x2 : Int32} {x3 : Int32} (k0 : kd a0 = 0) {h : Hp} {o : Unit × Hp} (hf : f_X0_enter a0 x1 x2 x3 h = some o) : Cr l D ad cA d yX0_enter cX0_enter 4 (none) [.ref (ad a0), .int x1, .int x2, .int x3] h (none) o.2 := by
  unfold f_X0_enter at hf
  refine Cr_of (by decide +kernel) rfl (Nat.le_of_ble_eq_true rfl) (lv0 := [(0, .ref (ad a0)), (1, .int x1), (2, .int x2), (3, .int x3)]) rfl ?_
  refine j_aload_n (pc := 0) 0 dX0_enter_0 rfl rfl ?_
  refine j_dup (pc := 1) dX0_enter_1 rfl ?_
  refine j_getI (pc := 2) dX0_enter_2 fl162 k0 (by decide) rfl ?_
  refine j_iconst (pc := 5) dX0_enter_5 (v := 1) (by decide) ?_
  refine j_iload_n (pc := 6) 1 dX0_enter_6 rfl rfl ?_
  refine j_ishl (pc := 7) dX0_enter_7  ?_
  refine j_ior (pc := 8) dX0_enter_8  ?_
  refine j_putI (pc := 9) dX0_enter_9 fl162 fp0_4 k0 (by decide) rfl hf (fun m1 hf => ?_)
  refine j_aload_n (pc := 12) 0 dX0_enter_12 rfl rfl ?_
  refine j_getR (pc := 13) (n := 3) dX0_enter_13 fl163 k0 (by decide) rfl ?_
  refine j_iload_n (pc := 16) 1 dX0_enter_16 rfl rfl ?_
  refine j_dup2 (pc := 17) dX0_enter_17 rfl rfl ?_
  refine j_laload (pc := 18) dX0_enter_18 (lk_0_5 k0) (ll_0_5 k0) hf (fun _ hf => ?_)
  refine j_iload_n (pc := 19) 2 dX0_enter_19 rfl rfl ?_
  refine j_i2l (pc := 20) dX0_enter_20  ?_
  refine j_ladd (pc := 21) dX0_enter_21  ?_
  refine j_lastore (pc := 22) dX0_enter_22 (lk_0_5 k0) (ll_0_5 k0) hf (fun m2 hf => ?_)
  refine j_aload_n (pc := 23) 0 dX0_enter_23 rfl rfl ?_
  refine j_getR (pc := 24) (n := 4) dX0_enter_24 fl164 k0 (by decide) rfl ?_
  refine j_iload_n (pc := 27) 1 dX0_enter_27 rfl rfl ?_
  refine j_dup2 (pc := 28) dX0_enter_28 rfl rfl ?_
  refine j_iaload (pc := 29) dX0_enter_29 (lk_0_6 k0) (ll_0_6 k0) hf (fun _ hf => ?_)
  refine j_iload_n (pc := 30) 3 dX0_enter_30 rfl rfl ?_
  refine j_iadd (pc := 31) dX0_enter_31  ?_
  refine j_iastore (pc := 32) dX0_enter_32 (lk_0_6 k0) (ll_0_6 k0) hf (fun m3 hf => ?_)
  exact j_vret (pc := 33) dX0_enter_33 rfl hf
def f_X0_rank_49  (a0 : Nat) (x1 : Int32) (x2 : Int32) (x3 : Int32) (h : Hp) : Option (Int32 × Hp) := if ix x3 6 = true then (lt (sI h (a0 + 8) (Int32.toNatClampNeg x3) x1) (fun m3 => some (x2 + 1, m3))) else none
set_option maxHeartbeats 4000000 in
set_option maxRecDepth 100000 in
theorem t_X0_rank_49 {l : Launch} {D : va_G} {ad : Nat → Nat} {cA : Nat → ClassId} {d : Nat} {o : Int32 × Hp}  {a0 : Nat} {x1 : Int32} {x2 : Int32} {x3 : Int32} (k0 : kd a0 = 0) {h : Hp} (hf : f_X0_rank_49  a0 x1 x2 x3 h = some o) : J l D ad cA (fun _ => True) (rmd d) (0, 0) (mQ D ad cA (some (.int o.1)) o.2) cX0_rank RX0 4 (some .int) 49 [(0, .ref (ad a0)), (1, .int x1), (2, .int x2), (3, .int x3)] [] h := by
  unfold f_X0_rank_49 at hf
  refine j_aload_n (pc := 49) 0 dX0_rank_49 rfl rfl ?_
  refine j_getR (pc := 50) (n := 8) dX0_rank_50 fl168 k0 (by decide) rfl ?_
  refine j_iload_n (pc := 53) 3 dX0_rank_53 rfl rfl ?_
  refine j_iload_n (pc := 54) 1 dX0_rank_54 rfl rfl ?_
  refine j_iastore (pc := 55) dX0_rank_55 (lk_0_10 k0) (ll_0_10 k0) hf (fun m3 hf => ?_)
  refine j_iload_n (pc := 56) 2 dX0_rank_56 rfl rfl ?_
  refine j_iconst (pc := 57) dX0_rank_57 (v := 1) (by decide) ?_
  refine j_iadd (pc := 58) dX0_rank_58  ?_
  exact j_iret (pc := 59) dX0_rank_59 rfl hf
def f_X0_rank_2 (k2 : Nat → Int32 → Int32 → Int32 → Hp → Option (Int32 × Hp)) (a0 : Nat) (x1 : Int32) (x2 : Int32) (x3 : Int32) (h : Hp) : Option (Int32 × Hp) := if x3 ≤ 0 then (f_X0_rank_49  a0 x1 x2 x3 h) else (if ix (x3 - 1) 6 = true then (if ix (h.1 (a0 + 8) (Int32.toNatClampNeg (x3 - 1))) 6 = true then (if ix x1 6 = true then (if 0 ≤ (lg_cmp (h.2 (a0 + 7) (Int32.toNatClampNeg (h.1 (a0 + 8) (Int32.toNatClampNeg (x3 - 1))))) (h.2 (a0 + 7) (Int32.toNatClampNeg x1))) then (f_X0_rank_49  a0 x1 x2 x3 h) else (if ix (x3 - 1) 6 = true then (if ix x3 6 = true then (lt (sI h (a0 + 8) (Int32.toNatClampNeg x3) (h.1 (a0 + 8) (Int32.toNatClampNeg (x3 - 1)))) (fun m1 => lt (x3 + (-1)) (fun v2 => k2 a0 x1 x2 v2 m1))) else none) else none)) else none) else none) else none)
set_option maxHeartbeats 4000000 in
set_option maxRecDepth 100000 in
theorem t_X0_rank_2 {l : Launch} {D : va_G} {ad : Nat → Nat} {cA : Nat → ClassId} {d : Nat} {o : Int32 × Hp}  : ∀ (n : Nat) {a0 : Nat} {x1 : Int32} {x2 : Int32} {x3 : Int32} (k0 : kd a0 = 0) {h : Hp}, lp (F := Nat → Int32 → Int32 → Int32 → Hp → Option (Int32 × Hp)) (fun _ _ _ _ _ => none) (f_X0_rank_2) n a0 x1 x2 x3 h = some o → J l D ad cA (fun _ => True) (rmd d) (0, 0) (mQ D ad cA (some (.int o.1)) o.2) cX0_rank RX0 4 (some .int) 2 [(0, .ref (ad a0)), (1, .int x1), (2, .int x2), (3, .int x3)] [] h := by
  intro n
  induction n with
  | zero =>
    intro a0 x1 x2 x3 k0 h hf
    have hf : (none : Option (Int32 × Hp)) = some o := hf
    cases hf
  | succ n hk2 =>
    intro a0 x1 x2 x3 k0 h hf
    have hf : f_X0_rank_2  (lp (F := Nat → Int32 → Int32 → Int32 → Hp → Option (Int32 × Hp)) (fun _ _ _ _ _ => none) (f_X0_rank_2) n) a0 x1 x2 x3 h = some o := hf
    unfold f_X0_rank_2 at hf
    refine j_iload_n (pc := 2) 3 dX0_rank_2 rfl rfl ?_
    refine j_if_le (pc := 3) (tgt := 49) dX0_rank_3 (by decide) hf (fun _ hf => ?_) (fun _ hf => ?_)
    · refine j_sub [0, 1, 2, 3] rfl ?_
      exact t_X0_rank_49  k0 hf
    · refine j_aload_n (pc := 6) 0 dX0_rank_6 rfl rfl ?_
      refine j_getR (pc := 7) (n := 7) dX0_rank_7 fl167 k0 (by decide) rfl ?_
      refine j_aload_n (pc := 10) 0 dX0_rank_10 rfl rfl ?_
      refine j_getR (pc := 11) (n := 8) dX0_rank_11 fl168 k0 (by decide) rfl ?_
      refine j_iload_n (pc := 14) 3 dX0_rank_14 rfl rfl ?_
      refine j_iconst (pc := 15) dX0_rank_15 (v := 1) (by decide) ?_
      refine j_isub (pc := 16) dX0_rank_16  ?_
      refine j_iaload (pc := 17) dX0_rank_17 (lk_0_10 k0) (ll_0_10 k0) hf (fun _ hf => ?_)
      refine j_laload (pc := 18) dX0_rank_18 (lk_0_9 k0) (ll_0_9 k0) hf (fun _ hf => ?_)
      refine j_aload_n (pc := 19) 0 dX0_rank_19 rfl rfl ?_
      refine j_getR (pc := 20) (n := 7) dX0_rank_20 fl167 k0 (by decide) rfl ?_
      refine j_iload_n (pc := 23) 1 dX0_rank_23 rfl rfl ?_
      refine j_laload (pc := 24) dX0_rank_24 (lk_0_9 k0) (ll_0_9 k0) hf (fun _ hf => ?_)
      refine j_lcmp (pc := 25) dX0_rank_25  ?_
      refine j_if_ge (pc := 26) (tgt := 49) dX0_rank_26 (by decide) hf (fun _ hf => ?_) (fun _ hf => ?_)
      · refine j_sub [0, 1, 2, 3] rfl ?_
        exact t_X0_rank_49  k0 hf
      · refine j_aload_n (pc := 29) 0 dX0_rank_29 rfl rfl ?_
        refine j_getR (pc := 30) (n := 8) dX0_rank_30 fl168 k0 (by decide) rfl ?_
        refine j_iload_n (pc := 33) 3 dX0_rank_33 rfl rfl ?_
        refine j_aload_n (pc := 34) 0 dX0_rank_34 rfl rfl ?_
        refine j_getR (pc := 35) (n := 8) dX0_rank_35 fl168 k0 (by decide) rfl ?_
        refine j_iload_n (pc := 38) 3 dX0_rank_38 rfl rfl ?_
        refine j_iconst (pc := 39) dX0_rank_39 (v := 1) (by decide) ?_
        refine j_isub (pc := 40) dX0_rank_40  ?_
        refine j_iaload (pc := 41) dX0_rank_41 (lk_0_10 k0) (ll_0_10 k0) hf (fun _ hf => ?_)
        refine j_iastore (pc := 42) dX0_rank_42 (lk_0_10 k0) (ll_0_10 k0) hf (fun m1 hf => ?_)
        refine j_iinc (pc := 43) 3 (c := -1) (lv' := fun v2 => [(3, .int v2), (0, .ref (ad a0)), (1, .int x1), (2, .int x2)]) dX0_rank_43 rfl (by decide) (by decide) (fun _ => rfl) hf (fun v2 hf => ?_)
        refine j_goto (pc := 46) (tgt := 2) dX0_rank_46 (by decide) ?_
        refine j_sub [1, 2, 3, 0] rfl ?_
        exact hk2 k0 hf
def f_X0_rank (a0 : Nat) (x1 : Int32) (x2 : Int32) (h : Hp) : Option (Int32 × Hp) := lp (F := Nat → Int32 → Int32 → Int32 → Hp → Option (Int32 × Hp)) (fun _ _ _ _ _ => none) (f_X0_rank_2) 1000 a0 x1 x2 x2 h
set_option maxHeartbeats 4000000 in
set_option maxRecDepth 100000 in
theorem t_X0_rank {l : Launch} {D : va_G} {ad : Nat → Nat} {cA : Nat → ClassId} {d : Nat} {a0 : Nat} {x1 : Int32} {x2 : Int32} (k0 : kd a0 = 0) {h : Hp} {o : Int32 × Hp} (hf : f_X0_rank a0 x1 x2 h = some o) : Cr l D ad cA d yX0_rank cX0_rank 4 (some .int) [.ref (ad a0), .int x1, .int x2] h (some (.int o.1)) o.2 := by
  unfold f_X0_rank at hf
  refine Cr_of (by decide +kernel) rfl (Nat.le_of_ble_eq_true rfl) (lv0 := [(0, .ref (ad a0)), (1, .int x1), (2, .int x2)]) rfl ?_
  refine j_iload_n (pc := 0) 2 dX0_rank_0 rfl rfl ?_
  refine j_istore_n (pc := 1) (lv' := [(3, .int x2), (0, .ref (ad a0)), (1, .int x1), (2, .int x2)]) dX0_rank_1 rfl (by decide) rfl ?_
  refine j_sub [1, 2, 3, 0] rfl ?_
  exact t_X0_rank_2  1000 k0 hf
def f_X1_leastBelow_2 (k2 : Nat → Nat → Int32 → Hp → Option (Int32 × Hp)) (a0 : Nat) (a1 : Nat) (x2 : Int32) (h : Hp) : Option (Int32 × Hp) := if 6 ≤ x2 then (some ((-1), h)) else (if ix x2 6 = true then (if ix x2 6 = true then (if (h.1 (a1 + 10) (Int32.toNatClampNeg x2)) ≤ (h.1 (a0 + 10) (Int32.toNatClampNeg x2)) then (lt (x2 + 1) (fun v1 => k2 a0 a1 v1 h)) else (some (x2, h))) else none) else none)
set_option maxHeartbeats 4000000 in
set_option maxRecDepth 100000 in
theorem t_X1_leastBelow_2 {l : Launch} {D : va_G} {ad : Nat → Nat} {cA : Nat → ClassId} {d : Nat} {o : Int32 × Hp}  : ∀ (n : Nat) {a0 : Nat} {a1 : Nat} {x2 : Int32} (k0 : kd a0 = 1) (k1 : kd a1 = 1) {h : Hp}, lp (F := Nat → Nat → Int32 → Hp → Option (Int32 × Hp)) (fun _ _ _ _ => none) (f_X1_leastBelow_2) n a0 a1 x2 h = some o → J l D ad cA (fun _ => True) (rmd d) (0, 0) (mQ D ad cA (some (.int o.1)) o.2) cX1_leastBelow RX1 3 (some .int) 2 [(0, .ref (ad a0)), (1, .ref (ad a1)), (2, .int x2)] [] h := by
  intro n
  induction n with
  | zero =>
    intro a0 a1 x2 k0 k1 h hf
    have hf : (none : Option (Int32 × Hp)) = some o := hf
    cases hf
  | succ n hk2 =>
    intro a0 a1 x2 k0 k1 h hf
    have hf : f_X1_leastBelow_2  (lp (F := Nat → Nat → Int32 → Hp → Option (Int32 × Hp)) (fun _ _ _ _ => none) (f_X1_leastBelow_2) n) a0 a1 x2 h = some o := hf
    unfold f_X1_leastBelow_2 at hf
    refine j_iload_n (pc := 2) 2 dX1_leastBelow_2 rfl rfl ?_
    refine j_bipush (pc := 3) dX1_leastBelow_3 (v := 6) (by decide) ?_
    refine j_icmp_ge (pc := 5) (tgt := 31) dX1_leastBelow_5 (by decide) hf (fun _ hf => ?_) (fun _ hf => ?_)
    · refine j_iconst (pc := 31) dX1_leastBelow_31 (v := -1) (by decide) ?_
      exact j_iret (pc := 32) dX1_leastBelow_32 rfl hf
    · refine j_aload_n (pc := 8) 0 dX1_leastBelow_8 rfl rfl ?_
      refine j_getR (pc := 9) (n := 10) dX1_leastBelow_9 fl195 k0 (by decide) rfl ?_
      refine j_iload_n (pc := 12) 2 dX1_leastBelow_12 rfl rfl ?_
      refine j_iaload (pc := 13) dX1_leastBelow_13 (lk_1_1 k0) (ll_1_1 k0) hf (fun _ hf => ?_)
      refine j_aload_n (pc := 14) 1 dX1_leastBelow_14 rfl rfl ?_
      refine j_getR (pc := 15) (n := 10) dX1_leastBelow_15 fl195 k1 (by decide) rfl ?_
      refine j_iload_n (pc := 18) 2 dX1_leastBelow_18 rfl rfl ?_
      refine j_iaload (pc := 19) dX1_leastBelow_19 (lk_1_1 k1) (ll_1_1 k1) hf (fun _ hf => ?_)
      refine j_icmp_ge (pc := 20) (tgt := 25) dX1_leastBelow_20 (by decide) hf (fun _ hf => ?_) (fun _ hf => ?_)
      · refine j_iinc (pc := 25) 2 (c := 1) (lv' := fun v1 => [(2, .int v1), (0, .ref (ad a0)), (1, .ref (ad a1))]) dX1_leastBelow_25 rfl (by decide) (by decide) (fun _ => rfl) hf (fun v1 hf => ?_)
        refine j_goto (pc := 28) (tgt := 2) dX1_leastBelow_28 (by decide) ?_
        refine j_sub [1, 2, 0] rfl ?_
        exact hk2 k0 k1 hf
      · refine j_iload_n (pc := 23) 2 dX1_leastBelow_23 rfl rfl ?_
        exact j_iret (pc := 24) dX1_leastBelow_24 rfl hf
def f_X1_leastBelow (a0 : Nat) (a1 : Nat) (h : Hp) : Option (Int32 × Hp) := lp (F := Nat → Nat → Int32 → Hp → Option (Int32 × Hp)) (fun _ _ _ _ => none) (f_X1_leastBelow_2) 1000 a0 a1 0 h
set_option maxHeartbeats 4000000 in
set_option maxRecDepth 100000 in
theorem t_X1_leastBelow {l : Launch} {D : va_G} {ad : Nat → Nat} {cA : Nat → ClassId} {d : Nat} {a0 : Nat} {a1 : Nat} (k0 : kd a0 = 1) (k1 : kd a1 = 1) {h : Hp} {o : Int32 × Hp} (hf : f_X1_leastBelow a0 a1 h = some o) : Cr l D ad cA d yX1_leastBelow cX1_leastBelow 3 (some .int) [.ref (ad a0), .ref (ad a1)] h (some (.int o.1)) o.2 := by
  unfold f_X1_leastBelow at hf
  refine Cr_of (by decide +kernel) rfl (Nat.le_of_ble_eq_true rfl) (lv0 := [(0, .ref (ad a0)), (1, .ref (ad a1))]) rfl ?_
  refine j_iconst (pc := 0) dX1_leastBelow_0 (v := 0) (by decide) ?_
  refine j_istore_n (pc := 1) (lv' := [(2, .int 0), (0, .ref (ad a0)), (1, .ref (ad a1))]) dX1_leastBelow_1 rfl (by decide) rfl ?_
  refine j_sub [1, 2, 0] rfl ?_
  exact t_X1_leastBelow_2  1000 k0 k1 hf
def f_X2_forget (a0 : Nat) (h : Hp) : Option (Unit × Hp) := lt (sI h a0 4 1) (fun m1 => some ((), m1))
set_option maxHeartbeats 4000000 in
set_option maxRecDepth 100000 in
theorem t_X2_forget {l : Launch} {D : va_G} {ad : Nat → Nat} {cA : Nat → ClassId} {d : Nat} {a0 : Nat} (k0 : kd a0 = 2) {h : Hp} {o : Unit × Hp} (hf : f_X2_forget a0 h = some o) : Cr l D ad cA d yX2_forget cX2_forget 1 (none) [.ref (ad a0)] h (none) o.2 := by
  unfold f_X2_forget at hf
  refine Cr_of (by decide +kernel) rfl (Nat.le_of_ble_eq_true rfl) (lv0 := [(0, .ref (ad a0))]) rfl ?_
  refine j_aload_n (pc := 0) 0 dX2_forget_0 rfl rfl ?_
  refine j_iconst (pc := 1) dX2_forget_1 (v := 1) (by decide) ?_
  refine j_putZ (pc := 2) dX2_forget_2 fl269 fp2_4 k0 (by decide) rfl (by decide) hf (fun m1 hf => ?_)
  exact j_vret (pc := 5) dX2_forget_5 rfl hf
def f_X2_hasPlans_19   (h : Hp) : Option (Int32 × Hp) := if isB 1 = true then some (1, h) else none
set_option maxHeartbeats 4000000 in
set_option maxRecDepth 100000 in
theorem t_X2_hasPlans_19 {l : Launch} {D : va_G} {ad : Nat → Nat} {cA : Nat → ClassId} {d : Nat} {o : Int32 × Hp}    {h : Hp} (hf : f_X2_hasPlans_19   h = some o) : J l D ad cA (fun _ => True) (rmd d) (0, 0) (mQ D ad cA (some (.int o.1)) o.2) cX2_hasPlans RX2 1 (some .boolean) 19 [] [] h := by
  unfold f_X2_hasPlans_19 at hf
  refine j_iconst (pc := 19) dX2_hasPlans_19 (v := 1) (by decide) ?_
  refine j_goto (pc := 20) (tgt := 24) dX2_hasPlans_20 (by decide) ?_
  exact j_zret (pc := 24) dX2_hasPlans_24 rfl hf
def f_X2_hasPlans (x0 : Int32) (h : Hp) : Option (Int32 × Hp) := if x0 = 0 then (f_X2_hasPlans_19   h) else (if x0 = 1 then (f_X2_hasPlans_19   h) else (if x0 = 2 then (f_X2_hasPlans_19   h) else (if x0 = 5 then (f_X2_hasPlans_19   h) else (if isB 0 = true then some (0, h) else none))))
set_option maxHeartbeats 4000000 in
set_option maxRecDepth 100000 in
theorem t_X2_hasPlans {l : Launch} {D : va_G} {ad : Nat → Nat} {cA : Nat → ClassId} {d : Nat} {x0 : Int32}  {h : Hp} {o : Int32 × Hp} (hf : f_X2_hasPlans x0 h = some o) : Cr l D ad cA d yX2_hasPlans cX2_hasPlans 1 (some .boolean) [.int x0] h (some (.int o.1)) o.2 := by
  unfold f_X2_hasPlans at hf
  refine Cr_of (by decide +kernel) rfl (Nat.le_of_ble_eq_true rfl) (lv0 := [(0, .int x0)]) rfl ?_
  refine j_iload_n (pc := 0) 0 dX2_hasPlans_0 rfl rfl ?_
  refine j_if_eq (pc := 1) (tgt := 19) dX2_hasPlans_1 (by decide) hf (fun _ hf => ?_) (fun _ hf => ?_)
  · refine j_sub [] rfl ?_
    exact t_X2_hasPlans_19   hf
  · refine j_iload_n (pc := 4) 0 dX2_hasPlans_4 rfl rfl ?_
    refine j_iconst (pc := 5) dX2_hasPlans_5 (v := 1) (by decide) ?_
    refine j_icmp_eq (pc := 6) (tgt := 19) dX2_hasPlans_6 (by decide) hf (fun _ hf => ?_) (fun _ hf => ?_)
    · refine j_sub [] rfl ?_
      exact t_X2_hasPlans_19   hf
    · refine j_iload_n (pc := 9) 0 dX2_hasPlans_9 rfl rfl ?_
      refine j_iconst (pc := 10) dX2_hasPlans_10 (v := 2) (by decide) ?_
      refine j_icmp_eq (pc := 11) (tgt := 19) dX2_hasPlans_11 (by decide) hf (fun _ hf => ?_) (fun _ hf => ?_)
      · refine j_sub [] rfl ?_
        exact t_X2_hasPlans_19   hf
      · refine j_iload_n (pc := 14) 0 dX2_hasPlans_14 rfl rfl ?_
        refine j_iconst (pc := 15) dX2_hasPlans_15 (v := 5) (by decide) ?_
        refine j_icmp_ne (pc := 16) (tgt := 23) dX2_hasPlans_16 (by decide) hf (fun _ hf => ?_) (fun _ hf => ?_)
        · refine j_iconst (pc := 23) dX2_hasPlans_23 (v := 0) (by decide) ?_
          exact j_zret (pc := 24) dX2_hasPlans_24 rfl hf
        · refine j_sub [] rfl ?_
          exact t_X2_hasPlans_19   hf
def f_X3_markAbove (a0 : Nat) (x1 : Int32) (x2 : Int32) (h : Hp) : Option (Int64 × Hp) := if x1 = 0 then (some (Int32.toInt64 x2, h)) else (if x1 = 1 then (some ((2 * (Int32.toInt64 x2)) - 1, h)) else (if x1 = 2 then (some (Int32.toInt64 (x2 - 1), h)) else (if x1 = 3 then (some ((Int32.toInt64 x2) * (Int32.toInt64 (x2 - 1)), h)) else (if x1 = 4 then (some ((2 * (Int32.toInt64 x2)) * (Int32.toInt64 (x2 - 1)), h)) else (some (((Int32.toInt64 (h.1 a0 7)) * (Int32.toInt64 (x2 - 1))) + (Int32.toInt64 (h.1 a0 6)), h))))))
set_option maxHeartbeats 4000000 in
set_option maxRecDepth 100000 in
theorem t_X3_markAbove {l : Launch} {D : va_G} {ad : Nat → Nat} {cA : Nat → ClassId} {d : Nat} {a0 : Nat} {x1 : Int32} {x2 : Int32} (k0 : kd a0 = 3) {h : Hp} {o : Int64 × Hp} (hf : f_X3_markAbove a0 x1 x2 h = some o) : Cr l D ad cA d yX3_markAbove cX3_markAbove 3 (some .long) [.ref (ad a0), .int x1, .int x2] h (some (.long o.1)) o.2 := by
  unfold f_X3_markAbove at hf
  refine Cr_of (by decide +kernel) rfl (Nat.le_of_ble_eq_true rfl) (lv0 := [(0, .ref (ad a0)), (1, .int x1), (2, .int x2)]) rfl ?_
  refine j_iload_n (pc := 0) 1 dX3_markAbove_0 rfl rfl ?_
  refine j_ite hf (fun hc1 hf => ?_) (fun hc1 hf => ?_)
  · refine j_tin (pc := 1) (tgt := 36) dX3_markAbove_1 (by rw [hc1]; decide) (by rw [hc1]; decide) (by rw [hc1]; rfl) (by decide) ?_
    refine j_iload_n (pc := 36) 2 dX3_markAbove_36 rfl rfl ?_
    refine j_i2l (pc := 37) dX3_markAbove_37  ?_
    exact j_lret (pc := 38) dX3_markAbove_38 rfl hf
  refine j_ite hf (fun hc2 hf => ?_) (fun hc2 hf => ?_)
  · refine j_tin (pc := 1) (tgt := 39) dX3_markAbove_1 (by rw [hc2]; decide) (by rw [hc2]; decide) (by rw [hc2]; rfl) (by decide) ?_
    refine j_ldc2_w (pc := 39) dX3_markAbove_39 (v := 2) w_c536 ?_
    refine j_iload_n (pc := 42) 2 dX3_markAbove_42 rfl rfl ?_
    refine j_i2l (pc := 43) dX3_markAbove_43  ?_
    refine j_lmul (pc := 44) dX3_markAbove_44  ?_
    refine j_lconst (pc := 45) dX3_markAbove_45 (v := 1) rfl ?_
    refine j_lsub (pc := 46) dX3_markAbove_46  ?_
    exact j_lret (pc := 47) dX3_markAbove_47 rfl hf
  refine j_ite hf (fun hc3 hf => ?_) (fun hc3 hf => ?_)
  · refine j_tin (pc := 1) (tgt := 48) dX3_markAbove_1 (by rw [hc3]; decide) (by rw [hc3]; decide) (by rw [hc3]; rfl) (by decide) ?_
    refine j_iload_n (pc := 48) 2 dX3_markAbove_48 rfl rfl ?_
    refine j_iconst (pc := 49) dX3_markAbove_49 (v := 1) (by decide) ?_
    refine j_isub (pc := 50) dX3_markAbove_50  ?_
    refine j_i2l (pc := 51) dX3_markAbove_51  ?_
    exact j_lret (pc := 52) dX3_markAbove_52 rfl hf
  refine j_ite hf (fun hc4 hf => ?_) (fun hc4 hf => ?_)
  · refine j_tin (pc := 1) (tgt := 53) dX3_markAbove_1 (by rw [hc4]; decide) (by rw [hc4]; decide) (by rw [hc4]; rfl) (by decide) ?_
    refine j_iload_n (pc := 53) 2 dX3_markAbove_53 rfl rfl ?_
    refine j_i2l (pc := 54) dX3_markAbove_54  ?_
    refine j_iload_n (pc := 55) 2 dX3_markAbove_55 rfl rfl ?_
    refine j_iconst (pc := 56) dX3_markAbove_56 (v := 1) (by decide) ?_
    refine j_isub (pc := 57) dX3_markAbove_57  ?_
    refine j_i2l (pc := 58) dX3_markAbove_58  ?_
    refine j_lmul (pc := 59) dX3_markAbove_59  ?_
    exact j_lret (pc := 60) dX3_markAbove_60 rfl hf
  refine j_ite hf (fun hc5 hf => ?_) (fun hc5 hf => ?_)
  · refine j_tin (pc := 1) (tgt := 61) dX3_markAbove_1 (by rw [hc5]; decide) (by rw [hc5]; decide) (by rw [hc5]; rfl) (by decide) ?_
    refine j_ldc2_w (pc := 61) dX3_markAbove_61 (v := 2) w_c536 ?_
    refine j_iload_n (pc := 64) 2 dX3_markAbove_64 rfl rfl ?_
    refine j_i2l (pc := 65) dX3_markAbove_65  ?_
    refine j_lmul (pc := 66) dX3_markAbove_66  ?_
    refine j_iload_n (pc := 67) 2 dX3_markAbove_67 rfl rfl ?_
    refine j_iconst (pc := 68) dX3_markAbove_68 (v := 1) (by decide) ?_
    refine j_isub (pc := 69) dX3_markAbove_69  ?_
    refine j_i2l (pc := 70) dX3_markAbove_70  ?_
    refine j_lmul (pc := 71) dX3_markAbove_71  ?_
    exact j_lret (pc := 72) dX3_markAbove_72 rfl hf
  refine j_tout (pc := 1) (tgt := 73) dX3_markAbove_1 (tsw (lo := 0) (hi := 4) (by decide) (fun j h1 h2 => by
      rcases (show j = 0 ∨ j = 1 ∨ j = 2 ∨ j = 3 ∨ j = 4 by omega) with rfl | rfl | rfl | rfl | rfl
      · exact hc1
      · exact hc2
      · exact hc3
      · exact hc4
      · exact hc5)) (by decide) ?_
  refine j_aload_n (pc := 73) 0 dX3_markAbove_73 rfl rfl ?_
  refine j_getI (pc := 74) dX3_markAbove_74 fl120 k0 (by decide) rfl ?_
  refine j_i2l (pc := 77) dX3_markAbove_77  ?_
  refine j_iload_n (pc := 78) 2 dX3_markAbove_78 rfl rfl ?_
  refine j_iconst (pc := 79) dX3_markAbove_79 (v := 1) (by decide) ?_
  refine j_isub (pc := 80) dX3_markAbove_80  ?_
  refine j_i2l (pc := 81) dX3_markAbove_81  ?_
  refine j_lmul (pc := 82) dX3_markAbove_82  ?_
  refine j_aload_n (pc := 83) 0 dX3_markAbove_83 rfl rfl ?_
  refine j_getI (pc := 84) dX3_markAbove_84 fl118 k0 (by decide) rfl ?_
  refine j_i2l (pc := 87) dX3_markAbove_87  ?_
  refine j_ladd (pc := 88) dX3_markAbove_88  ?_
  exact j_lret (pc := 89) dX3_markAbove_89 rfl hf
def f_X3_priceAbove (a0 : Nat) (x1 : Int32) (x2 : Int64) (x4 : Int32) (h : Hp) : Option (Int64 × Hp) := if x1 = 1 then (some (x2 * 2, h)) else (if x1 = 2 then (some (x2, h)) else (if x1 = 3 then (some (x2 * x2, h)) else (if x1 = 4 then (some (x2 * ((2 * (Int32.toInt64 x4)) - 1), h)) else (if x1 = 5 then (some (x2 * (Int32.toInt64 (h.1 a0 7)), h)) else (some (x2, h))))))
set_option maxHeartbeats 4000000 in
set_option maxRecDepth 100000 in
theorem t_X3_priceAbove {l : Launch} {D : va_G} {ad : Nat → Nat} {cA : Nat → ClassId} {d : Nat} {a0 : Nat} {x1 : Int32} {x2 : Int64} {x4 : Int32} (k0 : kd a0 = 3) {h : Hp} {o : Int64 × Hp} (hf : f_X3_priceAbove a0 x1 x2 x4 h = some o) : Cr l D ad cA d yX3_priceAbove cX3_priceAbove 5 (some .long) [.ref (ad a0), .int x1, .long x2, .int x4] h (some (.long o.1)) o.2 := by
  unfold f_X3_priceAbove at hf
  refine Cr_of (by decide +kernel) rfl (Nat.le_of_ble_eq_true rfl) (lv0 := [(0, .ref (ad a0)), (1, .int x1), (2, .long x2), (4, .int x4)]) rfl ?_
  refine j_iload_n (pc := 0) 1 dX3_priceAbove_0 rfl rfl ?_
  refine j_ite hf (fun hc1 hf => ?_) (fun hc1 hf => ?_)
  · refine j_tin (pc := 1) (tgt := 36) dX3_priceAbove_1 (by rw [hc1]; decide) (by rw [hc1]; decide) (by rw [hc1]; rfl) (by decide) ?_
    refine j_lload_n (pc := 36) 2 dX3_priceAbove_36 rfl rfl ?_
    refine j_ldc2_w (pc := 37) dX3_priceAbove_37 (v := 2) w_c536 ?_
    refine j_lmul (pc := 40) dX3_priceAbove_40  ?_
    exact j_lret (pc := 41) dX3_priceAbove_41 rfl hf
  refine j_ite hf (fun hc2 hf => ?_) (fun hc2 hf => ?_)
  · refine j_tin (pc := 1) (tgt := 66) dX3_priceAbove_1 (by rw [hc2]; decide) (by rw [hc2]; decide) (by rw [hc2]; rfl) (by decide) ?_
    refine j_lload_n (pc := 66) 2 dX3_priceAbove_66 rfl rfl ?_
    exact j_lret (pc := 67) dX3_priceAbove_67 rfl hf
  refine j_ite hf (fun hc3 hf => ?_) (fun hc3 hf => ?_)
  · refine j_tin (pc := 1) (tgt := 42) dX3_priceAbove_1 (by rw [hc3]; decide) (by rw [hc3]; decide) (by rw [hc3]; rfl) (by decide) ?_
    refine j_lload_n (pc := 42) 2 dX3_priceAbove_42 rfl rfl ?_
    refine j_lload_n (pc := 43) 2 dX3_priceAbove_43 rfl rfl ?_
    refine j_lmul (pc := 44) dX3_priceAbove_44  ?_
    exact j_lret (pc := 45) dX3_priceAbove_45 rfl hf
  refine j_ite hf (fun hc4 hf => ?_) (fun hc4 hf => ?_)
  · refine j_tin (pc := 1) (tgt := 46) dX3_priceAbove_1 (by rw [hc4]; decide) (by rw [hc4]; decide) (by rw [hc4]; rfl) (by decide) ?_
    refine j_lload_n (pc := 46) 2 dX3_priceAbove_46 rfl rfl ?_
    refine j_ldc2_w (pc := 47) dX3_priceAbove_47 (v := 2) w_c536 ?_
    refine j_iload (pc := 50) 3 dX3_priceAbove_50 rfl ?_
    refine j_i2l (pc := 52) dX3_priceAbove_52  ?_
    refine j_lmul (pc := 53) dX3_priceAbove_53  ?_
    refine j_lconst (pc := 54) dX3_priceAbove_54 (v := 1) rfl ?_
    refine j_lsub (pc := 55) dX3_priceAbove_55  ?_
    refine j_lmul (pc := 56) dX3_priceAbove_56  ?_
    exact j_lret (pc := 57) dX3_priceAbove_57 rfl hf
  refine j_ite hf (fun hc5 hf => ?_) (fun hc5 hf => ?_)
  · refine j_tin (pc := 1) (tgt := 58) dX3_priceAbove_1 (by rw [hc5]; decide) (by rw [hc5]; decide) (by rw [hc5]; rfl) (by decide) ?_
    refine j_lload_n (pc := 58) 2 dX3_priceAbove_58 rfl rfl ?_
    refine j_aload_n (pc := 59) 0 dX3_priceAbove_59 rfl rfl ?_
    refine j_getI (pc := 60) dX3_priceAbove_60 fl120 k0 (by decide) rfl ?_
    refine j_i2l (pc := 63) dX3_priceAbove_63  ?_
    refine j_lmul (pc := 64) dX3_priceAbove_64  ?_
    exact j_lret (pc := 65) dX3_priceAbove_65 rfl hf
  refine j_tout (pc := 1) (tgt := 66) dX3_priceAbove_1 (tsw (lo := 1) (hi := 5) (by decide) (fun j h1 h2 => by
      rcases (show j = 1 ∨ j = 2 ∨ j = 3 ∨ j = 4 ∨ j = 5 by omega) with rfl | rfl | rfl | rfl | rfl
      · exact hc1
      · exact hc2
      · exact hc3
      · exact hc4
      · exact hc5)) (by decide) ?_
  refine j_lload_n (pc := 66) 2 dX3_priceAbove_66 rfl rfl ?_
  exact j_lret (pc := 67) dX3_priceAbove_67 rfl hf
def f_X3_sumOfAll_4 (k4 : Nat → Int32 → Int32 → Hp → Option (Int32 × Hp)) (a0 : Nat) (x1 : Int32) (x2 : Int32) (h : Hp) : Option (Int32 × Hp) := if 24 ≤ x2 then (some (x1, h)) else (if ix x2 24 = true then (lt (x1 + (h.1 (a0 + 1) (Int32.toNatClampNeg x2))) (fun v1 => lt (x2 + 1) (fun v2 => k4 a0 v1 v2 h))) else none)
set_option maxHeartbeats 4000000 in
set_option maxRecDepth 100000 in
theorem t_X3_sumOfAll_4 {l : Launch} {D : va_G} {ad : Nat → Nat} {cA : Nat → ClassId} {d : Nat} {o : Int32 × Hp}  : ∀ (n : Nat) {a0 : Nat} {x1 : Int32} {x2 : Int32} (k0 : kd a0 = 3) {h : Hp}, lp (F := Nat → Int32 → Int32 → Hp → Option (Int32 × Hp)) (fun _ _ _ _ => none) (f_X3_sumOfAll_4) n a0 x1 x2 h = some o → J l D ad cA (fun _ => True) (rmd d) (0, 0) (mQ D ad cA (some (.int o.1)) o.2) cX3_sumOfAll RX3 3 (some .int) 4 [(0, .ref (ad a0)), (1, .int x1), (2, .int x2)] [] h := by
  intro n
  induction n with
  | zero =>
    intro a0 x1 x2 k0 h hf
    have hf : (none : Option (Int32 × Hp)) = some o := hf
    cases hf
  | succ n hk4 =>
    intro a0 x1 x2 k0 h hf
    have hf : f_X3_sumOfAll_4  (lp (F := Nat → Int32 → Int32 → Hp → Option (Int32 × Hp)) (fun _ _ _ _ => none) (f_X3_sumOfAll_4) n) a0 x1 x2 h = some o := hf
    unfold f_X3_sumOfAll_4 at hf
    refine j_iload_n (pc := 4) 2 dX3_sumOfAll_4 rfl rfl ?_
    refine j_bipush (pc := 5) dX3_sumOfAll_5 (v := 24) (by decide) ?_
    refine j_icmp_ge (pc := 7) (tgt := 25) dX3_sumOfAll_7 (by decide) hf (fun _ hf => ?_) (fun _ hf => ?_)
    · refine j_iload_n (pc := 25) 1 dX3_sumOfAll_25 rfl rfl ?_
      exact j_iret (pc := 26) dX3_sumOfAll_26 rfl hf
    · refine j_iload_n (pc := 10) 1 dX3_sumOfAll_10 rfl rfl ?_
      refine j_aload_n (pc := 11) 0 dX3_sumOfAll_11 rfl rfl ?_
      refine j_getR (pc := 12) (n := 1) dX3_sumOfAll_12 fl98 k0 (by decide) rfl ?_
      refine j_iload_n (pc := 15) 2 dX3_sumOfAll_15 rfl rfl ?_
      refine j_iaload (pc := 16) dX3_sumOfAll_16 (lk_3_0 k0) (ll_3_0 k0) hf (fun _ hf => ?_)
      refine j_iadd (pc := 17) dX3_sumOfAll_17  ?_
      refine j_istore_nN (pc := 18) (lv' := fun v1 => [(1, .int v1), (0, .ref (ad a0)), (2, .int x2)]) dX3_sumOfAll_18 rfl (by decide) (fun _ => rfl) hf (fun v1 hf => ?_)
      refine j_iinc (pc := 19) 2 (c := 1) (lv' := fun v2 => [(2, .int v2), (1, .int v1), (0, .ref (ad a0))]) dX3_sumOfAll_19 rfl (by decide) (by decide) (fun _ => rfl) hf (fun v2 hf => ?_)
      refine j_goto (pc := 22) (tgt := 4) dX3_sumOfAll_22 (by decide) ?_
      refine j_sub [2, 1, 0] rfl ?_
      exact hk4 k0 hf
def f_X3_sumOfAll (a0 : Nat) (h : Hp) : Option (Int32 × Hp) := lp (F := Nat → Int32 → Int32 → Hp → Option (Int32 × Hp)) (fun _ _ _ _ => none) (f_X3_sumOfAll_4) 1000 a0 0 0 h
set_option maxHeartbeats 4000000 in
set_option maxRecDepth 100000 in
theorem t_X3_sumOfAll {l : Launch} {D : va_G} {ad : Nat → Nat} {cA : Nat → ClassId} {d : Nat} {a0 : Nat} (k0 : kd a0 = 3) {h : Hp} {o : Int32 × Hp} (hf : f_X3_sumOfAll a0 h = some o) : Cr l D ad cA d yX3_sumOfAll cX3_sumOfAll 3 (some .int) [.ref (ad a0)] h (some (.int o.1)) o.2 := by
  unfold f_X3_sumOfAll at hf
  refine Cr_of (by decide +kernel) rfl (Nat.le_of_ble_eq_true rfl) (lv0 := [(0, .ref (ad a0))]) rfl ?_
  refine j_iconst (pc := 0) dX3_sumOfAll_0 (v := 0) (by decide) ?_
  refine j_istore_n (pc := 1) (lv' := [(1, .int 0), (0, .ref (ad a0))]) dX3_sumOfAll_1 rfl (by decide) rfl ?_
  refine j_iconst (pc := 2) dX3_sumOfAll_2 (v := 0) (by decide) ?_
  refine j_istore_n (pc := 3) (lv' := [(2, .int 0), (1, .int 0), (0, .ref (ad a0))]) dX3_sumOfAll_3 rfl (by decide) rfl ?_
  refine j_sub [2, 1, 0] rfl ?_
  exact t_X3_sumOfAll_4  1000 k0 hf
def f_X3_sumOfSeats_4 (k4 : Nat → Int32 → Int32 → Hp → Option (Int32 × Hp)) (a0 : Nat) (x1 : Int32) (x2 : Int32) (h : Hp) : Option (Int32 × Hp) := if 4 ≤ x2 then (some (x1, h)) else (if ix x2 4 = true then (lt (x1 + (h.1 (a0 + 2) (Int32.toNatClampNeg x2))) (fun v1 => lt (x2 + 1) (fun v2 => k4 a0 v1 v2 h))) else none)
set_option maxHeartbeats 4000000 in
set_option maxRecDepth 100000 in
theorem t_X3_sumOfSeats_4 {l : Launch} {D : va_G} {ad : Nat → Nat} {cA : Nat → ClassId} {d : Nat} {o : Int32 × Hp}  : ∀ (n : Nat) {a0 : Nat} {x1 : Int32} {x2 : Int32} (k0 : kd a0 = 3) {h : Hp}, lp (F := Nat → Int32 → Int32 → Hp → Option (Int32 × Hp)) (fun _ _ _ _ => none) (f_X3_sumOfSeats_4) n a0 x1 x2 h = some o → J l D ad cA (fun _ => True) (rmd d) (0, 0) (mQ D ad cA (some (.int o.1)) o.2) cX3_sumOfSeats RX3 3 (some .int) 4 [(0, .ref (ad a0)), (1, .int x1), (2, .int x2)] [] h := by
  intro n
  induction n with
  | zero =>
    intro a0 x1 x2 k0 h hf
    have hf : (none : Option (Int32 × Hp)) = some o := hf
    cases hf
  | succ n hk4 =>
    intro a0 x1 x2 k0 h hf
    have hf : f_X3_sumOfSeats_4  (lp (F := Nat → Int32 → Int32 → Hp → Option (Int32 × Hp)) (fun _ _ _ _ => none) (f_X3_sumOfSeats_4) n) a0 x1 x2 h = some o := hf
    unfold f_X3_sumOfSeats_4 at hf
    refine j_iload_n (pc := 4) 2 dX3_sumOfSeats_4 rfl rfl ?_
    refine j_iconst (pc := 5) dX3_sumOfSeats_5 (v := 4) (by decide) ?_
    refine j_icmp_ge (pc := 6) (tgt := 24) dX3_sumOfSeats_6 (by decide) hf (fun _ hf => ?_) (fun _ hf => ?_)
    · refine j_iload_n (pc := 24) 1 dX3_sumOfSeats_24 rfl rfl ?_
      exact j_iret (pc := 25) dX3_sumOfSeats_25 rfl hf
    · refine j_iload_n (pc := 9) 1 dX3_sumOfSeats_9 rfl rfl ?_
      refine j_aload_n (pc := 10) 0 dX3_sumOfSeats_10 rfl rfl ?_
      refine j_getR (pc := 11) (n := 2) dX3_sumOfSeats_11 fl103 k0 (by decide) rfl ?_
      refine j_iload_n (pc := 14) 2 dX3_sumOfSeats_14 rfl rfl ?_
      refine j_iaload (pc := 15) dX3_sumOfSeats_15 (lk_3_1 k0) (ll_3_1 k0) hf (fun _ hf => ?_)
      refine j_iadd (pc := 16) dX3_sumOfSeats_16  ?_
      refine j_istore_nN (pc := 17) (lv' := fun v1 => [(1, .int v1), (0, .ref (ad a0)), (2, .int x2)]) dX3_sumOfSeats_17 rfl (by decide) (fun _ => rfl) hf (fun v1 hf => ?_)
      refine j_iinc (pc := 18) 2 (c := 1) (lv' := fun v2 => [(2, .int v2), (1, .int v1), (0, .ref (ad a0))]) dX3_sumOfSeats_18 rfl (by decide) (by decide) (fun _ => rfl) hf (fun v2 hf => ?_)
      refine j_goto (pc := 21) (tgt := 4) dX3_sumOfSeats_21 (by decide) ?_
      refine j_sub [2, 1, 0] rfl ?_
      exact hk4 k0 hf
def f_X3_sumOfSeats (a0 : Nat) (h : Hp) : Option (Int32 × Hp) := lp (F := Nat → Int32 → Int32 → Hp → Option (Int32 × Hp)) (fun _ _ _ _ => none) (f_X3_sumOfSeats_4) 1000 a0 0 0 h
set_option maxHeartbeats 4000000 in
set_option maxRecDepth 100000 in
theorem t_X3_sumOfSeats {l : Launch} {D : va_G} {ad : Nat → Nat} {cA : Nat → ClassId} {d : Nat} {a0 : Nat} (k0 : kd a0 = 3) {h : Hp} {o : Int32 × Hp} (hf : f_X3_sumOfSeats a0 h = some o) : Cr l D ad cA d yX3_sumOfSeats cX3_sumOfSeats 3 (some .int) [.ref (ad a0)] h (some (.int o.1)) o.2 := by
  unfold f_X3_sumOfSeats at hf
  refine Cr_of (by decide +kernel) rfl (Nat.le_of_ble_eq_true rfl) (lv0 := [(0, .ref (ad a0))]) rfl ?_
  refine j_iconst (pc := 0) dX3_sumOfSeats_0 (v := 0) (by decide) ?_
  refine j_istore_n (pc := 1) (lv' := [(1, .int 0), (0, .ref (ad a0))]) dX3_sumOfSeats_1 rfl (by decide) rfl ?_
  refine j_iconst (pc := 2) dX3_sumOfSeats_2 (v := 0) (by decide) ?_
  refine j_istore_n (pc := 3) (lv' := [(2, .int 0), (1, .int 0), (0, .ref (ad a0))]) dX3_sumOfSeats_3 rfl (by decide) rfl ?_
  refine j_sub [2, 1, 0] rfl ?_
  exact t_X3_sumOfSeats_4  1000 k0 hf
def f_X3_wardBits_24 (k4 : Nat → Int32 → Int32 → Hp → Option (Int32 × Hp)) (a0 : Nat) (x1 : Int32) (x2 : Int32) (h : Hp) : Option (Int32 × Hp) := lt (x2 + 1) (fun v2 => k4 a0 x1 v2 h)
set_option maxHeartbeats 4000000 in
set_option maxRecDepth 100000 in
theorem t_X3_wardBits_24 {l : Launch} {D : va_G} {ad : Nat → Nat} {cA : Nat → ClassId} {d : Nat} {o : Int32 × Hp} {k4 : Nat → Int32 → Int32 → Hp → Option (Int32 × Hp)} (hk4 : ∀ {a0 : Nat} {x1 : Int32} {x2 : Int32} (k0 : kd a0 = 3) {h : Hp}, k4 a0 x1 x2 h = some o → J l D ad cA (fun _ => True) (rmd d) (0, 0) (mQ D ad cA (some (.int o.1)) o.2) cX3_wardBits RX3 3 (some .int) 4 [(0, .ref (ad a0)), (1, .int x1), (2, .int x2)] [] h) {a0 : Nat} {x1 : Int32} {x2 : Int32} (k0 : kd a0 = 3) {h : Hp} (hf : f_X3_wardBits_24 k4 a0 x1 x2 h = some o) : J l D ad cA (fun _ => True) (rmd d) (0, 0) (mQ D ad cA (some (.int o.1)) o.2) cX3_wardBits RX3 3 (some .int) 24 [(0, .ref (ad a0)), (1, .int x1), (2, .int x2)] [] h := by
  unfold f_X3_wardBits_24 at hf
  refine j_iinc (pc := 24) 2 (c := 1) (lv' := fun v2 => [(2, .int v2), (0, .ref (ad a0)), (1, .int x1)]) dX3_wardBits_24 rfl (by decide) (by decide) (fun _ => rfl) hf (fun v2 hf => ?_)
  refine j_goto (pc := 27) (tgt := 4) dX3_wardBits_27 (by decide) ?_
  refine j_sub [1, 2, 0] rfl ?_
  exact hk4 k0 hf
def f_X3_wardBits_4 (k4 : Nat → Int32 → Int32 → Hp → Option (Int32 × Hp)) (a0 : Nat) (x1 : Int32) (x2 : Int32) (h : Hp) : Option (Int32 × Hp) := if 4 ≤ x2 then (some (x1, h)) else (if ix x2 4 = true then (if (h.1 (a0 + 2) (Int32.toNatClampNeg x2)) ≤ 0 then (f_X3_wardBits_24 k4 a0 x1 x2 h) else (lt (x1 ||| (1 <<< (x2 &&& 31))) (fun v1 => f_X3_wardBits_24 k4 a0 v1 x2 h))) else none)
set_option maxHeartbeats 4000000 in
set_option maxRecDepth 100000 in
theorem t_X3_wardBits_4 {l : Launch} {D : va_G} {ad : Nat → Nat} {cA : Nat → ClassId} {d : Nat} {o : Int32 × Hp}  : ∀ (n : Nat) {a0 : Nat} {x1 : Int32} {x2 : Int32} (k0 : kd a0 = 3) {h : Hp}, lp (F := Nat → Int32 → Int32 → Hp → Option (Int32 × Hp)) (fun _ _ _ _ => none) (f_X3_wardBits_4) n a0 x1 x2 h = some o → J l D ad cA (fun _ => True) (rmd d) (0, 0) (mQ D ad cA (some (.int o.1)) o.2) cX3_wardBits RX3 3 (some .int) 4 [(0, .ref (ad a0)), (1, .int x1), (2, .int x2)] [] h := by
  intro n
  induction n with
  | zero =>
    intro a0 x1 x2 k0 h hf
    have hf : (none : Option (Int32 × Hp)) = some o := hf
    cases hf
  | succ n hk4 =>
    intro a0 x1 x2 k0 h hf
    have hf : f_X3_wardBits_4  (lp (F := Nat → Int32 → Int32 → Hp → Option (Int32 × Hp)) (fun _ _ _ _ => none) (f_X3_wardBits_4) n) a0 x1 x2 h = some o := hf
    unfold f_X3_wardBits_4 at hf
    refine j_iload_n (pc := 4) 2 dX3_wardBits_4 rfl rfl ?_
    refine j_iconst (pc := 5) dX3_wardBits_5 (v := 4) (by decide) ?_
    refine j_icmp_ge (pc := 6) (tgt := 30) dX3_wardBits_6 (by decide) hf (fun _ hf => ?_) (fun _ hf => ?_)
    · refine j_iload_n (pc := 30) 1 dX3_wardBits_30 rfl rfl ?_
      exact j_iret (pc := 31) dX3_wardBits_31 rfl hf
    · refine j_aload_n (pc := 9) 0 dX3_wardBits_9 rfl rfl ?_
      refine j_getR (pc := 10) (n := 2) dX3_wardBits_10 fl103 k0 (by decide) rfl ?_
      refine j_iload_n (pc := 13) 2 dX3_wardBits_13 rfl rfl ?_
      refine j_iaload (pc := 14) dX3_wardBits_14 (lk_3_1 k0) (ll_3_1 k0) hf (fun _ hf => ?_)
      refine j_if_le (pc := 15) (tgt := 24) dX3_wardBits_15 (by decide) hf (fun _ hf => ?_) (fun _ hf => ?_)
      · refine j_sub [0, 1, 2] rfl ?_
        exact t_X3_wardBits_24 hk4 k0 hf
      · refine j_iload_n (pc := 18) 1 dX3_wardBits_18 rfl rfl ?_
        refine j_iconst (pc := 19) dX3_wardBits_19 (v := 1) (by decide) ?_
        refine j_iload_n (pc := 20) 2 dX3_wardBits_20 rfl rfl ?_
        refine j_ishl (pc := 21) dX3_wardBits_21  ?_
        refine j_ior (pc := 22) dX3_wardBits_22  ?_
        refine j_istore_nN (pc := 23) (lv' := fun v1 => [(1, .int v1), (0, .ref (ad a0)), (2, .int x2)]) dX3_wardBits_23 rfl (by decide) (fun _ => rfl) hf (fun v1 hf => ?_)
        refine j_sub [1, 0, 2] rfl ?_
        exact t_X3_wardBits_24 hk4 k0 hf
def f_X3_wardBits (a0 : Nat) (h : Hp) : Option (Int32 × Hp) := lp (F := Nat → Int32 → Int32 → Hp → Option (Int32 × Hp)) (fun _ _ _ _ => none) (f_X3_wardBits_4) 1000 a0 0 0 h
set_option maxHeartbeats 4000000 in
set_option maxRecDepth 100000 in
theorem t_X3_wardBits {l : Launch} {D : va_G} {ad : Nat → Nat} {cA : Nat → ClassId} {d : Nat} {a0 : Nat} (k0 : kd a0 = 3) {h : Hp} {o : Int32 × Hp} (hf : f_X3_wardBits a0 h = some o) : Cr l D ad cA d yX3_wardBits cX3_wardBits 3 (some .int) [.ref (ad a0)] h (some (.int o.1)) o.2 := by
  unfold f_X3_wardBits at hf
  refine Cr_of (by decide +kernel) rfl (Nat.le_of_ble_eq_true rfl) (lv0 := [(0, .ref (ad a0))]) rfl ?_
  refine j_iconst (pc := 0) dX3_wardBits_0 (v := 0) (by decide) ?_
  refine j_istore_n (pc := 1) (lv' := [(1, .int 0), (0, .ref (ad a0))]) dX3_wardBits_1 rfl (by decide) rfl ?_
  refine j_iconst (pc := 2) dX3_wardBits_2 (v := 0) (by decide) ?_
  refine j_istore_n (pc := 3) (lv' := [(2, .int 0), (1, .int 0), (0, .ref (ad a0))]) dX3_wardBits_3 rfl (by decide) rfl ?_
  refine j_sub [2, 1, 0] rfl ?_
  exact t_X3_wardBits_4  1000 k0 hf
def f_X4_layOut (a0 : Nat) (x1 : Int32) (x2 : Int32) (h : Hp) : Option (Unit × Hp) := lt (sI h a0 0 x1) (fun m1 => lt (sI m1 a0 1 x2) (fun m2 => some ((), m2)))
set_option maxHeartbeats 4000000 in
set_option maxRecDepth 100000 in
theorem t_X4_layOut {l : Launch} {D : va_G} {ad : Nat → Nat} {cA : Nat → ClassId} {d : Nat} {a0 : Nat} {x1 : Int32} {x2 : Int32} (k0 : kd a0 = 4) {h : Hp} {o : Unit × Hp} (hf : f_X4_layOut a0 x1 x2 h = some o) : Cr l D ad cA d yX4_layOut cX4_layOut 3 (none) [.ref (ad a0), .int x1, .int x2] h (none) o.2 := by
  unfold f_X4_layOut at hf
  refine Cr_of (by decide +kernel) rfl (Nat.le_of_ble_eq_true rfl) (lv0 := [(0, .ref (ad a0)), (1, .int x1), (2, .int x2)]) rfl ?_
  refine j_aload_n (pc := 0) 0 dX4_layOut_0 rfl rfl ?_
  refine j_iload_n (pc := 1) 1 dX4_layOut_1 rfl rfl ?_
  refine j_putI (pc := 2) dX4_layOut_2 fl222 fp4_0 k0 (by decide) rfl hf (fun m1 hf => ?_)
  refine j_aload_n (pc := 5) 0 dX4_layOut_5 rfl rfl ?_
  refine j_iload_n (pc := 6) 2 dX4_layOut_6 rfl rfl ?_
  refine j_putI (pc := 7) dX4_layOut_7 fl223 fp4_1 k0 (by decide) rfl hf (fun m2 hf => ?_)
  exact j_vret (pc := 10) dX4_layOut_10 rfl hf
def f_X4_partOfRing (a0 : Nat) (x1 : Int32) (h : Hp) : Option (Int32 × Hp) := if 1 ≤ x1 then (if 4 = 0 then none else (lt ((x1 - 1) - (x1 - 1) / 4 * 4) (fun v1 => if v1 < (h.1 a0 2) then (if 4 < x1 then (if ix v1 4 = true then (some (h.1 (a0 + 2) (Int32.toNatClampNeg v1), h)) else none) else (if ix v1 4 = true then (some (h.1 (a0 + 1) (Int32.toNatClampNeg v1), h)) else none)) else (some ((-5), h))))) else (some (h.1 a0 2, h))
set_option maxHeartbeats 4000000 in
set_option maxRecDepth 100000 in
theorem t_X4_partOfRing {l : Launch} {D : va_G} {ad : Nat → Nat} {cA : Nat → ClassId} {d : Nat} {a0 : Nat} {x1 : Int32} (k0 : kd a0 = 4) {h : Hp} {o : Int32 × Hp} (hf : f_X4_partOfRing a0 x1 h = some o) : Cr l D ad cA d yX4_partOfRing cX4_partOfRing 3 (some .int) [.ref (ad a0), .int x1] h (some (.int o.1)) o.2 := by
  unfold f_X4_partOfRing at hf
  refine Cr_of (by decide +kernel) rfl (Nat.le_of_ble_eq_true rfl) (lv0 := [(0, .ref (ad a0)), (1, .int x1)]) rfl ?_
  refine j_iload_n (pc := 0) 1 dX4_partOfRing_0 rfl rfl ?_
  refine j_iconst (pc := 1) dX4_partOfRing_1 (v := 1) (by decide) ?_
  refine j_icmp_ge (pc := 2) (tgt := 10) dX4_partOfRing_2 (by decide) hf (fun _ hf => ?_) (fun _ hf => ?_)
  · refine j_iload_n (pc := 10) 1 dX4_partOfRing_10 rfl rfl ?_
    refine j_iconst (pc := 11) dX4_partOfRing_11 (v := 1) (by decide) ?_
    refine j_isub (pc := 12) dX4_partOfRing_12  ?_
    refine j_iconst (pc := 13) dX4_partOfRing_13 (v := 4) (by decide) ?_
    refine j_irem (pc := 14) dX4_partOfRing_14 hf (fun hf => ?_)
    refine j_istore_nN (pc := 15) (lv' := fun v1 => [(2, .int v1), (0, .ref (ad a0)), (1, .int x1)]) dX4_partOfRing_15 rfl (by decide) (fun _ => rfl) hf (fun v1 hf => ?_)
    refine j_iload_n (pc := 16) 0 dX4_partOfRing_16 rfl rfl ?_
    refine j_aload_n (pc := 17) 1 dX4_partOfRing_17 rfl rfl ?_
    refine j_getI (pc := 18) dX4_partOfRing_18 fl224 k0 (by decide) rfl ?_
    refine j_icmp_lt (pc := 21) (tgt := 27) dX4_partOfRing_21 (by decide) hf (fun _ hf => ?_) (fun _ hf => ?_)
    · refine j_iload_n (pc := 27) 2 dX4_partOfRing_27 rfl rfl ?_
      refine j_iconst (pc := 28) dX4_partOfRing_28 (v := 4) (by decide) ?_
      refine j_icmp_gt (pc := 29) (tgt := 41) dX4_partOfRing_29 (by decide) hf (fun _ hf => ?_) (fun _ hf => ?_)
      · refine j_aload_n (pc := 41) 1 dX4_partOfRing_41 rfl rfl ?_
        refine j_getR (pc := 42) (n := 2) dX4_partOfRing_42 fl226 k0 (by decide) rfl ?_
        refine j_iload_n (pc := 45) 0 dX4_partOfRing_45 rfl rfl ?_
        refine j_iaload (pc := 46) dX4_partOfRing_46 (lk_4_4 k0) (ll_4_4 k0) hf (fun _ hf => ?_)
        exact j_iret (pc := 47) dX4_partOfRing_47 rfl hf
      · refine j_aload_n (pc := 32) 1 dX4_partOfRing_32 rfl rfl ?_
        refine j_getR (pc := 33) (n := 1) dX4_partOfRing_33 fl225 k0 (by decide) rfl ?_
        refine j_iload_n (pc := 36) 0 dX4_partOfRing_36 rfl rfl ?_
        refine j_iaload (pc := 37) dX4_partOfRing_37 (lk_4_3 k0) (ll_4_3 k0) hf (fun _ hf => ?_)
        refine j_goto (pc := 38) (tgt := 47) dX4_partOfRing_38 (by decide) ?_
        exact j_iret (pc := 47) dX4_partOfRing_47 rfl hf
    · refine j_bipush (pc := 24) dX4_partOfRing_24 (v := -5) (by decide) ?_
      exact j_iret (pc := 26) dX4_partOfRing_26 rfl hf
  · refine j_aload_n (pc := 5) 0 dX4_partOfRing_5 rfl rfl ?_
    refine j_getI (pc := 6) dX4_partOfRing_6 fl224 k0 (by decide) rfl ?_
    exact j_iret (pc := 9) dX4_partOfRing_9 rfl hf
def f_X4_turn_2 (k2 : Nat → Nat → Int32 → Hp → Option (Unit × Hp)) (a0 : Nat) (a1 : Nat) (x2 : Int32) (h : Hp) : Option (Unit × Hp) := if (h.1 a0 2) ≤ x2 then (some ((), h)) else (if 4 ≤ x2 then (some ((), h)) else (if ix x2 4 = true then (if ix (h.1 (a0 + 3) (Int32.toNatClampNeg x2)) (ln a1) = true then (if ix (h.1 (a0 + 3) (Int32.toNatClampNeg x2)) (ln a1) = true then (lt (sI h a1 (Int32.toNatClampNeg (h.1 (a0 + 3) (Int32.toNatClampNeg x2))) ((h.1 a1 (Int32.toNatClampNeg (h.1 (a0 + 3) (Int32.toNatClampNeg x2)))) + 1)) (fun m1 => if ix x2 4 = true then (if ix (m1.1 (a0 + 4) (Int32.toNatClampNeg x2)) (ln a1) = true then (if ix (m1.1 (a0 + 4) (Int32.toNatClampNeg x2)) (ln a1) = true then (lt (sI m1 a1 (Int32.toNatClampNeg (m1.1 (a0 + 4) (Int32.toNatClampNeg x2))) ((m1.1 a1 (Int32.toNatClampNeg (m1.1 (a0 + 4) (Int32.toNatClampNeg x2)))) - 1)) (fun m2 => lt (x2 + 1) (fun v3 => k2 a0 a1 v3 m2))) else none) else none) else none)) else none) else none) else none))
set_option maxHeartbeats 4000000 in
set_option maxRecDepth 100000 in
theorem t_X4_turn_2 {l : Launch} {D : va_G} {ad : Nat → Nat} {cA : Nat → ClassId} {d : Nat} {o : Unit × Hp}  : ∀ (n : Nat) {a0 : Nat} {a1 : Nat} {x2 : Int32} (k0 : kd a0 = 4) (k1 : kd a1 = 10) {h : Hp}, lp (F := Nat → Nat → Int32 → Hp → Option (Unit × Hp)) (fun _ _ _ _ => none) (f_X4_turn_2) n a0 a1 x2 h = some o → J l D ad cA (fun _ => True) (rmd d) (0, 0) (mQ D ad cA (none) o.2) cX4_turn RX4 3 (none) 2 [(0, .ref (ad a0)), (1, .ref (ad a1)), (2, .int x2)] [] h := by
  intro n
  induction n with
  | zero =>
    intro a0 a1 x2 k0 k1 h hf
    have hf : (none : Option (Unit × Hp)) = some o := hf
    cases hf
  | succ n hk2 =>
    intro a0 a1 x2 k0 k1 h hf
    have hf : f_X4_turn_2  (lp (F := Nat → Nat → Int32 → Hp → Option (Unit × Hp)) (fun _ _ _ _ => none) (f_X4_turn_2) n) a0 a1 x2 h = some o := hf
    unfold f_X4_turn_2 at hf
    refine j_iload_n (pc := 2) 2 dX4_turn_2 rfl rfl ?_
    refine j_aload_n (pc := 3) 0 dX4_turn_3 rfl rfl ?_
    refine j_getI (pc := 4) dX4_turn_4 fl224 k0 (by decide) rfl ?_
    refine j_icmp_ge (pc := 7) (tgt := 45) dX4_turn_7 (by decide) hf (fun _ hf => ?_) (fun _ hf => ?_)
    · exact j_vret (pc := 45) dX4_turn_45 rfl hf
    · refine j_iload_n (pc := 10) 2 dX4_turn_10 rfl rfl ?_
      refine j_iconst (pc := 11) dX4_turn_11 (v := 4) (by decide) ?_
      refine j_icmp_ge (pc := 12) (tgt := 45) dX4_turn_12 (by decide) hf (fun _ hf => ?_) (fun _ hf => ?_)
      · exact j_vret (pc := 45) dX4_turn_45 rfl hf
      · refine j_aload_n (pc := 15) 1 dX4_turn_15 rfl rfl ?_
        refine j_aload_n (pc := 16) 0 dX4_turn_16 rfl rfl ?_
        refine j_getR (pc := 17) (n := 3) dX4_turn_17 fl227 k0 (by decide) rfl ?_
        refine j_iload_n (pc := 20) 2 dX4_turn_20 rfl rfl ?_
        refine j_iaload (pc := 21) dX4_turn_21 (lk_4_5 k0) (ll_4_5 k0) hf (fun _ hf => ?_)
        refine j_dup2 (pc := 22) dX4_turn_22 rfl rfl ?_
        refine j_iaload (pc := 23) dX4_turn_23 k1 rfl hf (fun _ hf => ?_)
        refine j_iconst (pc := 24) dX4_turn_24 (v := 1) (by decide) ?_
        refine j_iadd (pc := 25) dX4_turn_25  ?_
        refine j_iastore (pc := 26) dX4_turn_26 k1 rfl hf (fun m1 hf => ?_)
        refine j_aload_n (pc := 27) 1 dX4_turn_27 rfl rfl ?_
        refine j_aload_n (pc := 28) 0 dX4_turn_28 rfl rfl ?_
        refine j_getR (pc := 29) (n := 4) dX4_turn_29 fl228 k0 (by decide) rfl ?_
        refine j_iload_n (pc := 32) 2 dX4_turn_32 rfl rfl ?_
        refine j_iaload (pc := 33) dX4_turn_33 (lk_4_6 k0) (ll_4_6 k0) hf (fun _ hf => ?_)
        refine j_dup2 (pc := 34) dX4_turn_34 rfl rfl ?_
        refine j_iaload (pc := 35) dX4_turn_35 k1 rfl hf (fun _ hf => ?_)
        refine j_iconst (pc := 36) dX4_turn_36 (v := 1) (by decide) ?_
        refine j_isub (pc := 37) dX4_turn_37  ?_
        refine j_iastore (pc := 38) dX4_turn_38 k1 rfl hf (fun m2 hf => ?_)
        refine j_iinc (pc := 39) 2 (c := 1) (lv' := fun v3 => [(2, .int v3), (0, .ref (ad a0)), (1, .ref (ad a1))]) dX4_turn_39 rfl (by decide) (by decide) (fun _ => rfl) hf (fun v3 hf => ?_)
        refine j_goto (pc := 42) (tgt := 2) dX4_turn_42 (by decide) ?_
        refine j_sub [1, 2, 0] rfl ?_
        exact hk2 k0 k1 hf
def f_X4_turn (a0 : Nat) (a1 : Nat) (h : Hp) : Option (Unit × Hp) := lp (F := Nat → Nat → Int32 → Hp → Option (Unit × Hp)) (fun _ _ _ _ => none) (f_X4_turn_2) 1000 a0 a1 0 h
set_option maxHeartbeats 4000000 in
set_option maxRecDepth 100000 in
theorem t_X4_turn {l : Launch} {D : va_G} {ad : Nat → Nat} {cA : Nat → ClassId} {d : Nat} {a0 : Nat} {a1 : Nat} (k0 : kd a0 = 4) (k1 : kd a1 = 10) {h : Hp} {o : Unit × Hp} (hf : f_X4_turn a0 a1 h = some o) : Cr l D ad cA d yX4_turn cX4_turn 3 (none) [.ref (ad a0), .ref (ad a1)] h (none) o.2 := by
  unfold f_X4_turn at hf
  refine Cr_of (by decide +kernel) rfl (Nat.le_of_ble_eq_true rfl) (lv0 := [(0, .ref (ad a0)), (1, .ref (ad a1))]) rfl ?_
  refine j_iconst (pc := 0) dX4_turn_0 (v := 0) (by decide) ?_
  refine j_istore_n (pc := 1) (lv' := [(2, .int 0), (0, .ref (ad a0)), (1, .ref (ad a1))]) dX4_turn_1 rfl (by decide) rfl ?_
  refine j_sub [1, 2, 0] rfl ?_
  exact t_X4_turn_2  1000 k0 k1 hf
def f_X5_putByte (a0 : Nat) (x1 : Int32) (h : Hp) : Option (Unit × Hp) := if (h.1 a0 1) < 0 then (some ((), h)) else (if 120 ≤ (h.1 a0 1) then (some ((), h)) else (lt (sI h a0 1 ((h.1 a0 1) + 1)) (fun m1 => if ix (h.1 a0 1) 120 = true then (lt (sI m1 (a0 + 1) (Int32.toNatClampNeg (h.1 a0 1)) x1) (fun m2 => some ((), m2))) else none)))
set_option maxHeartbeats 4000000 in
set_option maxRecDepth 100000 in
theorem t_X5_putByte {l : Launch} {D : va_G} {ad : Nat → Nat} {cA : Nat → ClassId} {d : Nat} {a0 : Nat} {x1 : Int32} (k0 : kd a0 = 5) {h : Hp} {o : Unit × Hp} (hf : f_X5_putByte a0 x1 h = some o) : Cr l D ad cA d yX5_putByte cX5_putByte 2 (none) [.ref (ad a0), .int x1] h (none) o.2 := by
  unfold f_X5_putByte at hf
  refine Cr_of (by decide +kernel) rfl (Nat.le_of_ble_eq_true rfl) (lv0 := [(0, .ref (ad a0)), (1, .int x1)]) rfl ?_
  refine j_aload_n (pc := 0) 0 dX5_putByte_0 rfl rfl ?_
  refine j_getI (pc := 1) dX5_putByte_1 fl306 k0 (by decide) rfl ?_
  refine j_if_lt (pc := 4) (tgt := 33) dX5_putByte_4 (by decide) hf (fun _ hf => ?_) (fun _ hf => ?_)
  · exact j_vret (pc := 33) dX5_putByte_33 rfl hf
  · refine j_aload_n (pc := 7) 0 dX5_putByte_7 rfl rfl ?_
    refine j_getI (pc := 8) dX5_putByte_8 fl306 k0 (by decide) rfl ?_
    refine j_bipush (pc := 11) dX5_putByte_11 (v := 120) (by decide) ?_
    refine j_icmp_ge (pc := 13) (tgt := 33) dX5_putByte_13 (by decide) hf (fun _ hf => ?_) (fun _ hf => ?_)
    · exact j_vret (pc := 33) dX5_putByte_33 rfl hf
    · refine j_aload_n (pc := 16) 0 dX5_putByte_16 rfl rfl ?_
      refine j_getR (pc := 17) (n := 1) dX5_putByte_17 fl304 k0 (by decide) rfl ?_
      refine j_aload_n (pc := 20) 0 dX5_putByte_20 rfl rfl ?_
      refine j_dup (pc := 21) dX5_putByte_21 rfl ?_
      refine j_getI (pc := 22) dX5_putByte_22 fl306 k0 (by decide) rfl ?_
      refine j_dup_x1 (pc := 25) dX5_putByte_25 rfl rfl ?_
      refine j_iconst (pc := 26) dX5_putByte_26 (v := 1) (by decide) ?_
      refine j_iadd (pc := 27) dX5_putByte_27  ?_
      refine j_putI (pc := 28) dX5_putByte_28 fl306 fp5_1 k0 (by decide) rfl hf (fun m1 hf => ?_)
      refine j_iload_n (pc := 31) 1 dX5_putByte_31 rfl rfl ?_
      refine j_iastore (pc := 32) dX5_putByte_32 (lk_5_0 k0) (ll_5_0 k0) hf (fun m2 hf => ?_)
      exact j_vret (pc := 33) dX5_putByte_33 rfl hf
def f_X6_copyOut_22 (k22 : Nat → Int32 → Int32 → Nat → Int32 → Hp → Option (Int32 × Hp)) (a0 : Nat) (x1 : Int32) (x2 : Int32) (a3 : Nat) (x4 : Int32) (h : Hp) : Option (Int32 × Hp) := if 24 ≤ x4 then (if isB 1 = true then some (1, h) else none) else (if ix x1 4 = true then (if ix (x2 + x4) 40 = true then (if ix x4 (ln a3) = true then (lt (sI h a3 (Int32.toNatClampNeg x4) (h.1 (a0 + 1 + 1 + (Int32.toNatClampNeg x1)) (Int32.toNatClampNeg (x2 + x4)))) (fun m2 => lt (x4 + 1) (fun v3 => k22 a0 x1 x2 a3 v3 m2))) else none) else none) else none)
set_option maxHeartbeats 4000000 in
set_option maxRecDepth 100000 in
theorem t_X6_copyOut_22 {l : Launch} {D : va_G} {ad : Nat → Nat} {cA : Nat → ClassId} {d : Nat} {o : Int32 × Hp}  : ∀ (n : Nat) {a0 : Nat} {x1 : Int32} {x2 : Int32} {a3 : Nat} {x4 : Int32} (k0 : kd a0 = 6) (k3 : kd a3 = 10) {h : Hp}, lp (F := Nat → Int32 → Int32 → Nat → Int32 → Hp → Option (Int32 × Hp)) (fun _ _ _ _ _ _ => none) (f_X6_copyOut_22) n a0 x1 x2 a3 x4 h = some o → J l D ad cA (fun _ => True) (rmd d) (0, 0) (mQ D ad cA (some (.int o.1)) o.2) cX6_copyOut RX6 5 (some .boolean) 22 [(0, .ref (ad a0)), (1, .int x1), (2, .int x2), (3, .ref (ad a3)), (4, .int x4)] [] h := by
  intro n
  induction n with
  | zero =>
    intro a0 x1 x2 a3 x4 k0 k3 h hf
    have hf : (none : Option (Int32 × Hp)) = some o := hf
    cases hf
  | succ n hk22 =>
    intro a0 x1 x2 a3 x4 k0 k3 h hf
    have hf : f_X6_copyOut_22  (lp (F := Nat → Int32 → Int32 → Nat → Int32 → Hp → Option (Int32 × Hp)) (fun _ _ _ _ _ _ => none) (f_X6_copyOut_22) n) a0 x1 x2 a3 x4 h = some o := hf
    unfold f_X6_copyOut_22 at hf
    refine j_iload (pc := 22) 4 dX6_copyOut_22 rfl ?_
    refine j_bipush (pc := 24) dX6_copyOut_24 (v := 24) (by decide) ?_
    refine j_icmp_ge (pc := 26) (tgt := 50) dX6_copyOut_26 (by decide) hf (fun _ hf => ?_) (fun _ hf => ?_)
    · refine j_iconst (pc := 50) dX6_copyOut_50 (v := 1) (by decide) ?_
      exact j_zret (pc := 51) dX6_copyOut_51 rfl hf
    · refine j_aload_n (pc := 29) 3 dX6_copyOut_29 rfl rfl ?_
      refine j_iload (pc := 30) 4 dX6_copyOut_30 rfl ?_
      refine j_aload_n (pc := 32) 0 dX6_copyOut_32 rfl rfl ?_
      refine j_getR (pc := 33) (n := 1) dX6_copyOut_33 fl324 k0 (by decide) rfl ?_
      refine j_iload_n (pc := 36) 1 dX6_copyOut_36 rfl rfl ?_
      refine j_aaload (pc := 37) dX6_copyOut_37 (lk_6_0 k0) hf (fun hr1 hf => ?_)
      refine j_iload_n (pc := 38) 2 dX6_copyOut_38 rfl rfl ?_
      refine j_iload (pc := 39) 4 dX6_copyOut_39 rfl ?_
      refine j_iadd (pc := 41) dX6_copyOut_41  ?_
      refine j_iaload (pc := 42) dX6_copyOut_42 ((lk_row (lk_6_0 k0) (ix_lt hr1)).1) ((lk_row (lk_6_0 k0) (ix_lt hr1)).2) hf (fun _ hf => ?_)
      refine j_iastore (pc := 43) dX6_copyOut_43 k3 rfl hf (fun m2 hf => ?_)
      refine j_iinc (pc := 44) 4 (c := 1) (lv' := fun v3 => [(4, .int v3), (0, .ref (ad a0)), (1, .int x1), (2, .int x2), (3, .ref (ad a3))]) dX6_copyOut_44 rfl (by decide) (by decide) (fun _ => rfl) hf (fun v3 hf => ?_)
      refine j_goto (pc := 47) (tgt := 22) dX6_copyOut_47 (by decide) ?_
      refine j_sub [1, 2, 3, 4, 0] rfl ?_
      exact hk22 k0 k3 hf
def f_X6_copyOut (a0 : Nat) (x1 : Int32) (x2 : Int32) (a3 : Nat) (h : Hp) : Option (Int32 × Hp) := if x2 < 0 then (if isB 0 = true then some (0, h) else none) else (if ix x1 4 = true then (if x2 ≤ ((h.1 (a0 + 6) (Int32.toNatClampNeg x1)) - 24) then (lp (F := Nat → Int32 → Int32 → Nat → Int32 → Hp → Option (Int32 × Hp)) (fun _ _ _ _ _ _ => none) (f_X6_copyOut_22) 1000 a0 x1 x2 a3 0 h) else (if isB 0 = true then some (0, h) else none)) else none)
set_option maxHeartbeats 4000000 in
set_option maxRecDepth 100000 in
theorem t_X6_copyOut {l : Launch} {D : va_G} {ad : Nat → Nat} {cA : Nat → ClassId} {d : Nat} {a0 : Nat} {x1 : Int32} {x2 : Int32} {a3 : Nat} (k0 : kd a0 = 6) (k3 : kd a3 = 10) {h : Hp} {o : Int32 × Hp} (hf : f_X6_copyOut a0 x1 x2 a3 h = some o) : Cr l D ad cA d yX6_copyOut cX6_copyOut 5 (some .boolean) [.ref (ad a0), .int x1, .int x2, .ref (ad a3)] h (some (.int o.1)) o.2 := by
  unfold f_X6_copyOut at hf
  refine Cr_of (by decide +kernel) rfl (Nat.le_of_ble_eq_true rfl) (lv0 := [(0, .ref (ad a0)), (1, .int x1), (2, .int x2), (3, .ref (ad a3))]) rfl ?_
  refine j_iload_n (pc := 0) 2 dX6_copyOut_0 rfl rfl ?_
  refine j_if_lt (pc := 1) (tgt := 17) dX6_copyOut_1 (by decide) hf (fun _ hf => ?_) (fun _ hf => ?_)
  · refine j_iconst (pc := 17) dX6_copyOut_17 (v := 0) (by decide) ?_
    exact j_zret (pc := 18) dX6_copyOut_18 rfl hf
  · refine j_iload_n (pc := 4) 2 dX6_copyOut_4 rfl rfl ?_
    refine j_aload_n (pc := 5) 0 dX6_copyOut_5 rfl rfl ?_
    refine j_getR (pc := 6) (n := 6) dX6_copyOut_6 fl326 k0 (by decide) rfl ?_
    refine j_iload_n (pc := 9) 1 dX6_copyOut_9 rfl rfl ?_
    refine j_iaload (pc := 10) dX6_copyOut_10 (lk_6_1 k0) (ll_6_1 k0) hf (fun _ hf => ?_)
    refine j_bipush (pc := 11) dX6_copyOut_11 (v := 24) (by decide) ?_
    refine j_isub (pc := 13) dX6_copyOut_13  ?_
    refine j_icmp_le (pc := 14) (tgt := 19) dX6_copyOut_14 (by decide) hf (fun _ hf => ?_) (fun _ hf => ?_)
    · refine j_iconst (pc := 19) dX6_copyOut_19 (v := 0) (by decide) ?_
      refine j_istore (pc := 20) (lv' := [(4, .int 0), (0, .ref (ad a0)), (1, .int x1), (2, .int x2), (3, .ref (ad a3))]) dX6_copyOut_20 (by decide) rfl ?_
      refine j_sub [1, 2, 3, 4, 0] rfl ?_
      exact t_X6_copyOut_22  1000 k0 k3 hf
    · refine j_iconst (pc := 17) dX6_copyOut_17 (v := 0) (by decide) ?_
      exact j_zret (pc := 18) dX6_copyOut_18 rfl hf
def f_X6_hasPlace (a0 : Nat) (x1 : Int32) (x2 : Int32) (h : Hp) : Option (Int32 × Hp) := if x2 < 0 then (if isB 0 = true then some (0, h) else none) else (if ix x1 4 = true then (if (h.1 (a0 + 6) (Int32.toNatClampNeg x1)) ≤ x2 then (if isB 0 = true then some (0, h) else none) else (if isB 1 = true then some (1, h) else none)) else none)
set_option maxHeartbeats 4000000 in
set_option maxRecDepth 100000 in
theorem t_X6_hasPlace {l : Launch} {D : va_G} {ad : Nat → Nat} {cA : Nat → ClassId} {d : Nat} {a0 : Nat} {x1 : Int32} {x2 : Int32} (k0 : kd a0 = 6) {h : Hp} {o : Int32 × Hp} (hf : f_X6_hasPlace a0 x1 x2 h = some o) : Cr l D ad cA d yX6_hasPlace cX6_hasPlace 3 (some .boolean) [.ref (ad a0), .int x1, .int x2] h (some (.int o.1)) o.2 := by
  unfold f_X6_hasPlace at hf
  refine Cr_of (by decide +kernel) rfl (Nat.le_of_ble_eq_true rfl) (lv0 := [(0, .ref (ad a0)), (1, .int x1), (2, .int x2)]) rfl ?_
  refine j_iload_n (pc := 0) 2 dX6_hasPlace_0 rfl rfl ?_
  refine j_if_lt (pc := 1) (tgt := 18) dX6_hasPlace_1 (by decide) hf (fun _ hf => ?_) (fun _ hf => ?_)
  · refine j_iconst (pc := 18) dX6_hasPlace_18 (v := 0) (by decide) ?_
    exact j_zret (pc := 19) dX6_hasPlace_19 rfl hf
  · refine j_iload_n (pc := 4) 2 dX6_hasPlace_4 rfl rfl ?_
    refine j_aload_n (pc := 5) 0 dX6_hasPlace_5 rfl rfl ?_
    refine j_getR (pc := 6) (n := 6) dX6_hasPlace_6 fl326 k0 (by decide) rfl ?_
    refine j_iload_n (pc := 9) 1 dX6_hasPlace_9 rfl rfl ?_
    refine j_iaload (pc := 10) dX6_hasPlace_10 (lk_6_1 k0) (ll_6_1 k0) hf (fun _ hf => ?_)
    refine j_icmp_ge (pc := 11) (tgt := 18) dX6_hasPlace_11 (by decide) hf (fun _ hf => ?_) (fun _ hf => ?_)
    · refine j_iconst (pc := 18) dX6_hasPlace_18 (v := 0) (by decide) ?_
      exact j_zret (pc := 19) dX6_hasPlace_19 rfl hf
    · refine j_iconst (pc := 14) dX6_hasPlace_14 (v := 1) (by decide) ?_
      refine j_goto (pc := 15) (tgt := 19) dX6_hasPlace_15 (by decide) ?_
      exact j_zret (pc := 19) dX6_hasPlace_19 rfl hf
