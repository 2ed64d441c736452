def f_X6_isThere (a0 : Nat) (x1 : Int32) (h : Hp) : Option (Int32 × Hp) := if ix x1 4 = true then (if (h.1 (a0 + 6) (Int32.toNatClampNeg x1)) < 0 then (if isB 0 = true then some (0, h) else none) else (if isB 1 = true then some (1, h) else none)) else none
set_option maxHeartbeats 4000000 in
set_option maxRecDepth 100000 in
theorem t_X6_isThere {l : Launch} {D : va_G} {ad : Nat → Nat} {cA : Nat → ClassId} {d : Nat} {a0 : Nat} {x1 : Int32} (k0 : kd a0 = 6) {h : Hp} {o : Int32 × Hp} (hf : f_X6_isThere a0 x1 h = some o) : Cr l D ad cA d yX6_isThere cX6_isThere 2 (some .boolean) [.ref (ad a0), .int x1] h (some (.int o.1)) o.2 := by
  unfold f_X6_isThere at hf
  refine Cr_of (by decide +kernel) rfl (Nat.le_of_ble_eq_true rfl) (lv0 := [(0, .ref (ad a0)), (1, .int x1)]) rfl ?_
  refine j_aload_n (pc := 0) 0 dX6_isThere_0 rfl rfl ?_
  refine j_getR (pc := 1) (n := 6) dX6_isThere_1 fl326 k0 (by decide) rfl ?_
  refine j_iload_n (pc := 4) 1 dX6_isThere_4 rfl rfl ?_
  refine j_iaload (pc := 5) dX6_isThere_5 (lk_6_1 k0) (ll_6_1 k0) hf (fun _ hf => ?_)
  refine j_if_lt (pc := 6) (tgt := 13) dX6_isThere_6 (by decide) hf (fun _ hf => ?_) (fun _ hf => ?_)
  · refine j_iconst (pc := 13) dX6_isThere_13 (v := 0) (by decide) ?_
    exact j_zret (pc := 14) dX6_isThere_14 rfl hf
  · refine j_iconst (pc := 9) dX6_isThere_9 (v := 1) (by decide) ?_
    refine j_goto (pc := 10) (tgt := 14) dX6_isThere_10 (by decide) ?_
    exact j_zret (pc := 14) dX6_isThere_14 rfl hf
def f_X7_isFigure (x0 : Int32) (h : Hp) : Option (Int32 × Hp) := if x0 < 48 then (if isB 0 = true then some (0, h) else none) else (if 57 < x0 then (if isB 0 = true then some (0, h) else none) else (if isB 1 = true then some (1, h) else none))
set_option maxHeartbeats 4000000 in
set_option maxRecDepth 100000 in
theorem t_X7_isFigure {l : Launch} {D : va_G} {ad : Nat → Nat} {cA : Nat → ClassId} {d : Nat} {x0 : Int32}  {h : Hp} {o : Int32 × Hp} (hf : f_X7_isFigure x0 h = some o) : Cr l D ad cA d yX7_isFigure cX7_isFigure 1 (some .boolean) [.int x0] h (some (.int o.1)) o.2 := by
  unfold f_X7_isFigure at hf
  refine Cr_of (by decide +kernel) rfl (Nat.le_of_ble_eq_true rfl) (lv0 := [(0, .int x0)]) rfl ?_
  refine j_iload_n (pc := 0) 0 dX7_isFigure_0 rfl rfl ?_
  refine j_bipush (pc := 1) dX7_isFigure_1 (v := 48) (by decide) ?_
  refine j_icmp_lt (pc := 3) (tgt := 16) dX7_isFigure_3 (by decide) hf (fun _ hf => ?_) (fun _ hf => ?_)
  · refine j_iconst (pc := 16) dX7_isFigure_16 (v := 0) (by decide) ?_
    exact j_zret (pc := 17) dX7_isFigure_17 rfl hf
  · refine j_iload_n (pc := 6) 0 dX7_isFigure_6 rfl rfl ?_
    refine j_bipush (pc := 7) dX7_isFigure_7 (v := 57) (by decide) ?_
    refine j_icmp_gt (pc := 9) (tgt := 16) dX7_isFigure_9 (by decide) hf (fun _ hf => ?_) (fun _ hf => ?_)
    · refine j_iconst (pc := 16) dX7_isFigure_16 (v := 0) (by decide) ?_
      exact j_zret (pc := 17) dX7_isFigure_17 rfl hf
    · refine j_iconst (pc := 12) dX7_isFigure_12 (v := 1) (by decide) ?_
      refine j_goto (pc := 13) (tgt := 17) dX7_isFigure_13 (by decide) ?_
      exact j_zret (pc := 17) dX7_isFigure_17 rfl hf
def f_X7_takeByte (a0 : Nat) (x1 : Int32) (h : Hp) : Option (Int32 × Hp) := if (h.1 a0 1) < 0 then (if isB 0 = true then some (0, h) else none) else (if (h.1 a0 1) < 120 then (lt (sI h a0 1 ((h.1 a0 1) + 1)) (fun m1 => if ix (h.1 a0 1) 120 = true then (lt (sI m1 (a0 + 1) (Int32.toNatClampNeg (h.1 a0 1)) x1) (fun m2 => if isB 1 = true then some (1, m2) else none)) else none)) else (if isB 0 = true then some (0, h) else none))
set_option maxHeartbeats 4000000 in
set_option maxRecDepth 100000 in
theorem t_X7_takeByte {l : Launch} {D : va_G} {ad : Nat → Nat} {cA : Nat → ClassId} {d : Nat} {a0 : Nat} {x1 : Int32} (k0 : kd a0 = 7) {h : Hp} {o : Int32 × Hp} (hf : f_X7_takeByte a0 x1 h = some o) : Cr l D ad cA d yX7_takeByte cX7_takeByte 2 (some .boolean) [.ref (ad a0), .int x1] h (some (.int o.1)) o.2 := by
  unfold f_X7_takeByte at hf
  refine Cr_of (by decide +kernel) rfl (Nat.le_of_ble_eq_true rfl) (lv0 := [(0, .ref (ad a0)), (1, .int x1)]) rfl ?_
  refine j_aload_n (pc := 0) 0 dX7_takeByte_0 rfl rfl ?_
  refine j_getI (pc := 1) dX7_takeByte_1 fl291 k0 (by decide) rfl ?_
  refine j_if_lt (pc := 4) (tgt := 16) dX7_takeByte_4 (by decide) hf (fun _ hf => ?_) (fun _ hf => ?_)
  · refine j_iconst (pc := 16) dX7_takeByte_16 (v := 0) (by decide) ?_
    exact j_zret (pc := 17) dX7_takeByte_17 rfl hf
  · refine j_aload_n (pc := 7) 0 dX7_takeByte_7 rfl rfl ?_
    refine j_getI (pc := 8) dX7_takeByte_8 fl291 k0 (by decide) rfl ?_
    refine j_bipush (pc := 11) dX7_takeByte_11 (v := 120) (by decide) ?_
    refine j_icmp_lt (pc := 13) (tgt := 18) dX7_takeByte_13 (by decide) hf (fun _ hf => ?_) (fun _ hf => ?_)
    · refine j_aload_n (pc := 18) 0 dX7_takeByte_18 rfl rfl ?_
      refine j_getR (pc := 19) (n := 1) dX7_takeByte_19 fl290 k0 (by decide) rfl ?_
      refine j_aload_n (pc := 22) 0 dX7_takeByte_22 rfl rfl ?_
      refine j_dup (pc := 23) dX7_takeByte_23 rfl ?_
      refine j_getI (pc := 24) dX7_takeByte_24 fl291 k0 (by decide) rfl ?_
      refine j_dup_x1 (pc := 27) dX7_takeByte_27 rfl rfl ?_
      refine j_iconst (pc := 28) dX7_takeByte_28 (v := 1) (by decide) ?_
      refine j_iadd (pc := 29) dX7_takeByte_29  ?_
      refine j_putI (pc := 30) dX7_takeByte_30 fl291 fp7_1 k0 (by decide) rfl hf (fun m1 hf => ?_)
      refine j_iload_n (pc := 33) 1 dX7_takeByte_33 rfl rfl ?_
      refine j_iastore (pc := 34) dX7_takeByte_34 (lk_7_0 k0) (ll_7_0 k0) hf (fun m2 hf => ?_)
      refine j_iconst (pc := 35) dX7_takeByte_35 (v := 1) (by decide) ?_
      exact j_zret (pc := 36) dX7_takeByte_36 rfl hf
    · refine j_iconst (pc := 16) dX7_takeByte_16 (v := 0) (by decide) ?_
      exact j_zret (pc := 17) dX7_takeByte_17 rfl hf
def f_X7_valueOf_5 (k5 : Nat → Int32 → Int32 → Int32 → Int32 → Hp → Option (Int32 × Hp)) (a0 : Nat) (x1 : Int32) (x2 : Int32) (x3 : Int32) (x4 : Int32) (h : Hp) : Option (Int32 × Hp) := if (x1 + x2) ≤ x4 then (some (x3, h)) else (if ix x4 120 = true then (lt (((x3 * 10) + (h.1 (a0 + 1) (Int32.toNatClampNeg x4))) - 48) (fun v1 => lt (x4 + 1) (fun v2 => k5 a0 x1 x2 v1 v2 h))) else none)
set_option maxHeartbeats 4000000 in
set_option maxRecDepth 100000 in
theorem t_X7_valueOf_5 {l : Launch} {D : va_G} {ad : Nat → Nat} {cA : Nat → ClassId} {d : Nat} {o : Int32 × Hp}  : ∀ (n : Nat) {a0 : Nat} {x1 : Int32} {x2 : Int32} {x3 : Int32} {x4 : Int32} (k0 : kd a0 = 7) {h : Hp}, lp (F := Nat → Int32 → Int32 → Int32 → Int32 → Hp → Option (Int32 × Hp)) (fun _ _ _ _ _ _ => none) (f_X7_valueOf_5) n a0 x1 x2 x3 x4 h = some o → J l D ad cA (fun _ => True) (rmd d) (0, 0) (mQ D ad cA (some (.int o.1)) o.2) cX7_valueOf RX7 5 (some .int) 5 [(0, .ref (ad a0)), (1, .int x1), (2, .int x2), (3, .int x3), (4, .int x4)] [] h := by
  intro n
  induction n with
  | zero =>
    intro a0 x1 x2 x3 x4 k0 h hf
    have hf : (none : Option (Int32 × Hp)) = some o := hf
    cases hf
  | succ n hk5 =>
    intro a0 x1 x2 x3 x4 k0 h hf
    have hf : f_X7_valueOf_5  (lp (F := Nat → Int32 → Int32 → Int32 → Int32 → Hp → Option (Int32 × Hp)) (fun _ _ _ _ _ _ => none) (f_X7_valueOf_5) n) a0 x1 x2 x3 x4 h = some o := hf
    unfold f_X7_valueOf_5 at hf
    refine j_iload (pc := 5) 4 dX7_valueOf_5 rfl ?_
    refine j_iload_n (pc := 7) 1 dX7_valueOf_7 rfl rfl ?_
    refine j_iload_n (pc := 8) 2 dX7_valueOf_8 rfl rfl ?_
    refine j_iadd (pc := 9) dX7_valueOf_9  ?_
    refine j_icmp_ge (pc := 10) (tgt := 35) dX7_valueOf_10 (by decide) hf (fun _ hf => ?_) (fun _ hf => ?_)
    · refine j_iload_n (pc := 35) 3 dX7_valueOf_35 rfl rfl ?_
      exact j_iret (pc := 36) dX7_valueOf_36 rfl hf
    · refine j_iload_n (pc := 13) 3 dX7_valueOf_13 rfl rfl ?_
      refine j_bipush (pc := 14) dX7_valueOf_14 (v := 10) (by decide) ?_
      refine j_imul (pc := 16) dX7_valueOf_16  ?_
      refine j_aload_n (pc := 17) 0 dX7_valueOf_17 rfl rfl ?_
      refine j_getR (pc := 18) (n := 1) dX7_valueOf_18 fl290 k0 (by decide) rfl ?_
      refine j_iload (pc := 21) 4 dX7_valueOf_21 rfl ?_
      refine j_iaload (pc := 23) dX7_valueOf_23 (lk_7_0 k0) (ll_7_0 k0) hf (fun _ hf => ?_)
      refine j_iadd (pc := 24) dX7_valueOf_24  ?_
      refine j_bipush (pc := 25) dX7_valueOf_25 (v := 48) (by decide) ?_
      refine j_isub (pc := 27) dX7_valueOf_27  ?_
      refine j_istore_nN (pc := 28) (lv' := fun v1 => [(3, .int v1), (0, .ref (ad a0)), (1, .int x1), (2, .int x2), (4, .int x4)]) dX7_valueOf_28 rfl (by decide) (fun _ => rfl) hf (fun v1 hf => ?_)
      refine j_iinc (pc := 29) 4 (c := 1) (lv' := fun v2 => [(4, .int v2), (3, .int v1), (0, .ref (ad a0)), (1, .int x1), (2, .int x2)]) dX7_valueOf_29 rfl (by decide) (by decide) (fun _ => rfl) hf (fun v2 hf => ?_)
      refine j_goto (pc := 32) (tgt := 5) dX7_valueOf_32 (by decide) ?_
      refine j_sub [2, 3, 4, 1, 0] rfl ?_
      exact hk5 k0 hf
def f_X7_valueOf (a0 : Nat) (x1 : Int32) (x2 : Int32) (h : Hp) : Option (Int32 × Hp) := lp (F := Nat → Int32 → Int32 → Int32 → Int32 → Hp → Option (Int32 × Hp)) (fun _ _ _ _ _ _ => none) (f_X7_valueOf_5) 1000 a0 x1 x2 0 x1 h
set_option maxHeartbeats 4000000 in
set_option maxRecDepth 100000 in
theorem t_X7_valueOf {l : Launch} {D : va_G} {ad : Nat → Nat} {cA : Nat → ClassId} {d : Nat} {a0 : Nat} {x1 : Int32} {x2 : Int32} (k0 : kd a0 = 7) {h : Hp} {o : Int32 × Hp} (hf : f_X7_valueOf a0 x1 x2 h = some o) : Cr l D ad cA d yX7_valueOf cX7_valueOf 5 (some .int) [.ref (ad a0), .int x1, .int x2] h (some (.int o.1)) o.2 := by
  unfold f_X7_valueOf at hf
  refine Cr_of (by decide +kernel) rfl (Nat.le_of_ble_eq_true rfl) (lv0 := [(0, .ref (ad a0)), (1, .int x1), (2, .int x2)]) rfl ?_
  refine j_iconst (pc := 0) dX7_valueOf_0 (v := 0) (by decide) ?_
  refine j_istore_n (pc := 1) (lv' := [(3, .int 0), (0, .ref (ad a0)), (1, .int x1), (2, .int x2)]) dX7_valueOf_1 rfl (by decide) rfl ?_
  refine j_iload_n (pc := 2) 2 dX7_valueOf_2 rfl rfl ?_
  refine j_istore (pc := 3) (lv' := [(4, .int x1), (3, .int 0), (0, .ref (ad a0)), (1, .int x1), (2, .int x2)]) dX7_valueOf_3 (by decide) rfl ?_
  refine j_sub [2, 3, 4, 1, 0] rfl ?_
  exact t_X7_valueOf_5  1000 k0 hf
def f_X8_cellOf (x0 : Int32) (x1 : Int32) (h : Hp) : Option (Int32 × Hp) := some ((x0 * 6) + x1, h)
set_option maxHeartbeats 4000000 in
set_option maxRecDepth 100000 in
theorem t_X8_cellOf {l : Launch} {D : va_G} {ad : Nat → Nat} {cA : Nat → ClassId} {d : Nat} {x0 : Int32} {x1 : Int32}  {h : Hp} {o : Int32 × Hp} (hf : f_X8_cellOf x0 x1 h = some o) : Cr l D ad cA d yX8_cellOf cX8_cellOf 2 (some .int) [.int x0, .int x1] h (some (.int o.1)) o.2 := by
  unfold f_X8_cellOf at hf
  refine Cr_of (by decide +kernel) rfl (Nat.le_of_ble_eq_true rfl) (lv0 := [(0, .int x0), (1, .int x1)]) rfl ?_
  refine j_iload_n (pc := 0) 0 dX8_cellOf_0 rfl rfl ?_
  refine j_bipush (pc := 1) dX8_cellOf_1 (v := 6) (by decide) ?_
  refine j_imul (pc := 3) dX8_cellOf_3  ?_
  refine j_iload_n (pc := 4) 1 dX8_cellOf_4 rfl rfl ?_
  refine j_iadd (pc := 5) dX8_cellOf_5  ?_
  exact j_iret (pc := 6) dX8_cellOf_6 rfl hf
def f_X8_clear (a0 : Nat) (h : Hp) : Option (Int32 × Hp) := lt (h.1 (a0 + 96) 1) (fun v1 => lt (sI h (a0 + 96) 1 0) (fun m2 => some (v1, m2)))
set_option maxHeartbeats 4000000 in
set_option maxRecDepth 100000 in
theorem t_X8_clear {l : Launch} {D : va_G} {ad : Nat → Nat} {cA : Nat → ClassId} {d : Nat} {a0 : Nat} (k0 : kd a0 = 8) {h : Hp} {o : Int32 × Hp} (hf : f_X8_clear a0 h = some o) : Cr l D ad cA d yX8_clear cX8_clear 2 (some .int) [.ref (ad a0)] h (some (.int o.1)) o.2 := by
  unfold f_X8_clear at hf
  refine Cr_of (by decide +kernel) rfl (Nat.le_of_ble_eq_true rfl) (lv0 := [(0, .ref (ad a0))]) rfl ?_
  refine j_aload_n (pc := 0) 0 dX8_clear_0 rfl rfl ?_
  refine j_getR (pc := 1) (n := 96) dX8_clear_1 fl338 k0 (by decide) rfl ?_
  refine j_getI (pc := 4) dX8_clear_4 fl292 (lk_8_6 k0) (by decide) rfl ?_
  refine j_istore_nN (pc := 7) (lv' := fun v1 => [(1, .int v1), (0, .ref (ad a0))]) dX8_clear_7 rfl (by decide) (fun _ => rfl) hf (fun v1 hf => ?_)
  refine j_aload_n (pc := 8) 1 dX8_clear_8 rfl rfl ?_
  refine j_getR (pc := 9) (n := 96) dX8_clear_9 fl338 k0 (by decide) rfl ?_
  refine j_iconst (pc := 12) dX8_clear_12 (v := 0) (by decide) ?_
  refine j_putI (pc := 13) dX8_clear_13 fl292 fp7_1 (lk_8_6 k0) (by decide) rfl hf (fun m2 hf => ?_)
  refine j_iload_n (pc := 16) 0 dX8_clear_16 rfl rfl ?_
  exact j_iret (pc := 17) dX8_clear_17 rfl hf
def f_X8_commonDivisor_44  (x4 : Int64) (h : Hp) : Option (Int64 × Hp) := some (x4, h)
set_option maxHeartbeats 4000000 in
set_option maxRecDepth 100000 in
theorem t_X8_commonDivisor_44 {l : Launch} {D : va_G} {ad : Nat → Nat} {cA : Nat → ClassId} {d : Nat} {o : Int64 × Hp}  {x4 : Int64}  {h : Hp} (hf : f_X8_commonDivisor_44  x4 h = some o) : J l D ad cA (fun _ => True) (rmd d) (0, 0) (mQ D ad cA (some (.long o.1)) o.2) cX8_commonDivisor RX8 11 (some .long) 44 [(4, .long x4)] [] h := by
  unfold f_X8_commonDivisor_44 at hf
  refine j_lload (pc := 44) 0 dX8_commonDivisor_44 rfl ?_
  exact j_lret (pc := 46) dX8_commonDivisor_46 rfl hf
def f_X8_commonDivisor_9 (k9 : Int64 → Int64 → Int32 → Hp → Option (Int64 × Hp)) (x4 : Int64) (x6 : Int64) (x8 : Int32) (h : Hp) : Option (Int64 × Hp) := if 100 ≤ x8 then (f_X8_commonDivisor_44  x4 h) else (if (lg_cmp x6 0) = 0 then (f_X8_commonDivisor_44  x4 h) else (if x6 = 0 then none else (lt (x4 - x4 / x6 * x6) (fun v1 => lt (x8 + 1) (fun v2 => k9 x6 v1 v2 h)))))
set_option maxHeartbeats 4000000 in
set_option maxRecDepth 100000 in
theorem t_X8_commonDivisor_9 {l : Launch} {D : va_G} {ad : Nat → Nat} {cA : Nat → ClassId} {d : Nat} {o : Int64 × Hp}  : ∀ (n : Nat) {x4 : Int64} {x6 : Int64} {x8 : Int32}  {h : Hp}, lp (F := Int64 → Int64 → Int32 → Hp → Option (Int64 × Hp)) (fun _ _ _ _ => none) (f_X8_commonDivisor_9) n x4 x6 x8 h = some o → J l D ad cA (fun _ => True) (rmd d) (0, 0) (mQ D ad cA (some (.long o.1)) o.2) cX8_commonDivisor RX8 11 (some .long) 9 [(4, .long x4), (6, .long x6), (8, .int x8)] [] h := by
  intro n
  induction n with
  | zero =>
    intro x4 x6 x8  h hf
    have hf : (none : Option (Int64 × Hp)) = some o := hf
    cases hf
  | succ n hk9 =>
    intro x4 x6 x8  h hf
    have hf : f_X8_commonDivisor_9  (lp (F := Int64 → Int64 → Int32 → Hp → Option (Int64 × Hp)) (fun _ _ _ _ => none) (f_X8_commonDivisor_9) n) x4 x6 x8 h = some o := hf
    unfold f_X8_commonDivisor_9 at hf
    refine j_iload (pc := 9) 2 dX8_commonDivisor_9 rfl ?_
    refine j_bipush (pc := 11) dX8_commonDivisor_11 (v := 100) (by decide) ?_
    refine j_icmp_ge (pc := 13) (tgt := 44) dX8_commonDivisor_13 (by decide) hf (fun _ hf => ?_) (fun _ hf => ?_)
    · refine j_sub [0] rfl ?_
      exact t_X8_commonDivisor_44   hf
    · refine j_lload (pc := 16) 1 dX8_commonDivisor_16 rfl ?_
      refine j_lconst (pc := 18) dX8_commonDivisor_18 (v := 0) rfl ?_
      refine j_lcmp (pc := 19) dX8_commonDivisor_19  ?_
      refine j_if_eq (pc := 20) (tgt := 44) dX8_commonDivisor_20 (by decide) hf (fun _ hf => ?_) (fun _ hf => ?_)
      · refine j_sub [0] rfl ?_
        exact t_X8_commonDivisor_44   hf
      · refine j_lload (pc := 23) 0 dX8_commonDivisor_23 rfl ?_
        refine j_lload (pc := 25) 1 dX8_commonDivisor_25 rfl ?_
        refine j_lrem (pc := 27) dX8_commonDivisor_27 hf (fun hf => ?_)
        refine j_lstoreN (pc := 28) (lv' := fun v1 => [(9, .long v1), (4, .long x4), (6, .long x6), (8, .int x8)]) dX8_commonDivisor_28 (by decide) (fun _ => rfl) hf (fun v1 hf => ?_)
        refine j_lload (pc := 30) 2 dX8_commonDivisor_30 rfl ?_
        refine j_lstore (pc := 32) (lv' := [(4, .long x6), (9, .long v1), (6, .long x6), (8, .int x8)]) dX8_commonDivisor_32 (by decide) rfl ?_
        refine j_lload (pc := 34) 1 dX8_commonDivisor_34 rfl ?_
        refine j_lstore (pc := 36) (lv' := [(6, .long v1), (4, .long x6), (9, .long v1), (8, .int x8)]) dX8_commonDivisor_36 (by decide) rfl ?_
        refine j_iinc (pc := 38) 3 (c := 1) (lv' := fun v2 => [(8, .int v2), (6, .long v1), (4, .long x6), (9, .long v1)]) dX8_commonDivisor_38 rfl (by decide) (by decide) (fun _ => rfl) hf (fun v2 hf => ?_)
        refine j_goto (pc := 41) (tgt := 9) dX8_commonDivisor_41 (by decide) ?_
        refine j_sub [2, 1, 0] rfl ?_
        exact hk9 hf
def f_X8_commonDivisor (x0 : Int64) (x2 : Int64) (h : Hp) : Option (Int64 × Hp) := lp (F := Int64 → Int64 → Int32 → Hp → Option (Int64 × Hp)) (fun _ _ _ _ => none) (f_X8_commonDivisor_9) 1000 x0 x2 0 h
set_option maxHeartbeats 4000000 in
set_option maxRecDepth 100000 in
theorem t_X8_commonDivisor {l : Launch} {D : va_G} {ad : Nat → Nat} {cA : Nat → ClassId} {d : Nat} {x0 : Int64} {x2 : Int64}  {h : Hp} {o : Int64 × Hp} (hf : f_X8_commonDivisor x0 x2 h = some o) : Cr l D ad cA d yX8_commonDivisor cX8_commonDivisor 11 (some .long) [.long x0, .long x2] h (some (.long o.1)) o.2 := by
  unfold f_X8_commonDivisor at hf
  refine Cr_of (by decide +kernel) rfl (Nat.le_of_ble_eq_true rfl) (lv0 := [(0, .long x0), (2, .long x2)]) rfl ?_
  refine j_lload_n (pc := 0) 0 dX8_commonDivisor_0 rfl rfl ?_
  refine j_lstore (pc := 1) (lv' := [(4, .long x0), (0, .long x0), (2, .long x2)]) dX8_commonDivisor_1 (by decide) rfl ?_
  refine j_lload_n (pc := 3) 2 dX8_commonDivisor_3 rfl rfl ?_
  refine j_lstore (pc := 4) (lv' := [(6, .long x2), (4, .long x0), (0, .long x0), (2, .long x2)]) dX8_commonDivisor_4 (by decide) rfl ?_
  refine j_iconst (pc := 6) dX8_commonDivisor_6 (v := 0) (by decide) ?_
  refine j_istore (pc := 7) (lv' := [(8, .int 0), (6, .long x2), (4, .long x0), (0, .long x0), (2, .long x2)]) dX8_commonDivisor_7 (by decide) rfl ?_
  refine j_sub [2, 1, 0] rfl ?_
  exact t_X8_commonDivisor_9  1000  hf
def f_X8_holds (x0 : Int32) (x1 : Int32) (h : Hp) : Option (Int32 × Hp) := if ((x0 >>> (x1 &&& 31)) &&& 1) = 0 then (if isB 0 = true then some (0, h) else none) else (if isB 1 = true then some (1, h) else none)
set_option maxHeartbeats 4000000 in
set_option maxRecDepth 100000 in
theorem t_X8_holds {l : Launch} {D : va_G} {ad : Nat → Nat} {cA : Nat → ClassId} {d : Nat} {x0 : Int32} {x1 : Int32}  {h : Hp} {o : Int32 × Hp} (hf : f_X8_holds x0 x1 h = some o) : Cr l D ad cA d yX8_holds cX8_holds 2 (some .boolean) [.int x0, .int x1] h (some (.int o.1)) o.2 := by
  unfold f_X8_holds at hf
  refine Cr_of (by decide +kernel) rfl (Nat.le_of_ble_eq_true rfl) (lv0 := [(0, .int x0), (1, .int x1)]) rfl ?_
  refine j_iload_n (pc := 0) 0 dX8_holds_0 rfl rfl ?_
  refine j_iload_n (pc := 1) 1 dX8_holds_1 rfl rfl ?_
  refine j_ishr (pc := 2) dX8_holds_2  ?_
  refine j_iconst (pc := 3) dX8_holds_3 (v := 1) (by decide) ?_
  refine j_iand (pc := 4) dX8_holds_4  ?_
  refine j_if_eq (pc := 5) (tgt := 12) dX8_holds_5 (by decide) hf (fun _ hf => ?_) (fun _ hf => ?_)
  · refine j_iconst (pc := 12) dX8_holds_12 (v := 0) (by decide) ?_
    exact j_zret (pc := 13) dX8_holds_13 rfl hf
  · refine j_iconst (pc := 8) dX8_holds_8 (v := 1) (by decide) ?_
    refine j_goto (pc := 9) (tgt := 13) dX8_holds_9 (by decide) ?_
    exact j_zret (pc := 13) dX8_holds_13 rfl hf
def f_X8_paper_15   (h : Hp) : Option (Int32 × Hp) := some ((-1), h)
set_option maxHeartbeats 4000000 in
set_option maxRecDepth 100000 in
theorem t_X8_paper_15 {l : Launch} {D : va_G} {ad : Nat → Nat} {cA : Nat → ClassId} {d : Nat} {o : Int32 × Hp}    {h : Hp} (hf : f_X8_paper_15   h = some o) : J l D ad cA (fun _ => True) (rmd d) (0, 0) (mQ D ad cA (some (.int o.1)) o.2) cX8_paper RX8 2 (some .int) 15 [] [] h := by
  unfold f_X8_paper_15 at hf
  refine j_iconst (pc := 15) dX8_paper_15 (v := -1) (by decide) ?_
  refine j_goto (pc := 16) (tgt := 28) dX8_paper_16 (by decide) ?_
  exact j_iret (pc := 28) dX8_paper_28 rfl hf
def f_X8_paper (a0 : Nat) (x1 : Int32) (h : Hp) : Option (Int32 × Hp) := if x1 < 0 then (f_X8_paper_15   h) else (if x1 < (h.1 (a0 + 98) 1) then (if ix x1 120 = true then (some (h.1 (a0 + 98 + 1) (Int32.toNatClampNeg x1), h)) else none) else (f_X8_paper_15   h))
set_option maxHeartbeats 4000000 in
set_option maxRecDepth 100000 in
theorem t_X8_paper {l : Launch} {D : va_G} {ad : Nat → Nat} {cA : Nat → ClassId} {d : Nat} {a0 : Nat} {x1 : Int32} (k0 : kd a0 = 8) {h : Hp} {o : Int32 × Hp} (hf : f_X8_paper a0 x1 h = some o) : Cr l D ad cA d yX8_paper cX8_paper 2 (some .int) [.ref (ad a0), .int x1] h (some (.int o.1)) o.2 := by
  unfold f_X8_paper at hf
  refine Cr_of (by decide +kernel) rfl (Nat.le_of_ble_eq_true rfl) (lv0 := [(0, .ref (ad a0)), (1, .int x1)]) rfl ?_
  refine j_iload_n (pc := 0) 1 dX8_paper_0 rfl rfl ?_
  refine j_if_lt (pc := 1) (tgt := 15) dX8_paper_1 (by decide) hf (fun _ hf => ?_) (fun _ hf => ?_)
  · refine j_sub [] rfl ?_
    exact t_X8_paper_15   hf
  · refine j_iload_n (pc := 4) 1 dX8_paper_4 rfl rfl ?_
    refine j_aload_n (pc := 5) 0 dX8_paper_5 rfl rfl ?_
    refine j_getR (pc := 6) (n := 98) dX8_paper_6 fl339 k0 (by decide) rfl ?_
    refine j_getI (pc := 9) dX8_paper_9 fl307 (lk_8_7 k0) (by decide) rfl ?_
    refine j_icmp_lt (pc := 12) (tgt := 19) dX8_paper_12 (by decide) hf (fun _ hf => ?_) (fun _ hf => ?_)
    · refine j_aload_n (pc := 19) 0 dX8_paper_19 rfl rfl ?_
      refine j_getR (pc := 20) (n := 98) dX8_paper_20 fl339 k0 (by decide) rfl ?_
      refine j_getR (pc := 23) (n := 1) dX8_paper_23 fl305 (lk_8_7 k0) (by decide) rfl ?_
      refine j_iload_n (pc := 26) 1 dX8_paper_26 rfl rfl ?_
      refine j_iaload (pc := 27) dX8_paper_27 (lk_5_0 (lk_8_7 k0)) (ll_5_0 (lk_8_7 k0)) hf (fun _ hf => ?_)
      exact j_iret (pc := 28) dX8_paper_28 rfl hf
    · refine j_sub [] rfl ?_
      exact t_X8_paper_15   hf
def f_X8_product_59  (x0 : Int64) (x2 : Int64) (h : Hp) : Option (Int64 × Hp) := some (x0 * x2, h)
set_option maxHeartbeats 4000000 in
set_option maxRecDepth 100000 in
theorem t_X8_product_59 {l : Launch} {D : va_G} {ad : Nat → Nat} {cA : Nat → ClassId} {d : Nat} {o : Int64 × Hp}  {x0 : Int64} {x2 : Int64}  {h : Hp} (hf : f_X8_product_59  x0 x2 h = some o) : J l D ad cA (fun _ => True) (rmd d) (0, 0) (mQ D ad cA (some (.long o.1)) o.2) cX8_product RX8 5 (some .long) 59 [(0, .long x0), (2, .long x2)] [] h := by
  unfold f_X8_product_59 at hf
  refine j_lload_n (pc := 59) 0 dX8_product_59 rfl rfl ?_
  refine j_lload_n (pc := 60) 1 dX8_product_60 rfl rfl ?_
  refine j_lmul (pc := 61) dX8_product_61  ?_
  exact j_lret (pc := 62) dX8_product_62 rfl hf
def f_X8_product_32  (x0 : Int64) (x2 : Int64) (y0 : Int32) (h : Hp) : Option (Int64 × Hp) := if y0 = 0 then (f_X8_product_59  x0 x2 h) else (if (lg_cmp x2 0) = 0 then (f_X8_product_59  x0 x2 h) else (if x2 = 0 then none else (if (lg_cmp x0 (9223372036854775807 / x2)) ≤ 0 then (f_X8_product_59  x0 x2 h) else (some ((-1), h)))))
set_option maxHeartbeats 4000000 in
set_option maxRecDepth 100000 in
theorem t_X8_product_32 {l : Launch} {D : va_G} {ad : Nat → Nat} {cA : Nat → ClassId} {d : Nat} {o : Int64 × Hp}  {x0 : Int64} {x2 : Int64} {y0 : Int32}  {h : Hp} (hf : f_X8_product_32  x0 x2 y0 h = some o) : J l D ad cA (fun _ => True) (rmd d) (0, 0) (mQ D ad cA (some (.long o.1)) o.2) cX8_product RX8 5 (some .long) 32 [(0, .long x0), (2, .long x2)] [.int y0] h := by
  unfold f_X8_product_32 at hf
  refine j_istore (pc := 32) (lv' := [(4, .int y0), (0, .long x0), (2, .long x2)]) dX8_product_32 (by decide) rfl ?_
  refine j_iload (pc := 34) 0 dX8_product_34 rfl ?_
  refine j_if_eq (pc := 36) (tgt := 59) dX8_product_36 (by decide) hf (fun _ hf => ?_) (fun _ hf => ?_)
  · refine j_sub [1, 2] rfl ?_
    exact t_X8_product_59   hf
  · refine j_lload_n (pc := 39) 2 dX8_product_39 rfl rfl ?_
    refine j_lconst (pc := 40) dX8_product_40 (v := 0) rfl ?_
    refine j_lcmp (pc := 41) dX8_product_41  ?_
    refine j_if_eq (pc := 42) (tgt := 59) dX8_product_42 (by decide) hf (fun _ hf => ?_) (fun _ hf => ?_)
    · refine j_sub [1, 2] rfl ?_
      exact t_X8_product_59   hf
    · refine j_lload_n (pc := 45) 1 dX8_product_45 rfl rfl ?_
      refine j_ldc2_w (pc := 46) dX8_product_46 (v := 9223372036854775807) w_c723 ?_
      refine j_lload_n (pc := 49) 2 dX8_product_49 rfl rfl ?_
      refine j_ldiv (pc := 50) dX8_product_50 hf (fun hf => ?_)
      refine j_lcmp (pc := 51) dX8_product_51  ?_
      refine j_if_le (pc := 52) (tgt := 59) dX8_product_52 (by decide) hf (fun _ hf => ?_) (fun _ hf => ?_)
      · refine j_sub [1, 2] rfl ?_
        exact t_X8_product_59   hf
      · refine j_ldc2_w (pc := 55) dX8_product_55 (v := -1) w_c722 ?_
        exact j_lret (pc := 58) dX8_product_58 rfl hf
def f_X8_product (x0 : Int64) (x2 : Int64) (h : Hp) : Option (Int64 × Hp) := if (lg_cmp x0 0) < 0 then (some ((-1), h)) else (if 0 ≤ (lg_cmp x2 0) then (if (lg_cmp (((Int64.toUInt64 (x0 ||| x2)) >>> ((Int32.toInt64 31).toUInt64 &&& Int64.toUInt64 63)).toInt64) 0) = 0 then (f_X8_product_32  x0 x2 0 h) else (f_X8_product_32  x0 x2 1 h)) else (some ((-1), h)))
set_option maxHeartbeats 4000000 in
set_option maxRecDepth 100000 in
theorem t_X8_product {l : Launch} {D : va_G} {ad : Nat → Nat} {cA : Nat → ClassId} {d : Nat} {x0 : Int64} {x2 : Int64}  {h : Hp} {o : Int64 × Hp} (hf : f_X8_product x0 x2 h = some o) : Cr l D ad cA d yX8_product cX8_product 5 (some .long) [.long x0, .long x2] h (some (.long o.1)) o.2 := by
  unfold f_X8_product at hf
  refine Cr_of (by decide +kernel) rfl (Nat.le_of_ble_eq_true rfl) (lv0 := [(0, .long x0), (2, .long x2)]) rfl ?_
  refine j_lload_n (pc := 0) 0 dX8_product_0 rfl rfl ?_
  refine j_lconst (pc := 1) dX8_product_1 (v := 0) rfl ?_
  refine j_lcmp (pc := 2) dX8_product_2  ?_
  refine j_if_lt (pc := 3) (tgt := 12) dX8_product_3 (by decide) hf (fun _ hf => ?_) (fun _ hf => ?_)
  · refine j_ldc2_w (pc := 12) dX8_product_12 (v := -1) w_c722 ?_
    exact j_lret (pc := 15) dX8_product_15 rfl hf
  · refine j_lload_n (pc := 6) 1 dX8_product_6 rfl rfl ?_
    refine j_lconst (pc := 7) dX8_product_7 (v := 0) rfl ?_
    refine j_lcmp (pc := 8) dX8_product_8  ?_
    refine j_if_ge (pc := 9) (tgt := 16) dX8_product_9 (by decide) hf (fun _ hf => ?_) (fun _ hf => ?_)
    · refine j_lload_n (pc := 16) 0 dX8_product_16 rfl rfl ?_
      refine j_lload_n (pc := 17) 1 dX8_product_17 rfl rfl ?_
      refine j_lor (pc := 18) dX8_product_18  ?_
      refine j_bipush (pc := 19) dX8_product_19 (v := 31) (by decide) ?_
      refine j_lushr (pc := 21) dX8_product_21  ?_
      refine j_lconst (pc := 22) dX8_product_22 (v := 0) rfl ?_
      refine j_lcmp (pc := 23) dX8_product_23  ?_
      refine j_if_eq (pc := 24) (tgt := 31) dX8_product_24 (by decide) hf (fun _ hf => ?_) (fun _ hf => ?_)
      · refine j_iconst (pc := 31) dX8_product_31 (v := 0) (by decide) ?_
        refine j_sub [0, 1] rfl ?_
        exact t_X8_product_32   hf
      · refine j_iconst (pc := 27) dX8_product_27 (v := 1) (by decide) ?_
        refine j_goto (pc := 28) (tgt := 32) dX8_product_28 (by decide) ?_
        refine j_sub [0, 1] rfl ?_
        exact t_X8_product_32   hf
    · refine j_ldc2_w (pc := 12) dX8_product_12 (v := -1) w_c722 ?_
      exact j_lret (pc := 15) dX8_product_15 rfl hf
def f_X8_within (x0 : Int32) (x1 : Int32) (h : Hp) : Option (Int32 × Hp) := if x0 < 0 then (if isB 0 = true then some (0, h) else none) else (if x1 < x0 then (if isB 0 = true then some (0, h) else none) else (if isB 1 = true then some (1, h) else none))
set_option maxHeartbeats 4000000 in
set_option maxRecDepth 100000 in
theorem t_X8_within {l : Launch} {D : va_G} {ad : Nat → Nat} {cA : Nat → ClassId} {d : Nat} {x0 : Int32} {x1 : Int32}  {h : Hp} {o : Int32 × Hp} (hf : f_X8_within x0 x1 h = some o) : Cr l D ad cA d yX8_within cX8_within 2 (some .boolean) [.int x0, .int x1] h (some (.int o.1)) o.2 := by
  unfold f_X8_within at hf
  refine Cr_of (by decide +kernel) rfl (Nat.le_of_ble_eq_true rfl) (lv0 := [(0, .int x0), (1, .int x1)]) rfl ?_
  refine j_iload_n (pc := 0) 0 dX8_within_0 rfl rfl ?_
  refine j_if_lt (pc := 1) (tgt := 13) dX8_within_1 (by decide) hf (fun _ hf => ?_) (fun _ hf => ?_)
  · refine j_iconst (pc := 13) dX8_within_13 (v := 0) (by decide) ?_
    exact j_zret (pc := 14) dX8_within_14 rfl hf
  · refine j_iload_n (pc := 4) 0 dX8_within_4 rfl rfl ?_
    refine j_iload_n (pc := 5) 1 dX8_within_5 rfl rfl ?_
    refine j_icmp_gt (pc := 6) (tgt := 13) dX8_within_6 (by decide) hf (fun _ hf => ?_) (fun _ hf => ?_)
    · refine j_iconst (pc := 13) dX8_within_13 (v := 0) (by decide) ?_
      exact j_zret (pc := 14) dX8_within_14 rfl hf
    · refine j_iconst (pc := 9) dX8_within_9 (v := 1) (by decide) ?_
      refine j_goto (pc := 10) (tgt := 14) dX8_within_10 (by decide) ?_
      exact j_zret (pc := 14) dX8_within_14 rfl hf
def f_X9_above (a0 : Nat) (x1 : Int32) (x2 : Int32) (h : Hp) : Option (Int32 × Hp) := if x1 = 0 then (some (x2, h)) else (if x1 = 1 then (some ((2 * x2) - 1, h)) else (if x1 = 2 then (some (x2 - 1, h)) else (if x1 = 3 then (some (x2 * (x2 - 1), h)) else (if x1 = 4 then (some ((2 * x2) * (x2 - 1), h)) else (if ix 43 44 = true then (if ix 42 44 = true then (some (((h.1 (a0 + 1) (Int32.toNatClampNeg 43)) * (x2 - 1)) + (h.1 (a0 + 1) (Int32.toNatClampNeg 42)), h)) else none) else none)))))
set_option maxHeartbeats 4000000 in
set_option maxRecDepth 100000 in
theorem t_X9_above {l : Launch} {D : va_G} {ad : Nat → Nat} {cA : Nat → ClassId} {d : Nat} {a0 : Nat} {x1 : Int32} {x2 : Int32} (k0 : kd a0 = 9) {h : Hp} {o : Int32 × Hp} (hf : f_X9_above a0 x1 x2 h = some o) : Cr l D ad cA d yX9_above cX9_above 3 (some .int) [.ref (ad a0), .int x1, .int x2] h (some (.int o.1)) o.2 := by
  unfold f_X9_above at hf
  refine Cr_of (by decide +kernel) rfl (Nat.le_of_ble_eq_true rfl) (lv0 := [(0, .ref (ad a0)), (1, .int x1), (2, .int x2)]) rfl ?_
  refine j_iload_n (pc := 0) 1 dX9_above_0 rfl rfl ?_
  refine j_ite hf (fun hc1 hf => ?_) (fun hc1 hf => ?_)
  · refine j_tin (pc := 1) (tgt := 36) dX9_above_1 (by rw [hc1]; decide) (by rw [hc1]; decide) (by rw [hc1]; rfl) (by decide) ?_
    refine j_iload_n (pc := 36) 2 dX9_above_36 rfl rfl ?_
    exact j_iret (pc := 37) dX9_above_37 rfl hf
  refine j_ite hf (fun hc2 hf => ?_) (fun hc2 hf => ?_)
  · refine j_tin (pc := 1) (tgt := 38) dX9_above_1 (by rw [hc2]; decide) (by rw [hc2]; decide) (by rw [hc2]; rfl) (by decide) ?_
    refine j_iconst (pc := 38) dX9_above_38 (v := 2) (by decide) ?_
    refine j_iload_n (pc := 39) 2 dX9_above_39 rfl rfl ?_
    refine j_imul (pc := 40) dX9_above_40  ?_
    refine j_iconst (pc := 41) dX9_above_41 (v := 1) (by decide) ?_
    refine j_isub (pc := 42) dX9_above_42  ?_
    exact j_iret (pc := 43) dX9_above_43 rfl hf
  refine j_ite hf (fun hc3 hf => ?_) (fun hc3 hf => ?_)
  · refine j_tin (pc := 1) (tgt := 44) dX9_above_1 (by rw [hc3]; decide) (by rw [hc3]; decide) (by rw [hc3]; rfl) (by decide) ?_
    refine j_iload_n (pc := 44) 2 dX9_above_44 rfl rfl ?_
    refine j_iconst (pc := 45) dX9_above_45 (v := 1) (by decide) ?_
    refine j_isub (pc := 46) dX9_above_46  ?_
    exact j_iret (pc := 47) dX9_above_47 rfl hf
  refine j_ite hf (fun hc4 hf => ?_) (fun hc4 hf => ?_)
  · refine j_tin (pc := 1) (tgt := 48) dX9_above_1 (by rw [hc4]; decide) (by rw [hc4]; decide) (by rw [hc4]; rfl) (by decide) ?_
    refine j_iload_n (pc := 48) 2 dX9_above_48 rfl rfl ?_
    refine j_iload_n (pc := 49) 2 dX9_above_49 rfl rfl ?_
    refine j_iconst (pc := 50) dX9_above_50 (v := 1) (by decide) ?_
    refine j_isub (pc := 51) dX9_above_51  ?_
    refine j_imul (pc := 52) dX9_above_52  ?_
    exact j_iret (pc := 53) dX9_above_53 rfl hf
  refine j_ite hf (fun hc5 hf => ?_) (fun hc5 hf => ?_)
  · refine j_tin (pc := 1) (tgt := 54) dX9_above_1 (by rw [hc5]; decide) (by rw [hc5]; decide) (by rw [hc5]; rfl) (by decide) ?_
    refine j_iconst (pc := 54) dX9_above_54 (v := 2) (by decide) ?_
    refine j_iload_n (pc := 55) 2 dX9_above_55 rfl rfl ?_
    refine j_imul (pc := 56) dX9_above_56  ?_
    refine j_iload_n (pc := 57) 2 dX9_above_57 rfl rfl ?_
    refine j_iconst (pc := 58) dX9_above_58 (v := 1) (by decide) ?_
    refine j_isub (pc := 59) dX9_above_59  ?_
    refine j_imul (pc := 60) dX9_above_60  ?_
    exact j_iret (pc := 61) dX9_above_61 rfl hf
  refine j_tout (pc := 1) (tgt := 62) dX9_above_1 (tsw (lo := 0) (hi := 4) (by decide) (fun j h1 h2 => by
      rcases (show j = 0 ∨ j = 1 ∨ j = 2 ∨ j = 3 ∨ j = 4 by omega) with rfl | rfl | rfl | rfl | rfl
      · exact hc1
      · exact hc2
      · exact hc3
      · exact hc4
      · exact hc5)) (by decide) ?_
  refine j_aload_n (pc := 62) 0 dX9_above_62 rfl rfl ?_
  refine j_getR (pc := 63) (n := 1) dX9_above_63 fl846 k0 (by decide) rfl ?_
  refine j_bipush (pc := 66) dX9_above_66 (v := 43) (by decide) ?_
  refine j_iaload (pc := 68) dX9_above_68 (lk_9_0 k0) (ll_9_0 k0) hf (fun _ hf => ?_)
  refine j_iload_n (pc := 69) 2 dX9_above_69 rfl rfl ?_
  refine j_iconst (pc := 70) dX9_above_70 (v := 1) (by decide) ?_
  refine j_isub (pc := 71) dX9_above_71  ?_
  refine j_imul (pc := 72) dX9_above_72  ?_
  refine j_aload_n (pc := 73) 0 dX9_above_73 rfl rfl ?_
  refine j_getR (pc := 74) (n := 1) dX9_above_74 fl846 k0 (by decide) rfl ?_
  refine j_bipush (pc := 77) dX9_above_77 (v := 42) (by decide) ?_
  refine j_iaload (pc := 79) dX9_above_79 (lk_9_0 k0) (ll_9_0 k0) hf (fun _ hf => ?_)
  refine j_iadd (pc := 80) dX9_above_80  ?_
  exact j_iret (pc := 81) dX9_above_81 rfl hf
def f_X9_below (a0 : Nat) (x1 : Int32) (x2 : Int32) (h : Hp) : Option (Int32 × Hp) := if x1 = 1 then (some (2, h)) else (if x1 = 2 then (some (1, h)) else (if x1 = 3 then (some (1, h)) else (if x1 = 4 then (some ((2 * x2) - 1, h)) else (if x1 = 5 then (if ix 43 44 = true then (some (h.1 (a0 + 1) (Int32.toNatClampNeg 43), h)) else none) else (some (1, h))))))
set_option maxHeartbeats 4000000 in
set_option maxRecDepth 100000 in
theorem t_X9_below {l : Launch} {D : va_G} {ad : Nat → Nat} {cA : Nat → ClassId} {d : Nat} {a0 : Nat} {x1 : Int32} {x2 : Int32} (k0 : kd a0 = 9) {h : Hp} {o : Int32 × Hp} (hf : f_X9_below a0 x1 x2 h = some o) : Cr l D ad cA d yX9_below cX9_below 3 (some .int) [.ref (ad a0), .int x1, .int x2] h (some (.int o.1)) o.2 := by
  unfold f_X9_below at hf
  refine Cr_of (by decide +kernel) rfl (Nat.le_of_ble_eq_true rfl) (lv0 := [(0, .ref (ad a0)), (1, .int x1), (2, .int x2)]) rfl ?_
  refine j_iload_n (pc := 0) 1 dX9_below_0 rfl rfl ?_
  refine j_ite hf (fun hc1 hf => ?_) (fun hc1 hf => ?_)
  · refine j_tin (pc := 1) (tgt := 36) dX9_below_1 (by rw [hc1]; decide) (by rw [hc1]; decide) (by rw [hc1]; rfl) (by decide) ?_
    refine j_iconst (pc := 36) dX9_below_36 (v := 2) (by decide) ?_
    exact j_iret (pc := 37) dX9_below_37 rfl hf
  refine j_ite hf (fun hc2 hf => ?_) (fun hc2 hf => ?_)
  · refine j_tin (pc := 1) (tgt := 52) dX9_below_1 (by rw [hc2]; decide) (by rw [hc2]; decide) (by rw [hc2]; rfl) (by decide) ?_
    refine j_iconst (pc := 52) dX9_below_52 (v := 1) (by decide) ?_
    exact j_iret (pc := 53) dX9_below_53 rfl hf
  refine j_ite hf (fun hc3 hf => ?_) (fun hc3 hf => ?_)
  · refine j_tin (pc := 1) (tgt := 52) dX9_below_1 (by rw [hc3]; decide) (by rw [hc3]; decide) (by rw [hc3]; rfl) (by decide) ?_
    refine j_iconst (pc := 52) dX9_below_52 (v := 1) (by decide) ?_
    exact j_iret (pc := 53) dX9_below_53 rfl hf
  refine j_ite hf (fun hc4 hf => ?_) (fun hc4 hf => ?_)
  · refine j_tin (pc := 1) (tgt := 38) dX9_below_1 (by rw [hc4]; decide) (by rw [hc4]; decide) (by rw [hc4]; rfl) (by decide) ?_
    refine j_iconst (pc := 38) dX9_below_38 (v := 2) (by decide) ?_
    refine j_iload_n (pc := 39) 2 dX9_below_39 rfl rfl ?_
    refine j_imul (pc := 40) dX9_below_40  ?_
    refine j_iconst (pc := 41) dX9_below_41 (v := 1) (by decide) ?_
    refine j_isub (pc := 42) dX9_below_42  ?_
    exact j_iret (pc := 43) dX9_below_43 rfl hf
  refine j_ite hf (fun hc5 hf => ?_) (fun hc5 hf => ?_)
  · refine j_tin (pc := 1) (tgt := 44) dX9_below_1 (by rw [hc5]; decide) (by rw [hc5]; decide) (by rw [hc5]; rfl) (by decide) ?_
    refine j_aload_n (pc := 44) 0 dX9_below_44 rfl rfl ?_
    refine j_getR (pc := 45) (n := 1) dX9_below_45 fl846 k0 (by decide) rfl ?_
    refine j_bipush (pc := 48) dX9_below_48 (v := 43) (by decide) ?_
    refine j_iaload (pc := 50) dX9_below_50 (lk_9_0 k0) (ll_9_0 k0) hf (fun _ hf => ?_)
    exact j_iret (pc := 51) dX9_below_51 rfl hf
  refine j_tout (pc := 1) (tgt := 52) dX9_below_1 (tsw (lo := 1) (hi := 5) (by decide) (fun j h1 h2 => by
      rcases (show j = 1 ∨ j = 2 ∨ j = 3 ∨ j = 4 ∨ j = 5 by omega) with rfl | rfl | rfl | rfl | rfl
      · exact hc1
      · exact hc2
      · exact hc3
      · exact hc4
      · exact hc5)) (by decide) ?_
  refine j_iconst (pc := 52) dX9_below_52 (v := 1) (by decide) ?_
  exact j_iret (pc := 53) dX9_below_53 rfl hf
def f_X9_claims (a0 : Nat) (x1 : Int32) (x2 : Int32) (x3 : Int32) (h : Hp) : Option (Unit × Hp) := if ix x1 6 = true then (lt (sI h (a0 + 5) (Int32.toNatClampNeg x1) (vp_nar .boolean 1)) (fun m1 => if ix x1 6 = true then (if ix x1 6 = true then (lt (sI m1 (a0 + 6) (Int32.toNatClampNeg x1) ((m1.1 (a0 + 6) (Int32.toNatClampNeg x1)) + x2)) (fun m2 => if ix x1 6 = true then (if ix x1 6 = true then (lt (sI m2 (a0 + 7) (Int32.toNatClampNeg x1) ((m2.1 (a0 + 7) (Int32.toNatClampNeg x1)) + x3)) (fun m3 => some ((), m3))) else none) else none)) else none) else none)) else none
set_option maxHeartbeats 4000000 in
set_option maxRecDepth 100000 in
theorem t_X9_claims {l : Launch} {D : va_G} {ad : Nat → Nat} {cA : Nat → ClassId} {d : Nat} {a0 : Nat} {x1 : Int32} {x2 : Int32} {x3 : Int32} (k0 : kd a0 = 9) {h : Hp} {o : Unit × Hp} (hf : f_X9_claims a0 x1 x2 x3 h = some o) : Cr l D ad cA d yX9_claims cX9_claims 4 (none) [.ref (ad a0), .int x1, .int x2, .int x3] h (none) o.2 := by
  unfold f_X9_claims at hf
  refine Cr_of (by decide +kernel) rfl (Nat.le_of_ble_eq_true rfl) (lv0 := [(0, .ref (ad a0)), (1, .int x1), (2, .int x2), (3, .int x3)]) rfl ?_
  refine j_aload_n (pc := 0) 0 dX9_claims_0 rfl rfl ?_
  refine j_getR (pc := 1) (n := 5) dX9_claims_1 fl855 k0 (by decide) rfl ?_
  refine j_iload_n (pc := 4) 1 dX9_claims_4 rfl rfl ?_
  refine j_iconst (pc := 5) dX9_claims_5 (v := 1) (by decide) ?_
  refine j_zastore (pc := 6) dX9_claims_6 (lk_9_9 k0) (ll_9_9 k0) hf (fun m1 hf => ?_)
  refine j_aload_n (pc := 7) 0 dX9_claims_7 rfl rfl ?_
  refine j_getR (pc := 8) (n := 6) dX9_claims_8 fl856 k0 (by decide) rfl ?_
  refine j_iload_n (pc := 11) 1 dX9_claims_11 rfl rfl ?_
  refine j_dup2 (pc := 12) dX9_claims_12 rfl rfl ?_
  refine j_iaload (pc := 13) dX9_claims_13 (lk_9_10 k0) (ll_9_10 k0) hf (fun _ hf => ?_)
  refine j_iload_n (pc := 14) 2 dX9_claims_14 rfl rfl ?_
  refine j_iadd (pc := 15) dX9_claims_15  ?_
  refine j_iastore (pc := 16) dX9_claims_16 (lk_9_10 k0) (ll_9_10 k0) hf (fun m2 hf => ?_)
  refine j_aload_n (pc := 17) 0 dX9_claims_17 rfl rfl ?_
  refine j_getR (pc := 18) (n := 7) dX9_claims_18 fl857 k0 (by decide) rfl ?_
  refine j_iload_n (pc := 21) 1 dX9_claims_21 rfl rfl ?_
  refine j_dup2 (pc := 22) dX9_claims_22 rfl rfl ?_
  refine j_iaload (pc := 23) dX9_claims_23 (lk_9_11 k0) (ll_9_11 k0) hf (fun _ hf => ?_)
  refine j_iload_n (pc := 24) 3 dX9_claims_24 rfl rfl ?_
  refine j_iadd (pc := 25) dX9_claims_25  ?_
  refine j_iastore (pc := 26) dX9_claims_26 (lk_9_11 k0) (ll_9_11 k0) hf (fun m3 hf => ?_)
  exact j_vret (pc := 27) dX9_claims_27 rfl hf
def f_X9_clear (a0 : Nat) (h : Hp) : Option (Int32 × Hp) := lt (h.1 a0 6) (fun v1 => lt (sI h a0 6 0) (fun m2 => some (v1, m2)))
set_option maxHeartbeats 4000000 in
set_option maxRecDepth 100000 in
theorem t_X9_clear {l : Launch} {D : va_G} {ad : Nat → Nat} {cA : Nat → ClassId} {d : Nat} {a0 : Nat} (k0 : kd a0 = 9) {h : Hp} {o : Int32 × Hp} (hf : f_X9_clear a0 h = some o) : Cr l D ad cA d yX9_clear cX9_clear 2 (some .int) [.ref (ad a0)] h (some (.int o.1)) o.2 := by
  unfold f_X9_clear at hf
  refine Cr_of (by decide +kernel) rfl (Nat.le_of_ble_eq_true rfl) (lv0 := [(0, .ref (ad a0))]) rfl ?_
  refine j_aload_n (pc := 0) 0 dX9_clear_0 rfl rfl ?_
  refine j_getI (pc := 1) dX9_clear_1 fl852 k0 (by decide) rfl ?_
  refine j_istore_nN (pc := 4) (lv' := fun v1 => [(1, .int v1), (0, .ref (ad a0))]) dX9_clear_4 rfl (by decide) (fun _ => rfl) hf (fun v1 hf => ?_)
  refine j_aload_n (pc := 5) 1 dX9_clear_5 rfl rfl ?_
  refine j_iconst (pc := 6) dX9_clear_6 (v := 0) (by decide) ?_
  refine j_putI (pc := 7) dX9_clear_7 fl852 fp9_6 k0 (by decide) rfl hf (fun m2 hf => ?_)
  refine j_iload_n (pc := 10) 0 dX9_clear_10 rfl rfl ?_
  exact j_iret (pc := 11) dX9_clear_11 rfl hf
def f_X9_divisor_6 (k6 : Int64 → Int64 → Hp → Option (Int64 × Hp)) (x4 : Int64) (x6 : Int64) (h : Hp) : Option (Int64 × Hp) := if (lg_cmp x6 0) = 0 then (some (x4, h)) else (if x6 = 0 then none else (lt (x4 - x4 / x6 * x6) (fun v1 => k6 x6 v1 h)))
set_option maxHeartbeats 4000000 in
set_option maxRecDepth 100000 in
theorem t_X9_divisor_6 {l : Launch} {D : va_G} {ad : Nat → Nat} {cA : Nat → ClassId} {d : Nat} {o : Int64 × Hp}  : ∀ (n : Nat) {x4 : Int64} {x6 : Int64}  {h : Hp}, lp (F := Int64 → Int64 → Hp → Option (Int64 × Hp)) (fun _ _ _ => none) (f_X9_divisor_6) n x4 x6 h = some o → J l D ad cA (fun _ => True) (rmd d) (0, 0) (mQ D ad cA (some (.long o.1)) o.2) cX9_divisor RX9 10 (some .long) 6 [(4, .long x4), (6, .long x6)] [] h := by
  intro n
  induction n with
  | zero =>
    intro x4 x6  h hf
    have hf : (none : Option (Int64 × Hp)) = some o := hf
    cases hf
  | succ n hk6 =>
    intro x4 x6  h hf
    have hf : f_X9_divisor_6  (lp (F := Int64 → Int64 → Hp → Option (Int64 × Hp)) (fun _ _ _ => none) (f_X9_divisor_6) n) x4 x6 h = some o := hf
    unfold f_X9_divisor_6 at hf
    refine j_lload (pc := 6) 1 dX9_divisor_6 rfl ?_
    refine j_lconst (pc := 8) dX9_divisor_8 (v := 0) rfl ?_
    refine j_lcmp (pc := 9) dX9_divisor_9  ?_
    refine j_if_eq (pc := 10) (tgt := 31) dX9_divisor_10 (by decide) hf (fun _ hf => ?_) (fun _ hf => ?_)
    · refine j_lload (pc := 31) 0 dX9_divisor_31 rfl ?_
      exact j_lret (pc := 33) dX9_divisor_33 rfl hf
    · refine j_lload (pc := 13) 0 dX9_divisor_13 rfl ?_
      refine j_lload (pc := 15) 1 dX9_divisor_15 rfl ?_
      refine j_lrem (pc := 17) dX9_divisor_17 hf (fun hf => ?_)
      refine j_lstoreN (pc := 18) (lv' := fun v1 => [(8, .long v1), (4, .long x4), (6, .long x6)]) dX9_divisor_18 (by decide) (fun _ => rfl) hf (fun v1 hf => ?_)
      refine j_lload (pc := 20) 2 dX9_divisor_20 rfl ?_
      refine j_lstore (pc := 22) (lv' := [(4, .long x6), (8, .long v1), (6, .long x6)]) dX9_divisor_22 (by decide) rfl ?_
      refine j_lload (pc := 24) 1 dX9_divisor_24 rfl ?_
      refine j_lstore (pc := 26) (lv' := [(6, .long v1), (4, .long x6), (8, .long v1)]) dX9_divisor_26 (by decide) rfl ?_
      refine j_goto (pc := 28) (tgt := 6) dX9_divisor_28 (by decide) ?_
      refine j_sub [1, 0] rfl ?_
      exact hk6 hf
def f_X9_divisor (x0 : Int64) (x2 : Int64) (h : Hp) : Option (Int64 × Hp) := lp (F := Int64 → Int64 → Hp → Option (Int64 × Hp)) (fun _ _ _ => none) (f_X9_divisor_6) 1000 x0 x2 h
set_option maxHeartbeats 4000000 in
set_option maxRecDepth 100000 in
theorem t_X9_divisor {l : Launch} {D : va_G} {ad : Nat → Nat} {cA : Nat → ClassId} {d : Nat} {x0 : Int64} {x2 : Int64}  {h : Hp} {o : Int64 × Hp} (hf : f_X9_divisor x0 x2 h = some o) : Cr l D ad cA d yX9_divisor cX9_divisor 10 (some .long) [.long x0, .long x2] h (some (.long o.1)) o.2 := by
  unfold f_X9_divisor at hf
  refine Cr_of (by decide +kernel) rfl (Nat.le_of_ble_eq_true rfl) (lv0 := [(0, .long x0), (2, .long x2)]) rfl ?_
  refine j_lload_n (pc := 0) 0 dX9_divisor_0 rfl rfl ?_
  refine j_lstore (pc := 1) (lv' := [(4, .long x0), (0, .long x0), (2, .long x2)]) dX9_divisor_1 (by decide) rfl ?_
  refine j_lload_n (pc := 3) 2 dX9_divisor_3 rfl rfl ?_
  refine j_lstore (pc := 4) (lv' := [(6, .long x2), (4, .long x0), (0, .long x0), (2, .long x2)]) dX9_divisor_4 (by decide) rfl ?_
  refine j_sub [1, 0] rfl ?_
  exact t_X9_divisor_6  1000  hf
def f_X9_gains (a0 : Nat) (x1 : Int32) (h : Hp) : Option (Int32 × Hp) := if ix x1 4 = true then (if ix x1 4 = true then (some ((6 * (h.1 (a0 + 24) (Int32.toNatClampNeg x1))) + (h.1 (a0 + 25) (Int32.toNatClampNeg x1)), h)) else none) else none
set_option maxHeartbeats 4000000 in
set_option maxRecDepth 100000 in
theorem t_X9_gains {l : Launch} {D : va_G} {ad : Nat → Nat} {cA : Nat → ClassId} {d : Nat} {a0 : Nat} {x1 : Int32} (k0 : kd a0 = 9) {h : Hp} {o : Int32 × Hp} (hf : f_X9_gains a0 x1 h = some o) : Cr l D ad cA d yX9_gains cX9_gains 2 (some .int) [.ref (ad a0), .int x1] h (some (.int o.1)) o.2 := by
  unfold f_X9_gains at hf
  refine Cr_of (by decide +kernel) rfl (Nat.le_of_ble_eq_true rfl) (lv0 := [(0, .ref (ad a0)), (1, .int x1)]) rfl ?_
  refine j_bipush (pc := 0) dX9_gains_0 (v := 6) (by decide) ?_
  refine j_aload_n (pc := 2) 0 dX9_gains_2 rfl rfl ?_
  refine j_getR (pc := 3) (n := 24) dX9_gains_3 fl882 k0 (by decide) rfl ?_
  refine j_iload_n (pc := 6) 1 dX9_gains_6 rfl rfl ?_
  refine j_iaload (pc := 7) dX9_gains_7 (lk_9_36 k0) (ll_9_36 k0) hf (fun _ hf => ?_)
  refine j_imul (pc := 8) dX9_gains_8  ?_
  refine j_aload_n (pc := 9) 0 dX9_gains_9 rfl rfl ?_
  refine j_getR (pc := 10) (n := 25) dX9_gains_10 fl883 k0 (by decide) rfl ?_
  refine j_iload_n (pc := 13) 1 dX9_gains_13 rfl rfl ?_
  refine j_iaload (pc := 14) dX9_gains_14 (lk_9_37 k0) (ll_9_37 k0) hf (fun _ hf => ?_)
  refine j_iadd (pc := 15) dX9_gains_15  ?_
  exact j_iret (pc := 16) dX9_gains_16 rfl hf
def f_X9_givesUp (a0 : Nat) (x1 : Int32) (h : Hp) : Option (Int32 × Hp) := if (h.1 a0 35) = 0 then none else (if ix ((x1 + 1) - (x1 + 1) / (h.1 a0 35) * (h.1 a0 35)) 4 = true then (if ix x1 4 = true then (some ((6 * (h.1 (a0 + 24) (Int32.toNatClampNeg ((x1 + 1) - (x1 + 1) / (h.1 a0 35) * (h.1 a0 35))))) + (h.1 (a0 + 25) (Int32.toNatClampNeg x1)), h)) else none) else none)
set_option maxHeartbeats 4000000 in
set_option maxRecDepth 100000 in
theorem t_X9_givesUp {l : Launch} {D : va_G} {ad : Nat → Nat} {cA : Nat → ClassId} {d : Nat} {a0 : Nat} {x1 : Int32} (k0 : kd a0 = 9) {h : Hp} {o : Int32 × Hp} (hf : f_X9_givesUp a0 x1 h = some o) : Cr l D ad cA d yX9_givesUp cX9_givesUp 2 (some .int) [.ref (ad a0), .int x1] h (some (.int o.1)) o.2 := by
  unfold f_X9_givesUp at hf
  refine Cr_of (by decide +kernel) rfl (Nat.le_of_ble_eq_true rfl) (lv0 := [(0, .ref (ad a0)), (1, .int x1)]) rfl ?_
  refine j_bipush (pc := 0) dX9_givesUp_0 (v := 6) (by decide) ?_
  refine j_aload_n (pc := 2) 0 dX9_givesUp_2 rfl rfl ?_
  refine j_getR (pc := 3) (n := 24) dX9_givesUp_3 fl882 k0 (by decide) rfl ?_
  refine j_iload_n (pc := 6) 1 dX9_givesUp_6 rfl rfl ?_
  refine j_iconst (pc := 7) dX9_givesUp_7 (v := 1) (by decide) ?_
  refine j_iadd (pc := 8) dX9_givesUp_8  ?_
  refine j_aload_n (pc := 9) 0 dX9_givesUp_9 rfl rfl ?_
  refine j_getI (pc := 10) dX9_givesUp_10 fl881 k0 (by decide) rfl ?_
  refine j_irem (pc := 13) dX9_givesUp_13 hf (fun hf => ?_)
  refine j_iaload (pc := 14) dX9_givesUp_14 (lk_9_36 k0) (ll_9_36 k0) hf (fun _ hf => ?_)
  refine j_imul (pc := 15) dX9_givesUp_15  ?_
  refine j_aload_n (pc := 16) 0 dX9_givesUp_16 rfl rfl ?_
  refine j_getR (pc := 17) (n := 25) dX9_givesUp_17 fl883 k0 (by decide) rfl ?_
  refine j_iload_n (pc := 20) 1 dX9_givesUp_20 rfl rfl ?_
  refine j_iaload (pc := 21) dX9_givesUp_21 (lk_9_37 k0) (ll_9_37 k0) hf (fun _ hf => ?_)
  refine j_iadd (pc := 22) dX9_givesUp_22  ?_
  exact j_iret (pc := 23) dX9_givesUp_23 rfl hf
def f_X9_greatestRest_55 (k4 : Nat → Int32 → Int32 → Hp → Option (Int32 × Hp)) (a0 : Nat) (x1 : Int32) (x2 : Int32) (h : Hp) : Option (Int32 × Hp) := lt (x2 + 1) (fun v1 => k4 a0 x1 v1 h)
set_option maxHeartbeats 4000000 in
set_option maxRecDepth 100000 in
theorem t_X9_greatestRest_55 {l : Launch} {D : va_G} {ad : Nat → Nat} {cA : Nat → ClassId} {d : Nat} {o : Int32 × Hp} {k4 : Nat → Int32 → Int32 → Hp → Option (Int32 × Hp)} (hk4 : ∀ {a0 : Nat} {x1 : Int32} {x2 : Int32} (k0 : kd a0 = 9) {h : Hp}, k4 a0 x1 x2 h = some o → J l D ad cA (fun _ => True) (rmd d) (0, 0) (mQ D ad cA (some (.int o.1)) o.2) cX9_greatestRest RX9 3 (some .int) 4 [(0, .ref (ad a0)), (1, .int x1), (2, .int x2)] [] h) {a0 : Nat} {x1 : Int32} {x2 : Int32} (k0 : kd a0 = 9) {h : Hp} (hf : f_X9_greatestRest_55 k4 a0 x1 x2 h = some o) : J l D ad cA (fun _ => True) (rmd d) (0, 0) (mQ D ad cA (some (.int o.1)) o.2) cX9_greatestRest RX9 3 (some .int) 55 [(0, .ref (ad a0)), (1, .int x1), (2, .int x2)] [] h := by
  unfold f_X9_greatestRest_55 at hf
  refine j_iinc (pc := 55) 2 (c := 1) (lv' := fun v1 => [(2, .int v1), (0, .ref (ad a0)), (1, .int x1)]) dX9_greatestRest_55 rfl (by decide) (by decide) (fun _ => rfl) hf (fun v1 hf => ?_)
  refine j_goto (pc := 58) (tgt := 4) dX9_greatestRest_58 (by decide) ?_
  refine j_sub [1, 2, 0] rfl ?_
  exact hk4 k0 hf
def f_X9_greatestRest_53 (k4 : Nat → Int32 → Int32 → Hp → Option (Int32 × Hp)) (a0 : Nat) (x2 : Int32) (h : Hp) : Option (Int32 × Hp) := f_X9_greatestRest_55 k4 a0 x2 x2 h
set_option maxHeartbeats 4000000 in
set_option maxRecDepth 100000 in
theorem t_X9_greatestRest_53 {l : Launch} {D : va_G} {ad : Nat → Nat} {cA : Nat → ClassId} {d : Nat} {o : Int32 × Hp} {k4 : Nat → Int32 → Int32 → Hp → Option (Int32 × Hp)} (hk4 : ∀ {a0 : Nat} {x1 : Int32} {x2 : Int32} (k0 : kd a0 = 9) {h : Hp}, k4 a0 x1 x2 h = some o → J l D ad cA (fun _ => True) (rmd d) (0, 0) (mQ D ad cA (some (.int o.1)) o.2) cX9_greatestRest RX9 3 (some .int) 4 [(0, .ref (ad a0)), (1, .int x1), (2, .int x2)] [] h) {a0 : Nat} {x2 : Int32} (k0 : kd a0 = 9) {h : Hp} (hf : f_X9_greatestRest_53 k4 a0 x2 h = some o) : J l D ad cA (fun _ => True) (rmd d) (0, 0) (mQ D ad cA (some (.int o.1)) o.2) cX9_greatestRest RX9 3 (some .int) 53 [(0, .ref (ad a0)), (2, .int x2)] [] h := by
  unfold f_X9_greatestRest_53 at hf
  refine j_iload_n (pc := 53) 1 dX9_greatestRest_53 rfl rfl ?_
  refine j_istore_n (pc := 54) (lv' := [(1, .int x2), (0, .ref (ad a0)), (2, .int x2)]) dX9_greatestRest_54 rfl (by decide) rfl ?_
  refine j_sub [1, 0, 2] rfl ?_
  exact t_X9_greatestRest_55 hk4 k0 hf
def f_X9_greatestRest_4 (k4 : Nat → Int32 → Int32 → Hp → Option (Int32 × Hp)) (a0 : Nat) (x1 : Int32) (x2 : Int32) (h : Hp) : Option (Int32 × Hp) := if 6 ≤ x2 then (some (x1, h)) else (if ix x2 6 = true then (if (lg_cmp (h.2 (a0 + 10) (Int32.toNatClampNeg x2)) ((-1))) = 0 then (f_X9_greatestRest_55 k4 a0 x1 x2 h) else (if ix x2 6 = true then (if (h.1 (a0 + 11) (Int32.toNatClampNeg x2)) = 0 then (if x1 = ((-1)) then (f_X9_greatestRest_53 k4 a0 x2 h) else (if ix x2 6 = true then (if ix x1 6 = true then (if (lg_cmp (h.2 (a0 + 10) (Int32.toNatClampNeg x2)) (h.2 (a0 + 10) (Int32.toNatClampNeg x1))) ≤ 0 then (f_X9_greatestRest_55 k4 a0 x1 x2 h) else (f_X9_greatestRest_53 k4 a0 x2 h)) else none) else none)) else (f_X9_greatestRest_55 k4 a0 x1 x2 h)) else none)) else none)
set_option maxHeartbeats 4000000 in
set_option maxRecDepth 100000 in
theorem t_X9_greatestRest_4 {l : Launch} {D : va_G} {ad : Nat → Nat} {cA : Nat → ClassId} {d : Nat} {o : Int32 × Hp}  : ∀ (n : Nat) {a0 : Nat} {x1 : Int32} {x2 : Int32} (k0 : kd a0 = 9) {h : Hp}, lp (F := Nat → Int32 → Int32 → Hp → Option (Int32 × Hp)) (fun _ _ _ _ => none) (f_X9_greatestRest_4) n a0 x1 x2 h = some o → J l D ad cA (fun _ => True) (rmd d) (0, 0) (mQ D ad cA (some (.int o.1)) o.2) cX9_greatestRest RX9 3 (some .int) 4 [(0, .ref (ad a0)), (1, .int x1), (2, .int x2)] [] h := by
  intro n
  induction n with
  | zero =>
    intro a0 x1 x2 k0 h hf
    have hf : (none : Option (Int32 × Hp)) = some o := hf
    cases hf
  | succ n hk4 =>
    intro a0 x1 x2 k0 h hf
    have hf : f_X9_greatestRest_4  (lp (F := Nat → Int32 → Int32 → Hp → Option (Int32 × Hp)) (fun _ _ _ _ => none) (f_X9_greatestRest_4) n) a0 x1 x2 h = some o := hf
    unfold f_X9_greatestRest_4 at hf
    refine j_iload_n (pc := 4) 2 dX9_greatestRest_4 rfl rfl ?_
    refine j_bipush (pc := 5) dX9_greatestRest_5 (v := 6) (by decide) ?_
    refine j_icmp_ge (pc := 7) (tgt := 61) dX9_greatestRest_7 (by decide) hf (fun _ hf => ?_) (fun _ hf => ?_)
    · refine j_iload_n (pc := 61) 1 dX9_greatestRest_61 rfl rfl ?_
      exact j_iret (pc := 62) dX9_greatestRest_62 rfl hf
    · refine j_aload_n (pc := 10) 0 dX9_greatestRest_10 rfl rfl ?_
      refine j_getR (pc := 11) (n := 10) dX9_greatestRest_11 fl862 k0 (by decide) rfl ?_
      refine j_iload_n (pc := 14) 2 dX9_greatestRest_14 rfl rfl ?_
      refine j_laload (pc := 15) dX9_greatestRest_15 (lk_9_16 k0) (ll_9_16 k0) hf (fun _ hf => ?_)
      refine j_ldc2_w (pc := 16) dX9_greatestRest_16 (v := -1) w_c1146 ?_
      refine j_lcmp (pc := 19) dX9_greatestRest_19  ?_
      refine j_if_eq (pc := 20) (tgt := 55) dX9_greatestRest_20 (by decide) hf (fun _ hf => ?_) (fun _ hf => ?_)
      · refine j_sub [0, 1, 2] rfl ?_
        exact t_X9_greatestRest_55 hk4 k0 hf
      · refine j_aload_n (pc := 23) 0 dX9_greatestRest_23 rfl rfl ?_
        refine j_getR (pc := 24) (n := 11) dX9_greatestRest_24 fl863 k0 (by decide) rfl ?_
        refine j_iload_n (pc := 27) 2 dX9_greatestRest_27 rfl rfl ?_
        refine j_zaload (pc := 28) dX9_greatestRest_28 (lk_9_17 k0) (ll_9_17 k0) hf (fun _ hf => ?_)
        refine j_if_ne (pc := 29) (tgt := 55) dX9_greatestRest_29 (by decide) hf (fun _ hf => ?_) (fun _ hf => ?_)
        · refine j_sub [0, 1, 2] rfl ?_
          exact t_X9_greatestRest_55 hk4 k0 hf
        · refine j_iload_n (pc := 32) 1 dX9_greatestRest_32 rfl rfl ?_
          refine j_iconst (pc := 33) dX9_greatestRest_33 (v := -1) (by decide) ?_
          refine j_icmp_eq (pc := 34) (tgt := 53) dX9_greatestRest_34 (by decide) hf (fun _ hf => ?_) (fun _ hf => ?_)
          · refine j_sub [0, 2] rfl ?_
            exact t_X9_greatestRest_53 hk4 k0 hf
          · refine j_aload_n (pc := 37) 0 dX9_greatestRest_37 rfl rfl ?_
            refine j_getR (pc := 38) (n := 10) dX9_greatestRest_38 fl862 k0 (by decide) rfl ?_
            refine j_iload_n (pc := 41) 2 dX9_greatestRest_41 rfl rfl ?_
            refine j_laload (pc := 42) dX9_greatestRest_42 (lk_9_16 k0) (ll_9_16 k0) hf (fun _ hf => ?_)
            refine j_aload_n (pc := 43) 0 dX9_greatestRest_43 rfl rfl ?_
            refine j_getR (pc := 44) (n := 10) dX9_greatestRest_44 fl862 k0 (by decide) rfl ?_
            refine j_iload_n (pc := 47) 1 dX9_greatestRest_47 rfl rfl ?_
            refine j_laload (pc := 48) dX9_greatestRest_48 (lk_9_16 k0) (ll_9_16 k0) hf (fun _ hf => ?_)
            refine j_lcmp (pc := 49) dX9_greatestRest_49  ?_
            refine j_if_le (pc := 50) (tgt := 55) dX9_greatestRest_50 (by decide) hf (fun _ hf => ?_) (fun _ hf => ?_)
            · refine j_sub [0, 1, 2] rfl ?_
              exact t_X9_greatestRest_55 hk4 k0 hf
            · refine j_sub [0, 2] rfl ?_
              exact t_X9_greatestRest_53 hk4 k0 hf
def f_X9_greatestRest (a0 : Nat) (h : Hp) : Option (Int32 × Hp) := lp (F := Nat → Int32 → Int32 → Hp → Option (Int32 × Hp)) (fun _ _ _ _ => none) (f_X9_greatestRest_4) 1000 a0 ((-1)) 0 h
set_option maxHeartbeats 4000000 in
set_option maxRecDepth 100000 in
theorem t_X9_greatestRest {l : Launch} {D : va_G} {ad : Nat → Nat} {cA : Nat → ClassId} {d : Nat} {a0 : Nat} (k0 : kd a0 = 9) {h : Hp} {o : Int32 × Hp} (hf : f_X9_greatestRest a0 h = some o) : Cr l D ad cA d yX9_greatestRest cX9_greatestRest 3 (some .int) [.ref (ad a0)] h (some (.int o.1)) o.2 := by
  unfold f_X9_greatestRest at hf
  refine Cr_of (by decide +kernel) rfl (Nat.le_of_ble_eq_true rfl) (lv0 := [(0, .ref (ad a0))]) rfl ?_
  refine j_iconst (pc := 0) dX9_greatestRest_0 (v := -1) (by decide) ?_
  refine j_istore_n (pc := 1) (lv' := [(1, .int ((-1))), (0, .ref (ad a0))]) dX9_greatestRest_1 rfl (by decide) rfl ?_
  refine j_iconst (pc := 2) dX9_greatestRest_2 (v := 0) (by decide) ?_
  refine j_istore_n (pc := 3) (lv' := [(2, .int 0), (1, .int ((-1))), (0, .ref (ad a0))]) dX9_greatestRest_3 rfl (by decide) rfl ?_
  refine j_sub [2, 1, 0] rfl ?_
  exact t_X9_greatestRest_4  1000 k0 hf
def f_X9_holdsHouse_2 (k2 : Nat → Int32 → Hp → Option (Unit × Hp)) (a0 : Nat) (x1 : Int32) (h : Hp) : Option (Unit × Hp) := if 6 ≤ x1 then (some ((), h)) else (if ix x1 6 = true then (if ix x1 6 = true then (lt (sI h (a0 + 18) (Int32.toNatClampNeg x1) (h.1 (a0 + 16) (Int32.toNatClampNeg x1))) (fun m1 => lt (x1 + 1) (fun v2 => k2 a0 v2 m1))) else none) else none)
set_option maxHeartbeats 4000000 in
set_option maxRecDepth 100000 in
theorem t_X9_holdsHouse_2 {l : Launch} {D : va_G} {ad : Nat → Nat} {cA : Nat → ClassId} {d : Nat} {o : Unit × Hp}  : ∀ (n : Nat) {a0 : Nat} {x1 : Int32} (k0 : kd a0 = 9) {h : Hp}, lp (F := Nat → Int32 → Hp → Option (Unit × Hp)) (fun _ _ _ => none) (f_X9_holdsHouse_2) n a0 x1 h = some o → J l D ad cA (fun _ => True) (rmd d) (0, 0) (mQ D ad cA (none) o.2) cX9_holdsHouse RX9 2 (none) 2 [(0, .ref (ad a0)), (1, .int x1)] [] h := by
  intro n
  induction n with
  | zero =>
    intro a0 x1 k0 h hf
    have hf : (none : Option (Unit × Hp)) = some o := hf
    cases hf
  | succ n hk2 =>
    intro a0 x1 k0 h hf
    have hf : f_X9_holdsHouse_2  (lp (F := Nat → Int32 → Hp → Option (Unit × Hp)) (fun _ _ _ => none) (f_X9_holdsHouse_2) n) a0 x1 h = some o := hf
    unfold f_X9_holdsHouse_2 at hf
    refine j_iload_n (pc := 2) 1 dX9_holdsHouse_2 rfl rfl ?_
    refine j_bipush (pc := 3) dX9_holdsHouse_3 (v := 6) (by decide) ?_
    refine j_icmp_ge (pc := 5) (tgt := 26) dX9_holdsHouse_5 (by decide) hf (fun _ hf => ?_) (fun _ hf => ?_)
    · exact j_vret (pc := 26) dX9_holdsHouse_26 rfl hf
    · refine j_aload_n (pc := 8) 0 dX9_holdsHouse_8 rfl rfl ?_
      refine j_getR (pc := 9) (n := 18) dX9_holdsHouse_9 fl872 k0 (by decide) rfl ?_
      refine j_iload_n (pc := 12) 1 dX9_holdsHouse_12 rfl rfl ?_
      refine j_aload_n (pc := 13) 0 dX9_holdsHouse_13 rfl rfl ?_
      refine j_getR (pc := 14) (n := 16) dX9_holdsHouse_14 fl868 k0 (by decide) rfl ?_
      refine j_iload_n (pc := 17) 1 dX9_holdsHouse_17 rfl rfl ?_
      refine j_iaload (pc := 18) dX9_holdsHouse_18 (lk_9_22 k0) (ll_9_22 k0) hf (fun _ hf => ?_)
      refine j_iastore (pc := 19) dX9_holdsHouse_19 (lk_9_26 k0) (ll_9_26 k0) hf (fun m1 hf => ?_)
      refine j_iinc (pc := 20) 1 (c := 1) (lv' := fun v2 => [(1, .int v2), (0, .ref (ad a0))]) dX9_holdsHouse_20 rfl (by decide) (by decide) (fun _ => rfl) hf (fun v2 hf => ?_)
      refine j_goto (pc := 23) (tgt := 2) dX9_holdsHouse_23 (by decide) ?_
      refine j_sub [1, 0] rfl ?_
      exact hk2 k0 hf
def f_X9_holdsHouse (a0 : Nat) (h : Hp) : Option (Unit × Hp) := lp (F := Nat → Int32 → Hp → Option (Unit × Hp)) (fun _ _ _ => none) (f_X9_holdsHouse_2) 1000 a0 0 h
set_option maxHeartbeats 4000000 in
set_option maxRecDepth 100000 in
theorem t_X9_holdsHouse {l : Launch} {D : va_G} {ad : Nat → Nat} {cA : Nat → ClassId} {d : Nat} {a0 : Nat} (k0 : kd a0 = 9) {h : Hp} {o : Unit × Hp} (hf : f_X9_holdsHouse a0 h = some o) : Cr l D ad cA d yX9_holdsHouse cX9_holdsHouse 2 (none) [.ref (ad a0)] h (none) o.2 := by
  unfold f_X9_holdsHouse at hf
  refine Cr_of (by decide +kernel) rfl (Nat.le_of_ble_eq_true rfl) (lv0 := [(0, .ref (ad a0))]) rfl ?_
  refine j_iconst (pc := 0) dX9_holdsHouse_0 (v := 0) (by decide) ?_
  refine j_istore_n (pc := 1) (lv' := [(1, .int 0), (0, .ref (ad a0))]) dX9_holdsHouse_1 rfl (by decide) rfl ?_
  refine j_sub [1, 0] rfl ?_
  exact t_X9_holdsHouse_2  1000 k0 hf
def f_X9_isPart_9   (h : Hp) : Option (Int32 × Hp) := if isB 1 = true then some (1, h) else none
set_option maxHeartbeats 4000000 in
set_option maxRecDepth 100000 in
theorem t_X9_isPart_9 {l : Launch} {D : va_G} {ad : Nat → Nat} {cA : Nat → ClassId} {d : Nat} {o : Int32 × Hp}    {h : Hp} (hf : f_X9_isPart_9   h = some o) : J l D ad cA (fun _ => True) (rmd d) (0, 0) (mQ D ad cA (some (.int o.1)) o.2) cX9_isPart RX9 1 (some .boolean) 9 [] [] h := by
  unfold f_X9_isPart_9 at hf
  refine j_iconst (pc := 9) dX9_isPart_9 (v := 1) (by decide) ?_
  refine j_goto (pc := 10) (tgt := 14) dX9_isPart_10 (by decide) ?_
  exact j_zret (pc := 14) dX9_isPart_14 rfl hf
def f_X9_isPart (x0 : Int32) (h : Hp) : Option (Int32 × Hp) := if x0 = 0 then (f_X9_isPart_9   h) else (if x0 = 1 then (f_X9_isPart_9   h) else (if isB 0 = true then some (0, h) else none))
set_option maxHeartbeats 4000000 in
set_option maxRecDepth 100000 in
theorem t_X9_isPart {l : Launch} {D : va_G} {ad : Nat → Nat} {cA : Nat → ClassId} {d : Nat} {x0 : Int32}  {h : Hp} {o : Int32 × Hp} (hf : f_X9_isPart x0 h = some o) : Cr l D ad cA d yX9_isPart cX9_isPart 1 (some .boolean) [.int x0] h (some (.int o.1)) o.2 := by
  unfold f_X9_isPart at hf
  refine Cr_of (by decide +kernel) rfl (Nat.le_of_ble_eq_true rfl) (lv0 := [(0, .int x0)]) rfl ?_
  refine j_iload_n (pc := 0) 0 dX9_isPart_0 rfl rfl ?_
  refine j_if_eq (pc := 1) (tgt := 9) dX9_isPart_1 (by decide) hf (fun _ hf => ?_) (fun _ hf => ?_)
  · refine j_sub [] rfl ?_
    exact t_X9_isPart_9   hf
  · refine j_iload_n (pc := 4) 0 dX9_isPart_4 rfl rfl ?_
    refine j_iconst (pc := 5) dX9_isPart_5 (v := 1) (by decide) ?_
    refine j_icmp_ne (pc := 6) (tgt := 13) dX9_isPart_6 (by decide) hf (fun _ hf => ?_) (fun _ hf => ?_)
    · refine j_iconst (pc := 13) dX9_isPart_13 (v := 0) (by decide) ?_
      exact j_zret (pc := 14) dX9_isPart_14 rfl hf
    · refine j_sub [] rfl ?_
      exact t_X9_isPart_9   hf
def f_X9_isRingParty_2 (k2 : Nat → Int32 → Int32 → Int32 → Hp → Option (Int32 × Hp)) (a0 : Nat) (x1 : Int32) (x2 : Int32) (x3 : Int32) (h : Hp) : Option (Int32 × Hp) := if x1 ≤ x3 then (if isB 0 = true then some (0, h) else none) else (if ix x3 4 = true then (if (h.1 (a0 + 25) (Int32.toNatClampNeg x3)) = x2 then (if isB 1 = true then some (1, h) else none) else (lt (x3 + 1) (fun v1 => k2 a0 x1 x2 v1 h))) else none)
set_option maxHeartbeats 4000000 in
set_option maxRecDepth 100000 in
theorem t_X9_isRingParty_2 {l : Launch} {D : va_G} {ad : Nat → Nat} {cA : Nat → ClassId} {d : Nat} {o : Int32 × Hp}  : ∀ (n : Nat) {a0 : Nat} {x1 : Int32} {x2 : Int32} {x3 : Int32} (k0 : kd a0 = 9) {h : Hp}, lp (F := Nat → Int32 → Int32 → Int32 → Hp → Option (Int32 × Hp)) (fun _ _ _ _ _ => none) (f_X9_isRingParty_2) n a0 x1 x2 x3 h = some o → J l D ad cA (fun _ => True) (rmd d) (0, 0) (mQ D ad cA (some (.int o.1)) o.2) cX9_isRingParty RX9 4 (some .boolean) 2 [(0, .ref (ad a0)), (1, .int x1), (2, .int x2), (3, .int x3)] [] h := by
  intro n
  induction n with
  | zero =>
    intro a0 x1 x2 x3 k0 h hf
    have hf : (none : Option (Int32 × Hp)) = some o := hf
    cases hf
  | succ n hk2 =>
    intro a0 x1 x2 x3 k0 h hf
    have hf : f_X9_isRingParty_2  (lp (F := Nat → Int32 → Int32 → Int32 → Hp → Option (Int32 × Hp)) (fun _ _ _ _ _ => none) (f_X9_isRingParty_2) n) a0 x1 x2 x3 h = some o := hf
    unfold f_X9_isRingParty_2 at hf
    refine j_iload_n (pc := 2) 3 dX9_isRingParty_2 rfl rfl ?_
    refine j_iload_n (pc := 3) 1 dX9_isRingParty_3 rfl rfl ?_
    refine j_icmp_ge (pc := 4) (tgt := 25) dX9_isRingParty_4 (by decide) hf (fun _ hf => ?_) (fun _ hf => ?_)
    · refine j_iconst (pc := 25) dX9_isRingParty_25 (v := 0) (by decide) ?_
      exact j_zret (pc := 26) dX9_isRingParty_26 rfl hf
    · refine j_aload_n (pc := 7) 0 dX9_isRingParty_7 rfl rfl ?_
      refine j_getR (pc := 8) (n := 25) dX9_isRingParty_8 fl883 k0 (by decide) rfl ?_
      refine j_iload_n (pc := 11) 3 dX9_isRingParty_11 rfl rfl ?_
      refine j_iaload (pc := 12) dX9_isRingParty_12 (lk_9_37 k0) (ll_9_37 k0) hf (fun _ hf => ?_)
      refine j_iload_n (pc := 13) 2 dX9_isRingParty_13 rfl rfl ?_
      refine j_icmp_ne (pc := 14) (tgt := 19) dX9_isRingParty_14 (by decide) hf (fun _ hf => ?_) (fun _ hf => ?_)
      · refine j_iinc (pc := 19) 3 (c := 1) (lv' := fun v1 => [(3, .int v1), (0, .ref (ad a0)), (1, .int x1), (2, .int x2)]) dX9_isRingParty_19 rfl (by decide) (by decide) (fun _ => rfl) hf (fun v1 hf => ?_)
        refine j_goto (pc := 22) (tgt := 2) dX9_isRingParty_22 (by decide) ?_
        refine j_sub [1, 2, 3, 0] rfl ?_
        exact hk2 k0 hf
      · refine j_iconst (pc := 17) dX9_isRingParty_17 (v := 1) (by decide) ?_
        exact j_zret (pc := 18) dX9_isRingParty_18 rfl hf
def f_X9_isRingParty (a0 : Nat) (x1 : Int32) (x2 : Int32) (h : Hp) : Option (Int32 × Hp) := lp (F := Nat → Int32 → Int32 → Int32 → Hp → Option (Int32 × Hp)) (fun _ _ _ _ _ => none) (f_X9_isRingParty_2) 1000 a0 x1 x2 0 h
set_option maxHeartbeats 4000000 in
set_option maxRecDepth 100000 in
theorem t_X9_isRingParty {l : Launch} {D : va_G} {ad : Nat → Nat} {cA : Nat → ClassId} {d : Nat} {a0 : Nat} {x1 : Int32} {x2 : Int32} (k0 : kd a0 = 9) {h : Hp} {o : Int32 × Hp} (hf : f_X9_isRingParty a0 x1 x2 h = some o) : Cr l D ad cA d yX9_isRingParty cX9_isRingParty 4 (some .boolean) [.ref (ad a0), .int x1, .int x2] h (some (.int o.1)) o.2 := by
  unfold f_X9_isRingParty at hf
  refine Cr_of (by decide +kernel) rfl (Nat.le_of_ble_eq_true rfl) (lv0 := [(0, .ref (ad a0)), (1, .int x1), (2, .int x2)]) rfl ?_
  refine j_iconst (pc := 0) dX9_isRingParty_0 (v := 0) (by decide) ?_
  refine j_istore_n (pc := 1) (lv' := [(3, .int 0), (0, .ref (ad a0)), (1, .int x1), (2, .int x2)]) dX9_isRingParty_1 rfl (by decide) rfl ?_
  refine j_sub [1, 2, 3, 0] rfl ?_
  exact t_X9_isRingParty_2  1000 k0 hf
def f_X9_isRingWard_2 (k2 : Nat → Int32 → Int32 → Int32 → Hp → Option (Int32 × Hp)) (a0 : Nat) (x1 : Int32) (x2 : Int32) (x3 : Int32) (h : Hp) : Option (Int32 × Hp) := if x1 ≤ x3 then (if isB 0 = true then some (0, h) else none) else (if ix x3 4 = true then (if (h.1 (a0 + 24) (Int32.toNatClampNeg x3)) = x2 then (if isB 1 = true then some (1, h) else none) else (lt (x3 + 1) (fun v1 => k2 a0 x1 x2 v1 h))) else none)
set_option maxHeartbeats 4000000 in
set_option maxRecDepth 100000 in
theorem t_X9_isRingWard_2 {l : Launch} {D : va_G} {ad : Nat → Nat} {cA : Nat → ClassId} {d : Nat} {o : Int32 × Hp}  : ∀ (n : Nat) {a0 : Nat} {x1 : Int32} {x2 : Int32} {x3 : Int32} (k0 : kd a0 = 9) {h : Hp}, lp (F := Nat → Int32 → Int32 → Int32 → Hp → Option (Int32 × Hp)) (fun _ _ _ _ _ => none) (f_X9_isRingWard_2) n a0 x1 x2 x3 h = some o → J l D ad cA (fun _ => True) (rmd d) (0, 0) (mQ D ad cA (some (.int o.1)) o.2) cX9_isRingWard RX9 4 (some .boolean) 2 [(0, .ref (ad a0)), (1, .int x1), (2, .int x2), (3, .int x3)] [] h := by
  intro n
  induction n with
  | zero =>
    intro a0 x1 x2 x3 k0 h hf
    have hf : (none : Option (Int32 × Hp)) = some o := hf
    cases hf
  | succ n hk2 =>
    intro a0 x1 x2 x3 k0 h hf
    have hf : f_X9_isRingWard_2  (lp (F := Nat → Int32 → Int32 → Int32 → Hp → Option (Int32 × Hp)) (fun _ _ _ _ _ => none) (f_X9_isRingWard_2) n) a0 x1 x2 x3 h = some o := hf
    unfold f_X9_isRingWard_2 at hf
    refine j_iload_n (pc := 2) 3 dX9_isRingWard_2 rfl rfl ?_
    refine j_iload_n (pc := 3) 1 dX9_isRingWard_3 rfl rfl ?_
    refine j_icmp_ge (pc := 4) (tgt := 25) dX9_isRingWard_4 (by decide) hf (fun _ hf => ?_) (fun _ hf => ?_)
    · refine j_iconst (pc := 25) dX9_isRingWard_25 (v := 0) (by decide) ?_
      exact j_zret (pc := 26) dX9_isRingWard_26 rfl hf
    · refine j_aload_n (pc := 7) 0 dX9_isRingWard_7 rfl rfl ?_
      refine j_getR (pc := 8) (n := 24) dX9_isRingWard_8 fl882 k0 (by decide) rfl ?_
      refine j_iload_n (pc := 11) 3 dX9_isRingWard_11 rfl rfl ?_
      refine j_iaload (pc := 12) dX9_isRingWard_12 (lk_9_36 k0) (ll_9_36 k0) hf (fun _ hf => ?_)
      refine j_iload_n (pc := 13) 2 dX9_isRingWard_13 rfl rfl ?_
      refine j_icmp_ne (pc := 14) (tgt := 19) dX9_isRingWard_14 (by decide) hf (fun _ hf => ?_) (fun _ hf => ?_)
      · refine j_iinc (pc := 19) 3 (c := 1) (lv' := fun v1 => [(3, .int v1), (0, .ref (ad a0)), (1, .int x1), (2, .int x2)]) dX9_isRingWard_19 rfl (by decide) (by decide) (fun _ => rfl) hf (fun v1 hf => ?_)
        refine j_goto (pc := 22) (tgt := 2) dX9_isRingWard_22 (by decide) ?_
        refine j_sub [1, 2, 3, 0] rfl ?_
        exact hk2 k0 hf
      · refine j_iconst (pc := 17) dX9_isRingWard_17 (v := 1) (by decide) ?_
        exact j_zret (pc := 18) dX9_isRingWard_18 rfl hf
def f_X9_isRingWard (a0 : Nat) (x1 : Int32) (x2 : Int32) (h : Hp) : Option (Int32 × Hp) := lp (F := Nat → Int32 → Int32 → Int32 → Hp → Option (Int32 × Hp)) (fun _ _ _ _ _ => none) (f_X9_isRingWard_2) 1000 a0 x1 x2 0 h
set_option maxHeartbeats 4000000 in
set_option maxRecDepth 100000 in
theorem t_X9_isRingWard {l : Launch} {D : va_G} {ad : Nat → Nat} {cA : Nat → ClassId} {d : Nat} {a0 : Nat} {x1 : Int32} {x2 : Int32} (k0 : kd a0 = 9) {h : Hp} {o : Int32 × Hp} (hf : f_X9_isRingWard a0 x1 x2 h = some o) : Cr l D ad cA d yX9_isRingWard cX9_isRingWard 4 (some .boolean) [.ref (ad a0), .int x1, .int x2] h (some (.int o.1)) o.2 := by
  unfold f_X9_isRingWard at hf
  refine Cr_of (by decide +kernel) rfl (Nat.le_of_ble_eq_true rfl) (lv0 := [(0, .ref (ad a0)), (1, .int x1), (2, .int x2)]) rfl ?_
  refine j_iconst (pc := 0) dX9_isRingWard_0 (v := 0) (by decide) ?_
  refine j_istore_n (pc := 1) (lv' := [(3, .int 0), (0, .ref (ad a0)), (1, .int x1), (2, .int x2)]) dX9_isRingWard_1 rfl (by decide) rfl ?_
  refine j_sub [1, 2, 3, 0] rfl ?_
  exact t_X9_isRingWard_2  1000 k0 hf
def f_X9_leastOf (a0 : Nat) (x1 : Int32) (h : Hp) : Option (Int32 × Hp) := if ix (28 + x1) 44 = true then (some (h.1 (a0 + 1) (Int32.toNatClampNeg (28 + x1)), h)) else none
set_option maxHeartbeats 4000000 in
set_option maxRecDepth 100000 in
theorem t_X9_leastOf {l : Launch} {D : va_G} {ad : Nat → Nat} {cA : Nat → ClassId} {d : Nat} {a0 : Nat} {x1 : Int32} (k0 : kd a0 = 9) {h : Hp} {o : Int32 × Hp} (hf : f_X9_leastOf a0 x1 h = some o) : Cr l D ad cA d yX9_leastOf cX9_leastOf 2 (some .int) [.ref (ad a0), .int x1] h (some (.int o.1)) o.2 := by
  unfold f_X9_leastOf at hf
  refine Cr_of (by decide +kernel) rfl (Nat.le_of_ble_eq_true rfl) (lv0 := [(0, .ref (ad a0)), (1, .int x1)]) rfl ?_
  refine j_aload_n (pc := 0) 0 dX9_leastOf_0 rfl rfl ?_
  refine j_getR (pc := 1) (n := 1) dX9_leastOf_1 fl846 k0 (by decide) rfl ?_
  refine j_bipush (pc := 4) dX9_leastOf_4 (v := 28) (by decide) ?_
  refine j_iload_n (pc := 6) 1 dX9_leastOf_6 rfl rfl ?_
  refine j_iadd (pc := 7) dX9_leastOf_7  ?_
  refine j_iaload (pc := 8) dX9_leastOf_8 (lk_9_0 k0) (ll_9_0 k0) hf (fun _ hf => ?_)
  exact j_iret (pc := 9) dX9_leastOf_9 rfl hf
def f_X9_listOf (a0 : Nat) (x1 : Int32) (h : Hp) : Option (Int32 × Hp) := if ix (34 + x1) 44 = true then (some (h.1 (a0 + 1) (Int32.toNatClampNeg (34 + x1)), h)) else none
set_option maxHeartbeats 4000000 in
set_option maxRecDepth 100000 in
theorem t_X9_listOf {l : Launch} {D : va_G} {ad : Nat → Nat} {cA : Nat → ClassId} {d : Nat} {a0 : Nat} {x1 : Int32} (k0 : kd a0 = 9) {h : Hp} {o : Int32 × Hp} (hf : f_X9_listOf a0 x1 h = some o) : Cr l D ad cA d yX9_listOf cX9_listOf 2 (some .int) [.ref (ad a0), .int x1] h (some (.int o.1)) o.2 := by
  unfold f_X9_listOf at hf
  refine Cr_of (by decide +kernel) rfl (Nat.le_of_ble_eq_true rfl) (lv0 := [(0, .ref (ad a0)), (1, .int x1)]) rfl ?_
  refine j_aload_n (pc := 0) 0 dX9_listOf_0 rfl rfl ?_
  refine j_getR (pc := 1) (n := 1) dX9_listOf_1 fl846 k0 (by decide) rfl ?_
  refine j_bipush (pc := 4) dX9_listOf_4 (v := 34) (by decide) ?_
  refine j_iload_n (pc := 6) 1 dX9_listOf_6 rfl rfl ?_
  refine j_iadd (pc := 7) dX9_listOf_7  ?_
  refine j_iaload (pc := 8) dX9_listOf_8 (lk_9_0 k0) (ll_9_0 k0) hf (fun _ hf => ?_)
  exact j_iret (pc := 9) dX9_listOf_9 rfl hf
def f_X9_nobodyClaims_2 (k2 : Nat → Int32 → Hp → Option (Unit × Hp)) (a0 : Nat) (x1 : Int32) (h : Hp) : Option (Unit × Hp) := if 6 ≤ x1 then (some ((), h)) else (if ix x1 6 = true then (lt (sI h (a0 + 5) (Int32.toNatClampNeg x1) (vp_nar .boolean 0)) (fun m1 => if ix x1 6 = true then (lt (sI m1 (a0 + 6) (Int32.toNatClampNeg x1) 0) (fun m2 => if ix x1 6 = true then (lt (sI m2 (a0 + 7) (Int32.toNatClampNeg x1) 0) (fun m3 => lt (x1 + 1) (fun v4 => k2 a0 v4 m3))) else none)) else none)) else none)
set_option maxHeartbeats 4000000 in
set_option maxRecDepth 100000 in
theorem t_X9_nobodyClaims_2 {l : Launch} {D : va_G} {ad : Nat → Nat} {cA : Nat → ClassId} {d : Nat} {o : Unit × Hp}  : ∀ (n : Nat) {a0 : Nat} {x1 : Int32} (k0 : kd a0 = 9) {h : Hp}, lp (F := Nat → Int32 → Hp → Option (Unit × Hp)) (fun _ _ _ => none) (f_X9_nobodyClaims_2) n a0 x1 h = some o → J l D ad cA (fun _ => True) (rmd d) (0, 0) (mQ D ad cA (none) o.2) cX9_nobodyClaims RX9 2 (none) 2 [(0, .ref (ad a0)), (1, .int x1)] [] h := by
  intro n
  induction n with
  | zero =>
    intro a0 x1 k0 h hf
    have hf : (none : Option (Unit × Hp)) = some o := hf
    cases hf
  | succ n hk2 =>
    intro a0 x1 k0 h hf
    have hf : f_X9_nobodyClaims_2  (lp (F := Nat → Int32 → Hp → Option (Unit × Hp)) (fun _ _ _ => none) (f_X9_nobodyClaims_2) n) a0 x1 h = some o := hf
    unfold f_X9_nobodyClaims_2 at hf
    refine j_iload_n (pc := 2) 1 dX9_nobodyClaims_2 rfl rfl ?_
    refine j_bipush (pc := 3) dX9_nobodyClaims_3 (v := 6) (by decide) ?_
    refine j_icmp_ge (pc := 5) (tgt := 35) dX9_nobodyClaims_5 (by decide) hf (fun _ hf => ?_) (fun _ hf => ?_)
    · exact j_vret (pc := 35) dX9_nobodyClaims_35 rfl hf
    · refine j_aload_n (pc := 8) 0 dX9_nobodyClaims_8 rfl rfl ?_
      refine j_getR (pc := 9) (n := 5) dX9_nobodyClaims_9 fl855 k0 (by decide) rfl ?_
      refine j_iload_n (pc := 12) 1 dX9_nobodyClaims_12 rfl rfl ?_
      refine j_iconst (pc := 13) dX9_nobodyClaims_13 (v := 0) (by decide) ?_
      refine j_zastore (pc := 14) dX9_nobodyClaims_14 (lk_9_9 k0) (ll_9_9 k0) hf (fun m1 hf => ?_)
      refine j_aload_n (pc := 15) 0 dX9_nobodyClaims_15 rfl rfl ?_
      refine j_getR (pc := 16) (n := 6) dX9_nobodyClaims_16 fl856 k0 (by decide) rfl ?_
      refine j_iload_n (pc := 19) 1 dX9_nobodyClaims_19 rfl rfl ?_
      refine j_iconst (pc := 20) dX9_nobodyClaims_20 (v := 0) (by decide) ?_
      refine j_iastore (pc := 21) dX9_nobodyClaims_21 (lk_9_10 k0) (ll_9_10 k0) hf (fun m2 hf => ?_)
      refine j_aload_n (pc := 22) 0 dX9_nobodyClaims_22 rfl rfl ?_
      refine j_getR (pc := 23) (n := 7) dX9_nobodyClaims_23 fl857 k0 (by decide) rfl ?_
      refine j_iload_n (pc := 26) 1 dX9_nobodyClaims_26 rfl rfl ?_
      refine j_iconst (pc := 27) dX9_nobodyClaims_27 (v := 0) (by decide) ?_
      refine j_iastore (pc := 28) dX9_nobodyClaims_28 (lk_9_11 k0) (ll_9_11 k0) hf (fun m3 hf => ?_)
      refine j_iinc (pc := 29) 1 (c := 1) (lv' := fun v4 => [(1, .int v4), (0, .ref (ad a0))]) dX9_nobodyClaims_29 rfl (by decide) (by decide) (fun _ => rfl) hf (fun v4 hf => ?_)
      refine j_goto (pc := 32) (tgt := 2) dX9_nobodyClaims_32 (by decide) ?_
      refine j_sub [1, 0] rfl ?_
      exact hk2 k0 hf
def f_X9_nobodyClaims (a0 : Nat) (h : Hp) : Option (Unit × Hp) := lp (F := Nat → Int32 → Hp → Option (Unit × Hp)) (fun _ _ _ => none) (f_X9_nobodyClaims_2) 1000 a0 0 h
set_option maxHeartbeats 4000000 in
set_option maxRecDepth 100000 in
theorem t_X9_nobodyClaims {l : Launch} {D : va_G} {ad : Nat → Nat} {cA : Nat → ClassId} {d : Nat} {a0 : Nat} (k0 : kd a0 = 9) {h : Hp} {o : Unit × Hp} (hf : f_X9_nobodyClaims a0 h = some o) : Cr l D ad cA d yX9_nobodyClaims cX9_nobodyClaims 2 (none) [.ref (ad a0)] h (none) o.2 := by
  unfold f_X9_nobodyClaims at hf
  refine Cr_of (by decide +kernel) rfl (Nat.le_of_ble_eq_true rfl) (lv0 := [(0, .ref (ad a0))]) rfl ?_
  refine j_iconst (pc := 0) dX9_nobodyClaims_0 (v := 0) (by decide) ?_
  refine j_istore_n (pc := 1) (lv' := [(1, .int 0), (0, .ref (ad a0))]) dX9_nobodyClaims_1 rfl (by decide) rfl ?_
  refine j_sub [1, 0] rfl ?_
  exact t_X9_nobodyClaims_2  1000 k0 hf
