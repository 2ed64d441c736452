def f_X9_vote (a0 : Nat) (x1 : Int32) (x2 : Int32) (x3 : Int32) (h : Hp) : Option (Int32 × Hp) := (f_X9_isWard x1 h).bind (fun q1 => if q1.1 = 0 then (some ((-1), q1.2)) else ((f_X9_isParty x2 q1.2).bind (fun q2 => if q2.1 = 0 then (some ((-1), q2.2)) else ((f_X9_within (Int32.toInt64 x3) 0 100000 q2.2).bind (fun q3 => if q3.1 = 0 then (some ((-2), q3.2)) else ((f_X9_tells a0 ((6 * x1) + x2) x3 q3.2).bind (fun q4 => some (q4.1, q4.2))))))))
set_option maxHeartbeats 4000000 in
set_option maxRecDepth 100000 in
theorem t_X9_vote {l : Launch} {D : va_G} {ad : Nat → Nat} {cA : Nat → ClassId} {d : Nat} (hdp : 2 ≤ d) {a0 : Nat} {x1 : Int32} {x2 : Int32} {x3 : Int32} (k0 : kd a0 = 9) {h : Hp} {o : Int32 × Hp} (hf : f_X9_vote a0 x1 x2 x3 h = some o) : Cr l D ad cA d yX9_vote cX9_vote 4 (some .int) [.ref (ad a0), .int x1, .int x2, .int x3] h (some (.int o.1)) o.2 := by
  obtain ⟨d, rfl⟩ : ∃ e, d = e + 1 := ⟨d - 1, by omega⟩
  have hdp : 1 ≤ d := by omega
  unfold f_X9_vote at hf
  refine Cr_of (by decide +kernel) rfl (Nat.le_of_ble_eq_true rfl) (lv0 := [(0, .ref (ad a0)), (1, .int x1), (2, .int x2), (3, .int x3)]) rfl ?_
  refine j_iload_n (pc := 0) 1 dX9_vote_0 rfl rfl ?_
  refine j_callSi (pc := 1) (d := d) (As := [.int x1]) (st := []) dX9_vote_1 s978 rfl rfl (by decide) (Nat.le_of_ble_eq_true rfl) (fun q hq => t_X9_isWard (by omega)  hq) hf (fun q1 hf => ?_)
  refine j_if_eq (pc := 4) (tgt := 14) dX9_vote_4 (by decide) hf (fun _ hf => ?_) (fun _ hf => ?_)
  · refine j_iconst (pc := 14) dX9_vote_14 (v := -1) (by decide) ?_
    exact j_iret (pc := 15) dX9_vote_15 rfl hf
  · refine j_iload_n (pc := 7) 2 dX9_vote_7 rfl rfl ?_
    refine j_callSi (pc := 8) (d := d) (As := [.int x2]) (st := []) dX9_vote_8 s985 rfl rfl (by decide) (Nat.le_of_ble_eq_true rfl) (fun q hq => t_X9_isParty (by omega)  hq) hf (fun q2 hf => ?_)
    refine j_if_ne (pc := 11) (tgt := 16) dX9_vote_11 (by decide) hf (fun _ hf => ?_) (fun _ hf => ?_)
    · refine j_iload_n (pc := 16) 3 dX9_vote_16 rfl rfl ?_
      refine j_i2l (pc := 17) dX9_vote_17  ?_
      refine j_lconst (pc := 18) dX9_vote_18 (v := 0) rfl ?_
      refine j_ldc2_w (pc := 19) dX9_vote_19 (v := 100000) w_c989 ?_
      refine j_callSi (pc := 22) (d := d) (As := [.long (Int32.toInt64 x3), .long 0, .long 100000]) (st := []) dX9_vote_22 s982 rfl rfl (by decide) (Nat.le_of_ble_eq_true rfl) (fun q hq => t_X9_within  hq) hf (fun q3 hf => ?_)
      refine j_if_eq (pc := 25) (tgt := 42) dX9_vote_25 (by decide) hf (fun _ hf => ?_) (fun _ hf => ?_)
      · refine j_bipush (pc := 42) dX9_vote_42 (v := -2) (by decide) ?_
        exact j_iret (pc := 44) dX9_vote_44 rfl hf
      · refine j_aload_n (pc := 28) 0 dX9_vote_28 rfl rfl ?_
        refine j_bipush (pc := 29) dX9_vote_29 (v := 6) (by decide) ?_
        refine j_iload_n (pc := 31) 1 dX9_vote_31 rfl rfl ?_
        refine j_imul (pc := 32) dX9_vote_32  ?_
        refine j_iload_n (pc := 33) 2 dX9_vote_33 rfl rfl ?_
        refine j_iadd (pc := 34) dX9_vote_34  ?_
        refine j_iload_n (pc := 35) 3 dX9_vote_35 rfl rfl ?_
        refine j_callVi (pc := 36) (d := d) (As := [.int ((6 * x1) + x2), .int x3]) (st := []) dX9_vote_36 s990 k0 (by decide) rfl rfl (by decide) (Nat.le_of_ble_eq_true rfl) (fun q hq => t_X9_tells k0 hq) hf (fun q4 hf => ?_)
        refine j_goto (pc := 39) (tgt := 44) dX9_vote_39 (by decide) ?_
        exact j_iret (pc := 44) dX9_vote_44 rfl hf
    · refine j_iconst (pc := 14) dX9_vote_14 (v := -1) (by decide) ?_
      exact j_iret (pc := 15) dX9_vote_15 rfl hf
def f_X0_giveByPrices_65 (k65 : Nat → Nat → Int32 → Int32 → Int32 → Hp → Option (Int32 × Hp)) (a0 : Nat) (a1 : Nat) (x2 : Int32) (x3 : Int32) (x5 : Int32) (h : Hp) : Option (Int32 × Hp) := if x3 ≤ x5 then (if isB 1 = true then some (1, h) else none) else (if 60 ≤ (h.1 a0 2) then (if isB 1 = true then some (1, h) else none) else ((f_X0_dearest a0 h).bind (fun q5 => if ix q5.1 6 = true then (if ix q5.1 6 = true then (lt (sI q5.2 (a0 + 1) (Int32.toNatClampNeg q5.1) ((q5.2.1 (a0 + 1) (Int32.toNatClampNeg q5.1)) + 1)) (fun m6 => (f_X0_priceNext a0 a1 x2 q5.1 m6).bind (fun q7 => lt (sI q7.2 a0 2 ((q7.2.1 a0 2) + 1)) (fun m8 => if ix (q7.2.1 a0 2) 60 = true then (lt (sI m8 (a0 + 2) (Int32.toNatClampNeg (q7.2.1 a0 2)) q5.1) (fun m9 => lt (x5 + 1) (fun v10 => k65 a0 a1 x2 x3 v10 m9))) else none)))) else none) else none)))
set_option maxHeartbeats 4000000 in
set_option maxRecDepth 100000 in
theorem t_X0_giveByPrices_65 {l : Launch} {D : va_G} {ad : Nat → Nat} {cA : Nat → ClassId} {d : Nat} (hdp : 2 ≤ d) {o : Int32 × Hp}  : ∀ (n : Nat) {a0 : Nat} {a1 : Nat} {x2 : Int32} {x3 : Int32} {x5 : Int32} (k0 : kd a0 = 0) (k1 : kd a1 = 3) {h : Hp}, lp (F := Nat → Nat → Int32 → Int32 → Int32 → Hp → Option (Int32 × Hp)) (fun _ _ _ _ _ _ => none) (f_X0_giveByPrices_65) n a0 a1 x2 x3 x5 h = some o → J l D ad cA (fun _ => True) (rmd (d + 1)) (0, 0) (mQ D ad cA (some (.int o.1)) o.2) cX0_giveByPrices RX0 7 (some .boolean) 65 [(0, .ref (ad a0)), (1, .ref (ad a1)), (2, .int x2), (3, .int x3), (5, .int x5)] [] h := by
  intro n
  induction n with
  | zero =>
    intro a0 a1 x2 x3 x5 k0 k1 h hf
    have hf : (none : Option (Int32 × Hp)) = some o := hf
    cases hf
  | succ n hk65 =>
    intro a0 a1 x2 x3 x5 k0 k1 h hf
    have hf : f_X0_giveByPrices_65  (lp (F := Nat → Nat → Int32 → Int32 → Int32 → Hp → Option (Int32 × Hp)) (fun _ _ _ _ _ _ => none) (f_X0_giveByPrices_65) n) a0 a1 x2 x3 x5 h = some o := hf
    unfold f_X0_giveByPrices_65 at hf
    refine j_iload (pc := 65) 4 dX0_giveByPrices_65 rfl ?_
    refine j_iload_n (pc := 67) 3 dX0_giveByPrices_67 rfl rfl ?_
    refine j_icmp_ge (pc := 68) (tgt := 129) dX0_giveByPrices_68 (by decide) hf (fun _ hf => ?_) (fun _ hf => ?_)
    · refine j_iconst (pc := 129) dX0_giveByPrices_129 (v := 1) (by decide) ?_
      exact j_zret (pc := 130) dX0_giveByPrices_130 rfl hf
    · refine j_aload_n (pc := 71) 0 dX0_giveByPrices_71 rfl rfl ?_
      refine j_getI (pc := 72) dX0_giveByPrices_72 fl158 k0 (by decide) rfl ?_
      refine j_bipush (pc := 75) dX0_giveByPrices_75 (v := 60) (by decide) ?_
      refine j_icmp_ge (pc := 77) (tgt := 129) dX0_giveByPrices_77 (by decide) hf (fun _ hf => ?_) (fun _ hf => ?_)
      · refine j_iconst (pc := 129) dX0_giveByPrices_129 (v := 1) (by decide) ?_
        exact j_zret (pc := 130) dX0_giveByPrices_130 rfl hf
      · refine j_aload_n (pc := 80) 0 dX0_giveByPrices_80 rfl rfl ?_
        refine j_callVi (pc := 81) (d := d) (As := []) (st := []) dX0_giveByPrices_81 s541 k0 (by decide) rfl rfl (by decide) (Nat.le_of_ble_eq_true rfl) (fun q hq => t_X0_dearest (by omega) k0 hq) hf (fun q5 hf => ?_)
        refine j_istore (pc := 84) (lv' := [(6, .int q5.1), (0, .ref (ad a0)), (1, .ref (ad a1)), (2, .int x2), (3, .int x3), (5, .int x5)]) dX0_giveByPrices_84 (by decide) rfl ?_
        refine j_aload_n (pc := 86) 1 dX0_giveByPrices_86 rfl rfl ?_
        refine j_getR (pc := 87) (n := 1) dX0_giveByPrices_87 fl152 k0 (by decide) rfl ?_
        refine j_iload (pc := 90) 0 dX0_giveByPrices_90 rfl ?_
        refine j_dup2 (pc := 92) dX0_giveByPrices_92 rfl rfl ?_
        refine j_iaload (pc := 93) dX0_giveByPrices_93 (lk_0_0 k0) (ll_0_0 k0) hf (fun _ hf => ?_)
        refine j_iconst (pc := 94) dX0_giveByPrices_94 (v := 1) (by decide) ?_
        refine j_iadd (pc := 95) dX0_giveByPrices_95  ?_
        refine j_iastore (pc := 96) dX0_giveByPrices_96 (lk_0_0 k0) (ll_0_0 k0) hf (fun m6 hf => ?_)
        refine j_aload_n (pc := 97) 1 dX0_giveByPrices_97 rfl rfl ?_
        refine j_aload_n (pc := 98) 2 dX0_giveByPrices_98 rfl rfl ?_
        refine j_iload_n (pc := 99) 3 dX0_giveByPrices_99 rfl rfl ?_
        refine j_iload (pc := 100) 0 dX0_giveByPrices_100 rfl ?_
        refine j_callVv (pc := 102) (d := d) (As := [.ref (ad a1), .int x2, .int q5.1]) (st := []) dX0_giveByPrices_102 s528 k0 (by decide) rfl rfl (by decide) (Nat.le_of_ble_eq_true rfl) (fun q hq => t_X0_priceNext (by omega) k0 k1 hq) hf (fun q7 hf => ?_)
        refine j_aload_n (pc := 105) 1 dX0_giveByPrices_105 rfl rfl ?_
        refine j_getR (pc := 106) (n := 2) dX0_giveByPrices_106 fl156 k0 (by decide) rfl ?_
        refine j_aload_n (pc := 109) 1 dX0_giveByPrices_109 rfl rfl ?_
        refine j_dup (pc := 110) dX0_giveByPrices_110 rfl ?_
        refine j_getI (pc := 111) dX0_giveByPrices_111 fl158 k0 (by decide) rfl ?_
        refine j_dup_x1 (pc := 114) dX0_giveByPrices_114 rfl rfl ?_
        refine j_iconst (pc := 115) dX0_giveByPrices_115 (v := 1) (by decide) ?_
        refine j_iadd (pc := 116) dX0_giveByPrices_116  ?_
        refine j_putI (pc := 117) dX0_giveByPrices_117 fl158 fp0_2 k0 (by decide) rfl hf (fun m8 hf => ?_)
        refine j_iload (pc := 120) 0 dX0_giveByPrices_120 rfl ?_
        refine j_iastore (pc := 122) dX0_giveByPrices_122 (lk_0_1 k0) (ll_0_1 k0) hf (fun m9 hf => ?_)
        refine j_iinc (pc := 123) 5 (c := 1) (lv' := fun v10 => [(5, .int v10), (6, .int q5.1), (0, .ref (ad a0)), (1, .ref (ad a1)), (2, .int x2), (3, .int x3)]) dX0_giveByPrices_123 rfl (by decide) (by decide) (fun _ => rfl) hf (fun v10 hf => ?_)
        refine j_goto (pc := 126) (tgt := 65) dX0_giveByPrices_126 (by decide) ?_
        refine j_sub [2, 3, 4, 5, 0] rfl ?_
        exact hk65 k0 k1 hf
def f_X0_giveByPrices_6 (k6 : Nat → Nat → Int32 → Int32 → Int32 → Int32 → Hp → Option (Int32 × Hp)) (a0 : Nat) (a1 : Nat) (x2 : Int32) (x3 : Int32) (x4 : Int32) (x5 : Int32) (h : Hp) : Option (Int32 × Hp) := if 6 ≤ x5 then (if x4 ≤ x3 then (lp (F := Nat → Nat → Int32 → Int32 → Int32 → Hp → Option (Int32 × Hp)) (fun _ _ _ _ _ _ => none) (f_X0_giveByPrices_65) 1000 a0 a1 x2 x3 x4 h) else (if isB 0 = true then some (0, h) else none)) else (if ix x5 6 = true then (if ix x5 6 = true then (lt (sI h (a0 + 1) (Int32.toNatClampNeg x5) (h.1 (a0 + 4) (Int32.toNatClampNeg x5))) (fun m1 => if ix x5 6 = true then (lt (x4 + (m1.1 (a0 + 4) (Int32.toNatClampNeg x5))) (fun v2 => (f_X0_priceNext a0 a1 x2 x5 m1).bind (fun q3 => lt (x5 + 1) (fun v4 => k6 a0 a1 x2 x3 v2 v4 q3.2)))) else none)) else none) else none)
set_option maxHeartbeats 4000000 in
set_option maxRecDepth 100000 in
theorem t_X0_giveByPrices_6 {l : Launch} {D : va_G} {ad : Nat → Nat} {cA : Nat → ClassId} {d : Nat} (hdp : 2 ≤ d) {o : Int32 × Hp}  : ∀ (n : Nat) {a0 : Nat} {a1 : Nat} {x2 : Int32} {x3 : Int32} {x4 : Int32} {x5 : Int32} (k0 : kd a0 = 0) (k1 : kd a1 = 3) {h : Hp}, lp (F := Nat → Nat → Int32 → Int32 → Int32 → Int32 → Hp → Option (Int32 × Hp)) (fun _ _ _ _ _ _ _ => none) (f_X0_giveByPrices_6) n a0 a1 x2 x3 x4 x5 h = some o → J l D ad cA (fun _ => True) (rmd (d + 1)) (0, 0) (mQ D ad cA (some (.int o.1)) o.2) cX0_giveByPrices RX0 7 (some .boolean) 6 [(0, .ref (ad a0)), (1, .ref (ad a1)), (2, .int x2), (3, .int x3), (4, .int x4), (5, .int x5)] [] h := by
  intro n
  induction n with
  | zero =>
    intro a0 a1 x2 x3 x4 x5 k0 k1 h hf
    have hf : (none : Option (Int32 × Hp)) = some o := hf
    cases hf
  | succ n hk6 =>
    intro a0 a1 x2 x3 x4 x5 k0 k1 h hf
    have hf : f_X0_giveByPrices_6  (lp (F := Nat → Nat → Int32 → Int32 → Int32 → Int32 → Hp → Option (Int32 × Hp)) (fun _ _ _ _ _ _ _ => none) (f_X0_giveByPrices_6) n) a0 a1 x2 x3 x4 x5 h = some o := hf
    unfold f_X0_giveByPrices_6 at hf
    refine j_iload (pc := 6) 5 dX0_giveByPrices_6 rfl ?_
    refine j_bipush (pc := 8) dX0_giveByPrices_8 (v := 6) (by decide) ?_
    refine j_icmp_ge (pc := 10) (tgt := 53) dX0_giveByPrices_10 (by decide) hf (fun _ hf => ?_) (fun _ hf => ?_)
    · refine j_iload (pc := 53) 4 dX0_giveByPrices_53 rfl ?_
      refine j_iload_n (pc := 55) 3 dX0_giveByPrices_55 rfl rfl ?_
      refine j_icmp_le (pc := 56) (tgt := 61) dX0_giveByPrices_56 (by decide) hf (fun _ hf => ?_) (fun _ hf => ?_)
      · refine j_iload (pc := 61) 4 dX0_giveByPrices_61 rfl ?_
        refine j_istore (pc := 63) (lv' := [(5, .int x4), (0, .ref (ad a0)), (1, .ref (ad a1)), (2, .int x2), (3, .int x3), (4, .int x4)]) dX0_giveByPrices_63 (by decide) rfl ?_
        refine j_sub [1, 2, 3, 4, 0] rfl ?_
        exact t_X0_giveByPrices_65 hdp  1000 k0 k1 hf
      · refine j_iconst (pc := 59) dX0_giveByPrices_59 (v := 0) (by decide) ?_
        exact j_zret (pc := 60) dX0_giveByPrices_60 rfl hf
    · refine j_aload_n (pc := 13) 0 dX0_giveByPrices_13 rfl rfl ?_
      refine j_getR (pc := 14) (n := 1) dX0_giveByPrices_14 fl152 k0 (by decide) rfl ?_
      refine j_iload (pc := 17) 5 dX0_giveByPrices_17 rfl ?_
      refine j_aload_n (pc := 19) 0 dX0_giveByPrices_19 rfl rfl ?_
      refine j_getR (pc := 20) (n := 4) dX0_giveByPrices_20 fl164 k0 (by decide) rfl ?_
      refine j_iload (pc := 23) 5 dX0_giveByPrices_23 rfl ?_
      refine j_iaload (pc := 25) dX0_giveByPrices_25 (lk_0_6 k0) (ll_0_6 k0) hf (fun _ hf => ?_)
      refine j_iastore (pc := 26) dX0_giveByPrices_26 (lk_0_0 k0) (ll_0_0 k0) hf (fun m1 hf => ?_)
      refine j_iload (pc := 27) 4 dX0_giveByPrices_27 rfl ?_
      refine j_aload_n (pc := 29) 0 dX0_giveByPrices_29 rfl rfl ?_
      refine j_getR (pc := 30) (n := 4) dX0_giveByPrices_30 fl164 k0 (by decide) rfl ?_
      refine j_iload (pc := 33) 5 dX0_giveByPrices_33 rfl ?_
      refine j_iaload (pc := 35) dX0_giveByPrices_35 (lk_0_6 k0) (ll_0_6 k0) hf (fun _ hf => ?_)
      refine j_iadd (pc := 36) dX0_giveByPrices_36  ?_
      refine j_istoreN (pc := 37) (lv' := fun v2 => [(4, .int v2), (0, .ref (ad a0)), (1, .ref (ad a1)), (2, .int x2), (3, .int x3), (5, .int x5)]) dX0_giveByPrices_37 (by decide) (fun _ => rfl) hf (fun v2 hf => ?_)
      refine j_aload_n (pc := 39) 1 dX0_giveByPrices_39 rfl rfl ?_
      refine j_aload_n (pc := 40) 2 dX0_giveByPrices_40 rfl rfl ?_
      refine j_iload_n (pc := 41) 3 dX0_giveByPrices_41 rfl rfl ?_
      refine j_iload (pc := 42) 5 dX0_giveByPrices_42 rfl ?_
      refine j_callVv (pc := 44) (d := d) (As := [.ref (ad a1), .int x2, .int x5]) (st := []) dX0_giveByPrices_44 s528 k0 (by decide) rfl rfl (by decide) (Nat.le_of_ble_eq_true rfl) (fun q hq => t_X0_priceNext (by omega) k0 k1 hq) hf (fun q3 hf => ?_)
      refine j_iinc (pc := 47) 5 (c := 1) (lv' := fun v4 => [(5, .int v4), (4, .int v2), (0, .ref (ad a0)), (1, .ref (ad a1)), (2, .int x2), (3, .int x3)]) dX0_giveByPrices_47 rfl (by decide) (by decide) (fun _ => rfl) hf (fun v4 hf => ?_)
      refine j_goto (pc := 50) (tgt := 6) dX0_giveByPrices_50 (by decide) ?_
      refine j_sub [2, 3, 4, 5, 1, 0] rfl ?_
      exact hk6 k0 k1 hf
def f_X0_giveByPrices (a0 : Nat) (a1 : Nat) (x2 : Int32) (x3 : Int32) (h : Hp) : Option (Int32 × Hp) := lp (F := Nat → Nat → Int32 → Int32 → Int32 → Int32 → Hp → Option (Int32 × Hp)) (fun _ _ _ _ _ _ _ => none) (f_X0_giveByPrices_6) 1000 a0 a1 x2 x3 0 0 h
set_option maxHeartbeats 4000000 in
set_option maxRecDepth 100000 in
theorem t_X0_giveByPrices {l : Launch} {D : va_G} {ad : Nat → Nat} {cA : Nat → ClassId} {d : Nat} (hdp : 3 ≤ d) {a0 : Nat} {a1 : Nat} {x2 : Int32} {x3 : Int32} (k0 : kd a0 = 0) (k1 : kd a1 = 3) {h : Hp} {o : Int32 × Hp} (hf : f_X0_giveByPrices a0 a1 x2 x3 h = some o) : Cr l D ad cA d yX0_giveByPrices cX0_giveByPrices 7 (some .boolean) [.ref (ad a0), .ref (ad a1), .int x2, .int x3] h (some (.int o.1)) o.2 := by
  obtain ⟨d, rfl⟩ : ∃ e, d = e + 1 := ⟨d - 1, by omega⟩
  have hdp : 2 ≤ d := by omega
  unfold f_X0_giveByPrices at hf
  refine Cr_of (by decide +kernel) rfl (Nat.le_of_ble_eq_true rfl) (lv0 := [(0, .ref (ad a0)), (1, .ref (ad a1)), (2, .int x2), (3, .int x3)]) rfl ?_
  refine j_iconst (pc := 0) dX0_giveByPrices_0 (v := 0) (by decide) ?_
  refine j_istore (pc := 1) (lv' := [(4, .int 0), (0, .ref (ad a0)), (1, .ref (ad a1)), (2, .int x2), (3, .int x3)]) dX0_giveByPrices_1 (by decide) rfl ?_
  refine j_iconst (pc := 3) dX0_giveByPrices_3 (v := 0) (by decide) ?_
  refine j_istore (pc := 4) (lv' := [(5, .int 0), (4, .int 0), (0, .ref (ad a0)), (1, .ref (ad a1)), (2, .int x2), (3, .int x3)]) dX0_giveByPrices_4 (by decide) rfl ?_
  refine j_sub [2, 3, 4, 5, 1, 0] rfl ?_
  exact t_X0_giveByPrices_6 hdp  1000 k0 k1 hf
def f_X3_listBits_34 (k9 : Nat → Int32 → Int32 → Int32 → Hp → Option (Int32 × Hp)) (a0 : Nat) (x1 : Int32) (x2 : Int32) (x3 : Int32) (h : Hp) : Option (Int32 × Hp) := lt (x3 + 1) (fun v4 => k9 a0 x1 x2 v4 h)
set_option maxHeartbeats 4000000 in
set_option maxRecDepth 100000 in
theorem t_X3_listBits_34 {l : Launch} {D : va_G} {ad : Nat → Nat} {cA : Nat → ClassId} {d : Nat} (hdp : 2 ≤ d) {o : Int32 × Hp} {k9 : Nat → Int32 → Int32 → Int32 → Hp → Option (Int32 × Hp)} (hk9 : ∀ {a0 : Nat} {x1 : Int32} {x2 : Int32} {x3 : Int32} (k0 : kd a0 = 3) {h : Hp}, k9 a0 x1 x2 x3 h = some o → J l D ad cA (fun _ => True) (rmd (d + 1)) (0, 0) (mQ D ad cA (some (.int o.1)) o.2) cX3_listBits RX3 4 (some .int) 9 [(0, .ref (ad a0)), (1, .int x1), (2, .int x2), (3, .int x3)] [] h) {a0 : Nat} {x1 : Int32} {x2 : Int32} {x3 : Int32} (k0 : kd a0 = 3) {h : Hp} (hf : f_X3_listBits_34 k9 a0 x1 x2 x3 h = some o) : J l D ad cA (fun _ => True) (rmd (d + 1)) (0, 0) (mQ D ad cA (some (.int o.1)) o.2) cX3_listBits RX3 4 (some .int) 34 [(0, .ref (ad a0)), (1, .int x1), (2, .int x2), (3, .int x3)] [] h := by
  unfold f_X3_listBits_34 at hf
  refine j_iinc (pc := 34) 3 (c := 1) (lv' := fun v4 => [(3, .int v4), (0, .ref (ad a0)), (1, .int x1), (2, .int x2)]) dX3_listBits_34 rfl (by decide) (by decide) (fun _ => rfl) hf (fun v4 hf => ?_)
  refine j_goto (pc := 37) (tgt := 9) dX3_listBits_37 (by decide) ?_
  refine j_sub [1, 2, 3, 0] rfl ?_
  exact hk9 k0 hf
def f_X3_listBits_9 (k9 : Nat → Int32 → Int32 → Int32 → Hp → Option (Int32 × Hp)) (a0 : Nat) (x1 : Int32) (x2 : Int32) (x3 : Int32) (h : Hp) : Option (Int32 × Hp) := if 6 ≤ x3 then (some (x2, h)) else ((f_X8_holds x1 x3 h).bind (fun q2 => if q2.1 = 0 then (f_X3_listBits_34 k9 a0 x1 x2 x3 q2.2) else (if ix x3 6 = true then (lt (x2 ||| (1 <<< ((q2.2.1 (a0 + 4) (Int32.toNatClampNeg x3)) &&& 31))) (fun v3 => f_X3_listBits_34 k9 a0 x1 v3 x3 q2.2)) else none)))
set_option maxHeartbeats 4000000 in
set_option maxRecDepth 100000 in
theorem t_X3_listBits_9 {l : Launch} {D : va_G} {ad : Nat → Nat} {cA : Nat → ClassId} {d : Nat} (hdp : 2 ≤ d) {o : Int32 × Hp}  : ∀ (n : Nat) {a0 : Nat} {x1 : Int32} {x2 : Int32} {x3 : Int32} (k0 : kd a0 = 3) {h : Hp}, lp (F := Nat → Int32 → Int32 → Int32 → Hp → Option (Int32 × Hp)) (fun _ _ _ _ _ => none) (f_X3_listBits_9) n a0 x1 x2 x3 h = some o → J l D ad cA (fun _ => True) (rmd (d + 1)) (0, 0) (mQ D ad cA (some (.int o.1)) o.2) cX3_listBits RX3 4 (some .int) 9 [(0, .ref (ad a0)), (1, .int x1), (2, .int x2), (3, .int x3)] [] h := by
  intro n
  induction n with
  | zero =>
    intro a0 x1 x2 x3 k0 h hf
    have hf : (none : Option (Int32 × Hp)) = some o := hf
    cases hf
  | succ n hk9 =>
    intro a0 x1 x2 x3 k0 h hf
    have hf : f_X3_listBits_9  (lp (F := Nat → Int32 → Int32 → Int32 → Hp → Option (Int32 × Hp)) (fun _ _ _ _ _ => none) (f_X3_listBits_9) n) a0 x1 x2 x3 h = some o := hf
    unfold f_X3_listBits_9 at hf
    refine j_iload_n (pc := 9) 3 dX3_listBits_9 rfl rfl ?_
    refine j_bipush (pc := 10) dX3_listBits_10 (v := 6) (by decide) ?_
    refine j_icmp_ge (pc := 12) (tgt := 40) dX3_listBits_12 (by decide) hf (fun _ hf => ?_) (fun _ hf => ?_)
    · refine j_iload_n (pc := 40) 2 dX3_listBits_40 rfl rfl ?_
      exact j_iret (pc := 41) dX3_listBits_41 rfl hf
    · refine j_iload_n (pc := 15) 1 dX3_listBits_15 rfl rfl ?_
      refine j_iload_n (pc := 16) 3 dX3_listBits_16 rfl rfl ?_
      refine j_callNi (pc := 17) (d := d) (As := [.int x1, .int x3]) (st := []) dX3_listBits_17 s792 rfl rfl (by decide) (Nat.le_of_ble_eq_true rfl) (fun q hq => t_X8_holds  hq) hf (fun q2 hf => ?_)
      refine j_if_eq (pc := 20) (tgt := 34) dX3_listBits_20 (by decide) hf (fun _ hf => ?_) (fun _ hf => ?_)
      · refine j_sub [0, 1, 2, 3] rfl ?_
        exact t_X3_listBits_34 hdp hk9 k0 hf
      · refine j_iload_n (pc := 23) 2 dX3_listBits_23 rfl rfl ?_
        refine j_iconst (pc := 24) dX3_listBits_24 (v := 1) (by decide) ?_
        refine j_aload_n (pc := 25) 0 dX3_listBits_25 rfl rfl ?_
        refine j_getR (pc := 26) (n := 4) dX3_listBits_26 fl109 k0 (by decide) rfl ?_
        refine j_iload_n (pc := 29) 3 dX3_listBits_29 rfl rfl ?_
        refine j_iaload (pc := 30) dX3_listBits_30 (lk_3_3 k0) (ll_3_3 k0) hf (fun _ hf => ?_)
        refine j_ishl (pc := 31) dX3_listBits_31  ?_
        refine j_ior (pc := 32) dX3_listBits_32  ?_
        refine j_istore_nN (pc := 33) (lv' := fun v3 => [(2, .int v3), (0, .ref (ad a0)), (1, .int x1), (3, .int x3)]) dX3_listBits_33 rfl (by decide) (fun _ => rfl) hf (fun v3 hf => ?_)
        refine j_sub [1, 2, 0, 3] rfl ?_
        exact t_X3_listBits_34 hdp hk9 k0 hf
def f_X3_listBits (a0 : Nat) (h : Hp) : Option (Int32 × Hp) := (f_X3_inBits a0 h).bind (fun q1 => lp (F := Nat → Int32 → Int32 → Int32 → Hp → Option (Int32 × Hp)) (fun _ _ _ _ _ => none) (f_X3_listBits_9) 1000 a0 q1.1 0 0 q1.2)
set_option maxHeartbeats 4000000 in
set_option maxRecDepth 100000 in
theorem t_X3_listBits {l : Launch} {D : va_G} {ad : Nat → Nat} {cA : Nat → ClassId} {d : Nat} (hdp : 3 ≤ d) {a0 : Nat} (k0 : kd a0 = 3) {h : Hp} {o : Int32 × Hp} (hf : f_X3_listBits a0 h = some o) : Cr l D ad cA d yX3_listBits cX3_listBits 4 (some .int) [.ref (ad a0)] h (some (.int o.1)) o.2 := by
  obtain ⟨d, rfl⟩ : ∃ e, d = e + 1 := ⟨d - 1, by omega⟩
  have hdp : 2 ≤ d := by omega
  unfold f_X3_listBits at hf
  refine Cr_of (by decide +kernel) rfl (Nat.le_of_ble_eq_true rfl) (lv0 := [(0, .ref (ad a0))]) rfl ?_
  refine j_aload_n (pc := 0) 0 dX3_listBits_0 rfl rfl ?_
  refine j_callVi (pc := 1) (d := d) (As := []) (st := []) dX3_listBits_1 s791 k0 (by decide) rfl rfl (by decide) (Nat.le_of_ble_eq_true rfl) (fun q hq => t_X3_inBits (by omega) k0 hq) hf (fun q1 hf => ?_)
  refine j_istore_n (pc := 4) (lv' := [(1, .int q1.1), (0, .ref (ad a0))]) dX3_listBits_4 rfl (by decide) rfl ?_
  refine j_iconst (pc := 5) dX3_listBits_5 (v := 0) (by decide) ?_
  refine j_istore_n (pc := 6) (lv' := [(2, .int 0), (1, .int q1.1), (0, .ref (ad a0))]) dX3_listBits_6 rfl (by decide) rfl ?_
  refine j_iconst (pc := 7) dX3_listBits_7 (v := 0) (by decide) ?_
  refine j_istore_n (pc := 8) (lv' := [(3, .int 0), (2, .int 0), (1, .int q1.1), (0, .ref (ad a0))]) dX3_listBits_8 rfl (by decide) rfl ?_
  refine j_sub [3, 2, 1, 0] rfl ?_
  exact t_X3_listBits_9 hdp  1000 k0 hf
def f_X8_in (a0 : Nat) (h : Hp) : Option (Int32 × Hp) := (f_X3_inBits (a0 + 1) h).bind (fun q1 => some (q1.1, q1.2))
set_option maxHeartbeats 4000000 in
set_option maxRecDepth 100000 in
theorem t_X8_in {l : Launch} {D : va_G} {ad : Nat → Nat} {cA : Nat → ClassId} {d : Nat} (hdp : 3 ≤ d) {a0 : Nat} (k0 : kd a0 = 8) {h : Hp} {o : Int32 × Hp} (hf : f_X8_in a0 h = some o) : Cr l D ad cA d yX8_in cX8_in 1 (some .int) [.ref (ad a0)] h (some (.int o.1)) o.2 := by
  obtain ⟨d, rfl⟩ : ∃ e, d = e + 1 := ⟨d - 1, by omega⟩
  have hdp : 2 ≤ d := by omega
  unfold f_X8_in at hf
  refine Cr_of (by decide +kernel) rfl (Nat.le_of_ble_eq_true rfl) (lv0 := [(0, .ref (ad a0))]) rfl ?_
  refine j_aload_n (pc := 0) 0 dX8_in_0 rfl rfl ?_
  refine j_getR (pc := 1) (n := 1) dX8_in_1 fl332 k0 (by decide) rfl ?_
  refine j_callVi (pc := 4) (d := d) (As := []) (st := []) dX8_in_4 s467 (lk_8_0 k0) (by decide) rfl rfl (by decide) (Nat.le_of_ble_eq_true rfl) (fun q hq => t_X3_inBits (by omega) (lk_8_0 k0) hq) hf (fun q1 hf => ?_)
  exact j_iret (pc := 7) dX8_in_7 rfl hf
def f_X8_read (a0 : Nat) (x1 : Int32) (h : Hp) : Option (Int32 × Hp) := (f_X8_within x1 3 h).bind (fun q1 => if q1.1 = 0 then (some ((-1), q1.2)) else ((f_X7_parse (a0 + 96) x1 (a0 + 11) (a0 + 1) q1.2).bind (fun q2 => lt (sI q2.2 (a0 + 96) 1 0) (fun m3 => if q2.1 ≤ 0 then (some (q2.1, m3)) else ((f_X3_copyFrom (a0 + 1) (a0 + 11) m3).bind (fun q4 => (f_X2_forget (a0 + 56) q4.2).bind (fun q5 => some (q2.1, q5.2))))))))
set_option maxHeartbeats 4000000 in
set_option maxRecDepth 100000 in
theorem t_X8_read {l : Launch} {D : va_G} {ad : Nat → Nat} {cA : Nat → ClassId} {d : Nat} (hdp : 3 ≤ d) {a0 : Nat} {x1 : Int32} (k0 : kd a0 = 8) {h : Hp} {o : Int32 × Hp} (hf : f_X8_read a0 x1 h = some o) : Cr l D ad cA d yX8_read cX8_read 3 (some .int) [.ref (ad a0), .int x1] h (some (.int o.1)) o.2 := by
  obtain ⟨d, rfl⟩ : ∃ e, d = e + 1 := ⟨d - 1, by omega⟩
  have hdp : 2 ≤ d := by omega
  unfold f_X8_read at hf
  refine Cr_of (by decide +kernel) rfl (Nat.le_of_ble_eq_true rfl) (lv0 := [(0, .ref (ad a0)), (1, .int x1)]) rfl ?_
  refine j_iload_n (pc := 0) 1 dX8_read_0 rfl rfl ?_
  refine j_iconst (pc := 1) dX8_read_1 (v := 3) (by decide) ?_
  refine j_callSi (pc := 2) (d := d) (As := [.int x1, .int 3]) (st := []) dX8_read_2 s370 rfl rfl (by decide) (Nat.le_of_ble_eq_true rfl) (fun q hq => t_X8_within  hq) hf (fun q1 hf => ?_)
  refine j_if_ne (pc := 5) (tgt := 10) dX8_read_5 (by decide) hf (fun _ hf => ?_) (fun _ hf => ?_)
  · refine j_aload_n (pc := 10) 0 dX8_read_10 rfl rfl ?_
    refine j_getR (pc := 11) (n := 96) dX8_read_11 fl338 k0 (by decide) rfl ?_
    refine j_iload_n (pc := 14) 1 dX8_read_14 rfl rfl ?_
    refine j_aload_n (pc := 15) 0 dX8_read_15 rfl rfl ?_
    refine j_getR (pc := 16) (n := 11) dX8_read_16 fl334 k0 (by decide) rfl ?_
    refine j_aload_n (pc := 19) 0 dX8_read_19 rfl rfl ?_
    refine j_getR (pc := 20) (n := 1) dX8_read_20 fl332 k0 (by decide) rfl ?_
    refine j_callVi (pc := 23) (d := d) (As := [.int x1, .ref (ad (a0 + 11)), .ref (ad (a0 + 1))]) (st := []) dX8_read_23 s438 (lk_8_6 k0) (by decide) rfl rfl (by decide) (Nat.le_of_ble_eq_true rfl) (fun q hq => t_X7_parse (by omega) (lk_8_6 k0) (lk_8_2 k0) (lk_8_0 k0) hq) hf (fun q2 hf => ?_)
    refine j_istore_n (pc := 26) (lv' := [(2, .int q2.1), (0, .ref (ad a0)), (1, .int x1)]) dX8_read_26 rfl (by decide) rfl ?_
    refine j_aload_n (pc := 27) 1 dX8_read_27 rfl rfl ?_
    refine j_getR (pc := 28) (n := 96) dX8_read_28 fl338 k0 (by decide) rfl ?_
    refine j_iconst (pc := 31) dX8_read_31 (v := 0) (by decide) ?_
    refine j_putI (pc := 32) dX8_read_32 fl292 fp7_1 (lk_8_6 k0) (by decide) rfl hf (fun m3 hf => ?_)
    refine j_iload_n (pc := 35) 0 dX8_read_35 rfl rfl ?_
    refine j_if_le (pc := 36) (tgt := 57) dX8_read_36 (by decide) hf (fun _ hf => ?_) (fun _ hf => ?_)
    · refine j_iload_n (pc := 57) 0 dX8_read_57 rfl rfl ?_
      exact j_iret (pc := 58) dX8_read_58 rfl hf
    · refine j_aload_n (pc := 39) 1 dX8_read_39 rfl rfl ?_
      refine j_getR (pc := 40) (n := 1) dX8_read_40 fl332 k0 (by decide) rfl ?_
      refine j_aload_n (pc := 43) 1 dX8_read_43 rfl rfl ?_
      refine j_getR (pc := 44) (n := 11) dX8_read_44 fl334 k0 (by decide) rfl ?_
      refine j_callVv (pc := 47) (d := d) (As := [.ref (ad (a0 + 11))]) (st := []) dX8_read_47 s462 (lk_8_0 k0) (by decide) rfl rfl (by decide) (Nat.le_of_ble_eq_true rfl) (fun q hq => t_X3_copyFrom (by omega) (lk_8_0 k0) (lk_8_2 k0) hq) hf (fun q4 hf => ?_)
      refine j_aload_n (pc := 50) 1 dX8_read_50 rfl rfl ?_
      refine j_getR (pc := 51) (n := 56) dX8_read_51 fl337 k0 (by decide) rfl ?_
      refine j_callVv (pc := 54) (d := d) (As := []) (st := []) dX8_read_54 s377 (lk_8_5 k0) (by decide) rfl rfl (by decide) (Nat.le_of_ble_eq_true rfl) (fun q hq => t_X2_forget (lk_8_5 k0) hq) hf (fun q5 hf => ?_)
      refine j_iload_n (pc := 57) 0 dX8_read_57 rfl rfl ?_
      exact j_iret (pc := 58) dX8_read_58 rfl hf
  · refine j_iconst (pc := 8) dX8_read_8 (v := -1) (by decide) ?_
    exact j_iret (pc := 9) dX8_read_9 rfl hf
def f_X9_dearest_64 (k4 : Nat → Int32 → Int32 → Int32 → Hp → Option (Int32 × Hp)) (a0 : Nat) (x1 : Int32) (x2 : Int32) (x3 : Int32) (h : Hp) : Option (Int32 × Hp) := lt (x3 + 1) (fun v2 => k4 a0 x1 x2 v2 h)
set_option maxHeartbeats 4000000 in
set_option maxRecDepth 100000 in
theorem t_X9_dearest_64 {l : Launch} {D : va_G} {ad : Nat → Nat} {cA : Nat → ClassId} {d : Nat} (hdp : 2 ≤ d) {o : Int32 × Hp} {k4 : Nat → Int32 → Int32 → Int32 → Hp → Option (Int32 × Hp)} (hk4 : ∀ {a0 : Nat} {x1 : Int32} {x2 : Int32} {x3 : Int32} (k0 : kd a0 = 9) {h : Hp}, k4 a0 x1 x2 x3 h = some o → J l D ad cA (fun _ => True) (rmd (d + 1)) (0, 0) (mQ D ad cA (some (.int o.1)) o.2) cX9_dearest RX9 4 (some .int) 4 [(0, .ref (ad a0)), (1, .int x1), (2, .int x2), (3, .int x3)] [] h) {a0 : Nat} {x1 : Int32} {x2 : Int32} {x3 : Int32} (k0 : kd a0 = 9) {h : Hp} (hf : f_X9_dearest_64 k4 a0 x1 x2 x3 h = some o) : J l D ad cA (fun _ => True) (rmd (d + 1)) (0, 0) (mQ D ad cA (some (.int o.1)) o.2) cX9_dearest RX9 4 (some .int) 64 [(0, .ref (ad a0)), (1, .int x1), (2, .int x2), (3, .int x3)] [] h := by
  unfold f_X9_dearest_64 at hf
  refine j_iinc (pc := 64) 3 (c := 1) (lv' := fun v2 => [(3, .int v2), (0, .ref (ad a0)), (1, .int x1), (2, .int x2)]) dX9_dearest_64 rfl (by decide) (by decide) (fun _ => rfl) hf (fun v2 hf => ?_)
  refine j_goto (pc := 67) (tgt := 4) dX9_dearest_67 (by decide) ?_
  refine j_sub [1, 2, 3, 0] rfl ?_
  exact hk4 k0 hf
def f_X9_dearest_62 (k4 : Nat → Int32 → Int32 → Int32 → Hp → Option (Int32 × Hp)) (a0 : Nat) (x1 : Int32) (x3 : Int32) (h : Hp) : Option (Int32 × Hp) := f_X9_dearest_64 k4 a0 x1 x3 x3 h
set_option maxHeartbeats 4000000 in
set_option maxRecDepth 100000 in
theorem t_X9_dearest_62 {l : Launch} {D : va_G} {ad : Nat → Nat} {cA : Nat → ClassId} {d : Nat} (hdp : 2 ≤ d) {o : Int32 × Hp} {k4 : Nat → Int32 → Int32 → Int32 → Hp → Option (Int32 × Hp)} (hk4 : ∀ {a0 : Nat} {x1 : Int32} {x2 : Int32} {x3 : Int32} (k0 : kd a0 = 9) {h : Hp}, k4 a0 x1 x2 x3 h = some o → J l D ad cA (fun _ => True) (rmd (d + 1)) (0, 0) (mQ D ad cA (some (.int o.1)) o.2) cX9_dearest RX9 4 (some .int) 4 [(0, .ref (ad a0)), (1, .int x1), (2, .int x2), (3, .int x3)] [] h) {a0 : Nat} {x1 : Int32} {x3 : Int32} (k0 : kd a0 = 9) {h : Hp} (hf : f_X9_dearest_62 k4 a0 x1 x3 h = some o) : J l D ad cA (fun _ => True) (rmd (d + 1)) (0, 0) (mQ D ad cA (some (.int o.1)) o.2) cX9_dearest RX9 4 (some .int) 62 [(0, .ref (ad a0)), (1, .int x1), (3, .int x3)] [] h := by
  unfold f_X9_dearest_62 at hf
  refine j_iload_n (pc := 62) 2 dX9_dearest_62 rfl rfl ?_
  refine j_istore_n (pc := 63) (lv' := [(2, .int x3), (0, .ref (ad a0)), (1, .int x1), (3, .int x3)]) dX9_dearest_63 rfl (by decide) rfl ?_
  refine j_sub [1, 2, 0, 3] rfl ?_
  exact t_X9_dearest_64 hdp hk4 k0 hf
def f_X9_dearest_4 (k4 : Nat → Int32 → Int32 → Int32 → Hp → Option (Int32 × Hp)) (a0 : Nat) (x1 : Int32) (x2 : Int32) (x3 : Int32) (h : Hp) : Option (Int32 × Hp) := if 6 ≤ x3 then (some (x2, h)) else (if ix x3 6 = true then (if (h.1 (a0 + 5) (Int32.toNatClampNeg x3)) = 0 then (f_X9_dearest_64 k4 a0 x1 x2 x3 h) else (if x2 = ((-1)) then (f_X9_dearest_62 k4 a0 x1 x3 h) else (if ix x3 6 = true then (if ix x3 6 = true then (if ix x2 6 = true then (if ix x2 6 = true then ((f_X9_dearer a0 x1 (Int32.toInt64 (h.1 (a0 + 6) (Int32.toNatClampNeg x3))) ((h.1 (a0 + 8) (Int32.toNatClampNeg x3)) + 1) (Int32.toInt64 (h.1 (a0 + 6) (Int32.toNatClampNeg x2))) ((h.1 (a0 + 8) (Int32.toNatClampNeg x2)) + 1) h).bind (fun q1 => if q1.1 ≤ 0 then (f_X9_dearest_64 k4 a0 x1 x2 x3 q1.2) else (f_X9_dearest_62 k4 a0 x1 x3 q1.2))) else none) else none) else none) else none))) else none)
set_option maxHeartbeats 4000000 in
set_option maxRecDepth 100000 in
theorem t_X9_dearest_4 {l : Launch} {D : va_G} {ad : Nat → Nat} {cA : Nat → ClassId} {d : Nat} (hdp : 2 ≤ d) {o : Int32 × Hp}  : ∀ (n : Nat) {a0 : Nat} {x1 : Int32} {x2 : Int32} {x3 : Int32} (k0 : kd a0 = 9) {h : Hp}, lp (F := Nat → Int32 → Int32 → Int32 → Hp → Option (Int32 × Hp)) (fun _ _ _ _ _ => none) (f_X9_dearest_4) n a0 x1 x2 x3 h = some o → J l D ad cA (fun _ => True) (rmd (d + 1)) (0, 0) (mQ D ad cA (some (.int o.1)) o.2) cX9_dearest RX9 4 (some .int) 4 [(0, .ref (ad a0)), (1, .int x1), (2, .int x2), (3, .int x3)] [] h := by
  intro n
  induction n with
  | zero =>
    intro a0 x1 x2 x3 k0 h hf
    have hf : (none : Option (Int32 × Hp)) = some o := hf
    cases hf
  | succ n hk4 =>
    intro a0 x1 x2 x3 k0 h hf
    have hf : f_X9_dearest_4  (lp (F := Nat → Int32 → Int32 → Int32 → Hp → Option (Int32 × Hp)) (fun _ _ _ _ _ => none) (f_X9_dearest_4) n) a0 x1 x2 x3 h = some o := hf
    unfold f_X9_dearest_4 at hf
    refine j_iload_n (pc := 4) 3 dX9_dearest_4 rfl rfl ?_
    refine j_bipush (pc := 5) dX9_dearest_5 (v := 6) (by decide) ?_
    refine j_icmp_ge (pc := 7) (tgt := 70) dX9_dearest_7 (by decide) hf (fun _ hf => ?_) (fun _ hf => ?_)
    · refine j_iload_n (pc := 70) 2 dX9_dearest_70 rfl rfl ?_
      exact j_iret (pc := 71) dX9_dearest_71 rfl hf
    · refine j_aload_n (pc := 10) 0 dX9_dearest_10 rfl rfl ?_
      refine j_getR (pc := 11) (n := 5) dX9_dearest_11 fl855 k0 (by decide) rfl ?_
      refine j_iload_n (pc := 14) 3 dX9_dearest_14 rfl rfl ?_
      refine j_zaload (pc := 15) dX9_dearest_15 (lk_9_9 k0) (ll_9_9 k0) hf (fun _ hf => ?_)
      refine j_if_eq (pc := 16) (tgt := 64) dX9_dearest_16 (by decide) hf (fun _ hf => ?_) (fun _ hf => ?_)
      · refine j_sub [0, 1, 2, 3] rfl ?_
        exact t_X9_dearest_64 hdp hk4 k0 hf
      · refine j_iload_n (pc := 19) 2 dX9_dearest_19 rfl rfl ?_
        refine j_iconst (pc := 20) dX9_dearest_20 (v := -1) (by decide) ?_
        refine j_icmp_eq (pc := 21) (tgt := 62) dX9_dearest_21 (by decide) hf (fun _ hf => ?_) (fun _ hf => ?_)
        · refine j_sub [0, 1, 3] rfl ?_
          exact t_X9_dearest_62 hdp hk4 k0 hf
        · refine j_aload_n (pc := 24) 0 dX9_dearest_24 rfl rfl ?_
          refine j_iload_n (pc := 25) 1 dX9_dearest_25 rfl rfl ?_
          refine j_aload_n (pc := 26) 0 dX9_dearest_26 rfl rfl ?_
          refine j_getR (pc := 27) (n := 6) dX9_dearest_27 fl856 k0 (by decide) rfl ?_
          refine j_iload_n (pc := 30) 3 dX9_dearest_30 rfl rfl ?_
          refine j_iaload (pc := 31) dX9_dearest_31 (lk_9_10 k0) (ll_9_10 k0) hf (fun _ hf => ?_)
          refine j_i2l (pc := 32) dX9_dearest_32  ?_
          refine j_aload_n (pc := 33) 0 dX9_dearest_33 rfl rfl ?_
          refine j_getR (pc := 34) (n := 8) dX9_dearest_34 fl858 k0 (by decide) rfl ?_
          refine j_iload_n (pc := 37) 3 dX9_dearest_37 rfl rfl ?_
          refine j_iaload (pc := 38) dX9_dearest_38 (lk_9_12 k0) (ll_9_12 k0) hf (fun _ hf => ?_)
          refine j_iconst (pc := 39) dX9_dearest_39 (v := 1) (by decide) ?_
          refine j_iadd (pc := 40) dX9_dearest_40  ?_
          refine j_aload_n (pc := 41) 0 dX9_dearest_41 rfl rfl ?_
          refine j_getR (pc := 42) (n := 6) dX9_dearest_42 fl856 k0 (by decide) rfl ?_
          refine j_iload_n (pc := 45) 2 dX9_dearest_45 rfl rfl ?_
          refine j_iaload (pc := 46) dX9_dearest_46 (lk_9_10 k0) (ll_9_10 k0) hf (fun _ hf => ?_)
          refine j_i2l (pc := 47) dX9_dearest_47  ?_
          refine j_aload_n (pc := 48) 0 dX9_dearest_48 rfl rfl ?_
          refine j_getR (pc := 49) (n := 8) dX9_dearest_49 fl858 k0 (by decide) rfl ?_
          refine j_iload_n (pc := 52) 2 dX9_dearest_52 rfl rfl ?_
          refine j_iaload (pc := 53) dX9_dearest_53 (lk_9_12 k0) (ll_9_12 k0) hf (fun _ hf => ?_)
          refine j_iconst (pc := 54) dX9_dearest_54 (v := 1) (by decide) ?_
          refine j_iadd (pc := 55) dX9_dearest_55  ?_
          refine j_callVi (pc := 56) (d := d) (As := [.int x1, .long (Int32.toInt64 (h.1 (a0 + 6) (Int32.toNatClampNeg x3))), .int ((h.1 (a0 + 8) (Int32.toNatClampNeg x3)) + 1), .long (Int32.toInt64 (h.1 (a0 + 6) (Int32.toNatClampNeg x2))), .int ((h.1 (a0 + 8) (Int32.toNatClampNeg x2)) + 1)]) (st := []) dX9_dearest_56 s1162 k0 (by decide) rfl rfl (by decide) (Nat.le_of_ble_eq_true rfl) (fun q hq => t_X9_dearer (by omega) k0 hq) hf (fun q1 hf => ?_)
          refine j_if_le (pc := 59) (tgt := 64) dX9_dearest_59 (by decide) hf (fun _ hf => ?_) (fun _ hf => ?_)
          · refine j_sub [0, 1, 2, 3] rfl ?_
            exact t_X9_dearest_64 hdp hk4 k0 hf
          · refine j_sub [0, 1, 3] rfl ?_
            exact t_X9_dearest_62 hdp hk4 k0 hf
def f_X9_dearest (a0 : Nat) (x1 : Int32) (h : Hp) : Option (Int32 × Hp) := lp (F := Nat → Int32 → Int32 → Int32 → Hp → Option (Int32 × Hp)) (fun _ _ _ _ _ => none) (f_X9_dearest_4) 1000 a0 x1 ((-1)) 0 h
set_option maxHeartbeats 4000000 in
set_option maxRecDepth 100000 in
theorem t_X9_dearest {l : Launch} {D : va_G} {ad : Nat → Nat} {cA : Nat → ClassId} {d : Nat} (hdp : 3 ≤ d) {a0 : Nat} {x1 : Int32} (k0 : kd a0 = 9) {h : Hp} {o : Int32 × Hp} (hf : f_X9_dearest a0 x1 h = some o) : Cr l D ad cA d yX9_dearest cX9_dearest 4 (some .int) [.ref (ad a0), .int x1] h (some (.int o.1)) o.2 := by
  obtain ⟨d, rfl⟩ : ∃ e, d = e + 1 := ⟨d - 1, by omega⟩
  have hdp : 2 ≤ d := by omega
  unfold f_X9_dearest at hf
  refine Cr_of (by decide +kernel) rfl (Nat.le_of_ble_eq_true rfl) (lv0 := [(0, .ref (ad a0)), (1, .int x1)]) rfl ?_
  refine j_iconst (pc := 0) dX9_dearest_0 (v := -1) (by decide) ?_
  refine j_istore_n (pc := 1) (lv' := [(2, .int ((-1))), (0, .ref (ad a0)), (1, .int x1)]) dX9_dearest_1 rfl (by decide) rfl ?_
  refine j_iconst (pc := 2) dX9_dearest_2 (v := 0) (by decide) ?_
  refine j_istore_n (pc := 3) (lv' := [(3, .int 0), (2, .int ((-1))), (0, .ref (ad a0)), (1, .int x1)]) dX9_dearest_3 rfl (by decide) rfl ?_
  refine j_sub [2, 3, 1, 0] rfl ?_
  exact t_X9_dearest_4 hdp  1000 k0 hf
def f_X9_edge_119 (k4 : Nat → Int32 → Int32 → Int32 → Hp → Option (Int32 × Hp)) (a0 : Nat) (x1 : Int32) (x2 : Int32) (x3 : Int32) (h : Hp) : Option (Int32 × Hp) := lt (x3 + 1) (fun v1 => k4 a0 x1 x2 v1 h)
set_option maxHeartbeats 4000000 in
set_option maxRecDepth 100000 in
theorem t_X9_edge_119 {l : Launch} {D : va_G} {ad : Nat → Nat} {cA : Nat → ClassId} {d : Nat} (hdp : 2 ≤ d) {o : Int32 × Hp} {k4 : Nat → Int32 → Int32 → Int32 → Hp → Option (Int32 × Hp)} (hk4 : ∀ {a0 : Nat} {x1 : Int32} {x2 : Int32} {x3 : Int32} (k0 : kd a0 = 9) {h : Hp}, k4 a0 x1 x2 x3 h = some o → J l D ad cA (fun _ => True) (rmd (d + 1)) (0, 0) (mQ D ad cA (some (.int o.1)) o.2) cX9_edge RX9 5 (some .int) 4 [(0, .ref (ad a0)), (1, .int x1), (2, .int x2), (3, .int x3)] [] h) {a0 : Nat} {x1 : Int32} {x2 : Int32} {x3 : Int32} (k0 : kd a0 = 9) {h : Hp} (hf : f_X9_edge_119 k4 a0 x1 x2 x3 h = some o) : J l D ad cA (fun _ => True) (rmd (d + 1)) (0, 0) (mQ D ad cA (some (.int o.1)) o.2) cX9_edge RX9 5 (some .int) 119 [(0, .ref (ad a0)), (1, .int x1), (2, .int x2), (3, .int x3)] [] h := by
  unfold f_X9_edge_119 at hf
  refine j_iinc (pc := 119) 3 (c := 1) (lv' := fun v1 => [(3, .int v1), (0, .ref (ad a0)), (1, .int x1), (2, .int x2)]) dX9_edge_119 rfl (by decide) (by decide) (fun _ => rfl) hf (fun v1 hf => ?_)
  refine j_goto (pc := 122) (tgt := 4) dX9_edge_122 (by decide) ?_
  refine j_sub [1, 2, 3, 0] rfl ?_
  exact hk4 k0 hf
def f_X9_edge_117 (k4 : Nat → Int32 → Int32 → Int32 → Hp → Option (Int32 × Hp)) (a0 : Nat) (x1 : Int32) (x3 : Int32) (h : Hp) : Option (Int32 × Hp) := f_X9_edge_119 k4 a0 x1 x3 x3 h
set_option maxHeartbeats 4000000 in
set_option maxRecDepth 100000 in
theorem t_X9_edge_117 {l : Launch} {D : va_G} {ad : Nat → Nat} {cA : Nat → ClassId} {d : Nat} (hdp : 2 ≤ d) {o : Int32 × Hp} {k4 : Nat → Int32 → Int32 → Int32 → Hp → Option (Int32 × Hp)} (hk4 : ∀ {a0 : Nat} {x1 : Int32} {x2 : Int32} {x3 : Int32} (k0 : kd a0 = 9) {h : Hp}, k4 a0 x1 x2 x3 h = some o → J l D ad cA (fun _ => True) (rmd (d + 1)) (0, 0) (mQ D ad cA (some (.int o.1)) o.2) cX9_edge RX9 5 (some .int) 4 [(0, .ref (ad a0)), (1, .int x1), (2, .int x2), (3, .int x3)] [] h) {a0 : Nat} {x1 : Int32} {x3 : Int32} (k0 : kd a0 = 9) {h : Hp} (hf : f_X9_edge_117 k4 a0 x1 x3 h = some o) : J l D ad cA (fun _ => True) (rmd (d + 1)) (0, 0) (mQ D ad cA (some (.int o.1)) o.2) cX9_edge RX9 5 (some .int) 117 [(0, .ref (ad a0)), (1, .int x1), (3, .int x3)] [] h := by
  unfold f_X9_edge_117 at hf
  refine j_iload_n (pc := 117) 2 dX9_edge_117 rfl rfl ?_
  refine j_istore_n (pc := 118) (lv' := [(2, .int x3), (0, .ref (ad a0)), (1, .int x1), (3, .int x3)]) dX9_edge_118 rfl (by decide) rfl ?_
  refine j_sub [1, 2, 0, 3] rfl ?_
  exact t_X9_edge_119 hdp hk4 k0 hf
def f_X9_edge_93 (k4 : Nat → Int32 → Int32 → Int32 → Hp → Option (Int32 × Hp)) (a0 : Nat) (x1 : Int32) (x2 : Int32) (x3 : Int32) (y0 : Int32) (h : Hp) : Option (Int32 × Hp) := if x2 = ((-1)) then (f_X9_edge_117 k4 a0 x1 x3 h) else (if x1 = 0 then (if y0 ≤ 0 then (f_X9_edge_119 k4 a0 x1 x2 x3 h) else (f_X9_edge_117 k4 a0 x1 x3 h)) else (if 0 ≤ y0 then (f_X9_edge_119 k4 a0 x1 x2 x3 h) else (f_X9_edge_117 k4 a0 x1 x3 h)))
set_option maxHeartbeats 4000000 in
set_option maxRecDepth 100000 in
theorem t_X9_edge_93 {l : Launch} {D : va_G} {ad : Nat → Nat} {cA : Nat → ClassId} {d : Nat} (hdp : 2 ≤ d) {o : Int32 × Hp} {k4 : Nat → Int32 → Int32 → Int32 → Hp → Option (Int32 × Hp)} (hk4 : ∀ {a0 : Nat} {x1 : Int32} {x2 : Int32} {x3 : Int32} (k0 : kd a0 = 9) {h : Hp}, k4 a0 x1 x2 x3 h = some o → J l D ad cA (fun _ => True) (rmd (d + 1)) (0, 0) (mQ D ad cA (some (.int o.1)) o.2) cX9_edge RX9 5 (some .int) 4 [(0, .ref (ad a0)), (1, .int x1), (2, .int x2), (3, .int x3)] [] h) {a0 : Nat} {x1 : Int32} {x2 : Int32} {x3 : Int32} {y0 : Int32} (k0 : kd a0 = 9) {h : Hp} (hf : f_X9_edge_93 k4 a0 x1 x2 x3 y0 h = some o) : J l D ad cA (fun _ => True) (rmd (d + 1)) (0, 0) (mQ D ad cA (some (.int o.1)) o.2) cX9_edge RX9 5 (some .int) 93 [(0, .ref (ad a0)), (1, .int x1), (2, .int x2), (3, .int x3)] [.int y0] h := by
  unfold f_X9_edge_93 at hf
  refine j_istore (pc := 93) (lv' := [(4, .int y0), (0, .ref (ad a0)), (1, .int x1), (2, .int x2), (3, .int x3)]) dX9_edge_93 (by decide) rfl ?_
  refine j_iload_n (pc := 95) 3 dX9_edge_95 rfl rfl ?_
  refine j_iconst (pc := 96) dX9_edge_96 (v := -1) (by decide) ?_
  refine j_icmp_eq (pc := 97) (tgt := 117) dX9_edge_97 (by decide) hf (fun _ hf => ?_) (fun _ hf => ?_)
  · refine j_sub [1, 2, 4] rfl ?_
    exact t_X9_edge_117 hdp hk4 k0 hf
  · refine j_iload_n (pc := 100) 2 dX9_edge_100 rfl rfl ?_
    refine j_if_ne (pc := 101) (tgt := 112) dX9_edge_101 (by decide) hf (fun _ hf => ?_) (fun _ hf => ?_)
    · refine j_iload (pc := 112) 0 dX9_edge_112 rfl ?_
      refine j_if_ge (pc := 114) (tgt := 119) dX9_edge_114 (by decide) hf (fun _ hf => ?_) (fun _ hf => ?_)
      · refine j_sub [1, 2, 3, 4] rfl ?_
        exact t_X9_edge_119 hdp hk4 k0 hf
      · refine j_sub [1, 2, 4] rfl ?_
        exact t_X9_edge_117 hdp hk4 k0 hf
    · refine j_iload (pc := 104) 0 dX9_edge_104 rfl ?_
      refine j_if_le (pc := 106) (tgt := 119) dX9_edge_106 (by decide) hf (fun _ hf => ?_) (fun _ hf => ?_)
      · refine j_sub [1, 2, 3, 4] rfl ?_
        exact t_X9_edge_119 hdp hk4 k0 hf
      · refine j_goto (pc := 109) (tgt := 117) dX9_edge_109 (by decide) ?_
        refine j_sub [1, 2, 4] rfl ?_
        exact t_X9_edge_117 hdp hk4 k0 hf
def f_X9_edge_42 (k4 : Nat → Int32 → Int32 → Int32 → Hp → Option (Int32 × Hp)) (a0 : Nat) (x1 : Int32) (x2 : Int32) (x3 : Int32) (h : Hp) : Option (Int32 × Hp) := if x2 = ((-1)) then (f_X9_edge_93 k4 a0 x1 x2 x3 0 h) else ((f_X9_wayNow a0 h).bind (fun q2 => if ix x3 6 = true then (if ix x3 6 = true then (if ix x2 6 = true then (if ix x2 6 = true then ((f_X9_dearer a0 q2.1 (Int32.toInt64 (q2.2.1 (a0 + 13) (Int32.toNatClampNeg x3))) (((q2.2.1 (a0 + 15) (Int32.toNatClampNeg x3)) + 1) - x1) (Int32.toInt64 (q2.2.1 (a0 + 13) (Int32.toNatClampNeg x2))) (((q2.2.1 (a0 + 15) (Int32.toNatClampNeg x2)) + 1) - x1) q2.2).bind (fun q3 => f_X9_edge_93 k4 a0 x1 x2 x3 q3.1 q3.2)) else none) else none) else none) else none))
set_option maxHeartbeats 4000000 in
set_option maxRecDepth 100000 in
theorem t_X9_edge_42 {l : Launch} {D : va_G} {ad : Nat → Nat} {cA : Nat → ClassId} {d : Nat} (hdp : 2 ≤ d) {o : Int32 × Hp} {k4 : Nat → Int32 → Int32 → Int32 → Hp → Option (Int32 × Hp)} (hk4 : ∀ {a0 : Nat} {x1 : Int32} {x2 : Int32} {x3 : Int32} (k0 : kd a0 = 9) {h : Hp}, k4 a0 x1 x2 x3 h = some o → J l D ad cA (fun _ => True) (rmd (d + 1)) (0, 0) (mQ D ad cA (some (.int o.1)) o.2) cX9_edge RX9 5 (some .int) 4 [(0, .ref (ad a0)), (1, .int x1), (2, .int x2), (3, .int x3)] [] h) {a0 : Nat} {x1 : Int32} {x2 : Int32} {x3 : Int32} (k0 : kd a0 = 9) {h : Hp} (hf : f_X9_edge_42 k4 a0 x1 x2 x3 h = some o) : J l D ad cA (fun _ => True) (rmd (d + 1)) (0, 0) (mQ D ad cA (some (.int o.1)) o.2) cX9_edge RX9 5 (some .int) 42 [(0, .ref (ad a0)), (1, .int x1), (2, .int x2), (3, .int x3)] [] h := by
  unfold f_X9_edge_42 at hf
  refine j_iload_n (pc := 42) 2 dX9_edge_42 rfl rfl ?_
  refine j_iconst (pc := 43) dX9_edge_43 (v := -1) (by decide) ?_
  refine j_icmp_ne (pc := 44) (tgt := 51) dX9_edge_44 (by decide) hf (fun _ hf => ?_) (fun _ hf => ?_)
  · refine j_aload_n (pc := 51) 0 dX9_edge_51 rfl rfl ?_
    refine j_aload_n (pc := 52) 0 dX9_edge_52 rfl rfl ?_
    refine j_callVi (pc := 53) (d := d) (As := []) (st := [.ref (ad a0)]) dX9_edge_53 s1079 k0 (by decide) rfl rfl (by decide) (Nat.le_of_ble_eq_true rfl) (fun q hq => t_X9_wayNow k0 hq) hf (fun q2 hf => ?_)
    refine j_aload_n (pc := 56) 0 dX9_edge_56 rfl rfl ?_
    refine j_getR (pc := 57) (n := 13) dX9_edge_57 fl865 k0 (by decide) rfl ?_
    refine j_iload_n (pc := 60) 3 dX9_edge_60 rfl rfl ?_
    refine j_iaload (pc := 61) dX9_edge_61 (lk_9_19 k0) (ll_9_19 k0) hf (fun _ hf => ?_)
    refine j_i2l (pc := 62) dX9_edge_62  ?_
    refine j_aload_n (pc := 63) 0 dX9_edge_63 rfl rfl ?_
    refine j_getR (pc := 64) (n := 15) dX9_edge_64 fl867 k0 (by decide) rfl ?_
    refine j_iload_n (pc := 67) 3 dX9_edge_67 rfl rfl ?_
    refine j_iaload (pc := 68) dX9_edge_68 (lk_9_21 k0) (ll_9_21 k0) hf (fun _ hf => ?_)
    refine j_iconst (pc := 69) dX9_edge_69 (v := 1) (by decide) ?_
    refine j_iadd (pc := 70) dX9_edge_70  ?_
    refine j_iload_n (pc := 71) 1 dX9_edge_71 rfl rfl ?_
    refine j_isub (pc := 72) dX9_edge_72  ?_
    refine j_aload_n (pc := 73) 0 dX9_edge_73 rfl rfl ?_
    refine j_getR (pc := 74) (n := 13) dX9_edge_74 fl865 k0 (by decide) rfl ?_
    refine j_iload_n (pc := 77) 2 dX9_edge_77 rfl rfl ?_
    refine j_iaload (pc := 78) dX9_edge_78 (lk_9_19 k0) (ll_9_19 k0) hf (fun _ hf => ?_)
    refine j_i2l (pc := 79) dX9_edge_79  ?_
    refine j_aload_n (pc := 80) 0 dX9_edge_80 rfl rfl ?_
    refine j_getR (pc := 81) (n := 15) dX9_edge_81 fl867 k0 (by decide) rfl ?_
    refine j_iload_n (pc := 84) 2 dX9_edge_84 rfl rfl ?_
    refine j_iaload (pc := 85) dX9_edge_85 (lk_9_21 k0) (ll_9_21 k0) hf (fun _ hf => ?_)
    refine j_iconst (pc := 86) dX9_edge_86 (v := 1) (by decide) ?_
    refine j_iadd (pc := 87) dX9_edge_87  ?_
    refine j_iload_n (pc := 88) 1 dX9_edge_88 rfl rfl ?_
    refine j_isub (pc := 89) dX9_edge_89  ?_
    refine j_callVi (pc := 90) (d := d) (As := [.int q2.1, .long (Int32.toInt64 (q2.2.1 (a0 + 13) (Int32.toNatClampNeg x3))), .int (((q2.2.1 (a0 + 15) (Int32.toNatClampNeg x3)) + 1) - x1), .long (Int32.toInt64 (q2.2.1 (a0 + 13) (Int32.toNatClampNeg x2))), .int (((q2.2.1 (a0 + 15) (Int32.toNatClampNeg x2)) + 1) - x1)]) (st := []) dX9_edge_90 s1162 k0 (by decide) rfl rfl (by decide) (Nat.le_of_ble_eq_true rfl) (fun q hq => t_X9_dearer (by omega) k0 hq) hf (fun q3 hf => ?_)
    refine j_sub [0, 1, 2, 3] rfl ?_
    exact t_X9_edge_93 hdp hk4 k0 hf
  · refine j_iconst (pc := 47) dX9_edge_47 (v := 0) (by decide) ?_
    refine j_goto (pc := 48) (tgt := 93) dX9_edge_48 (by decide) ?_
    refine j_sub [0, 1, 2, 3] rfl ?_
    exact t_X9_edge_93 hdp hk4 k0 hf
def f_X9_edge_4 (k4 : Nat → Int32 → Int32 → Int32 → Hp → Option (Int32 × Hp)) (a0 : Nat) (x1 : Int32) (x2 : Int32) (x3 : Int32) (h : Hp) : Option (Int32 × Hp) := if 6 ≤ x3 then (some (x2, h)) else (if ix x3 6 = true then (if (h.1 (a0 + 12) (Int32.toNatClampNeg x3)) = 0 then (f_X9_edge_119 k4 a0 x1 x2 x3 h) else (if x1 = 1 then (if ix x3 6 = true then (if ix x3 6 = true then (if (h.1 (a0 + 14) (Int32.toNatClampNeg x3)) < (h.1 (a0 + 15) (Int32.toNatClampNeg x3)) then (f_X9_edge_42 k4 a0 x1 x2 x3 h) else (f_X9_edge_119 k4 a0 x1 x2 x3 h)) else none) else none) else (f_X9_edge_42 k4 a0 x1 x2 x3 h))) else none)
set_option maxHeartbeats 4000000 in
set_option maxRecDepth 100000 in
theorem t_X9_edge_4 {l : Launch} {D : va_G} {ad : Nat → Nat} {cA : Nat → ClassId} {d : Nat} (hdp : 2 ≤ d) {o : Int32 × Hp}  : ∀ (n : Nat) {a0 : Nat} {x1 : Int32} {x2 : Int32} {x3 : Int32} (k0 : kd a0 = 9) {h : Hp}, lp (F := Nat → Int32 → Int32 → Int32 → Hp → Option (Int32 × Hp)) (fun _ _ _ _ _ => none) (f_X9_edge_4) n a0 x1 x2 x3 h = some o → J l D ad cA (fun _ => True) (rmd (d + 1)) (0, 0) (mQ D ad cA (some (.int o.1)) o.2) cX9_edge RX9 5 (some .int) 4 [(0, .ref (ad a0)), (1, .int x1), (2, .int x2), (3, .int x3)] [] h := by
  intro n
  induction n with
  | zero =>
    intro a0 x1 x2 x3 k0 h hf
    have hf : (none : Option (Int32 × Hp)) = some o := hf
    cases hf
  | succ n hk4 =>
    intro a0 x1 x2 x3 k0 h hf
    have hf : f_X9_edge_4  (lp (F := Nat → Int32 → Int32 → Int32 → Hp → Option (Int32 × Hp)) (fun _ _ _ _ _ => none) (f_X9_edge_4) n) a0 x1 x2 x3 h = some o := hf
    unfold f_X9_edge_4 at hf
    refine j_iload_n (pc := 4) 3 dX9_edge_4 rfl rfl ?_
    refine j_bipush (pc := 5) dX9_edge_5 (v := 6) (by decide) ?_
    refine j_icmp_ge (pc := 7) (tgt := 125) dX9_edge_7 (by decide) hf (fun _ hf => ?_) (fun _ hf => ?_)
    · refine j_iload_n (pc := 125) 2 dX9_edge_125 rfl rfl ?_
      exact j_iret (pc := 126) dX9_edge_126 rfl hf
    · refine j_aload_n (pc := 10) 0 dX9_edge_10 rfl rfl ?_
      refine j_getR (pc := 11) (n := 12) dX9_edge_11 fl864 k0 (by decide) rfl ?_
      refine j_iload_n (pc := 14) 3 dX9_edge_14 rfl rfl ?_
      refine j_zaload (pc := 15) dX9_edge_15 (lk_9_18 k0) (ll_9_18 k0) hf (fun _ hf => ?_)
      refine j_if_eq (pc := 16) (tgt := 119) dX9_edge_16 (by decide) hf (fun _ hf => ?_) (fun _ hf => ?_)
      · refine j_sub [0, 1, 2, 3] rfl ?_
        exact t_X9_edge_119 hdp hk4 k0 hf
      · refine j_iload_n (pc := 19) 1 dX9_edge_19 rfl rfl ?_
        refine j_iconst (pc := 20) dX9_edge_20 (v := 1) (by decide) ?_
        refine j_icmp_ne (pc := 21) (tgt := 42) dX9_edge_21 (by decide) hf (fun _ hf => ?_) (fun _ hf => ?_)
        · refine j_sub [0, 1, 2, 3] rfl ?_
          exact t_X9_edge_42 hdp hk4 k0 hf
        · refine j_aload_n (pc := 24) 0 dX9_edge_24 rfl rfl ?_
          refine j_getR (pc := 25) (n := 15) dX9_edge_25 fl867 k0 (by decide) rfl ?_
          refine j_iload_n (pc := 28) 3 dX9_edge_28 rfl rfl ?_
          refine j_iaload (pc := 29) dX9_edge_29 (lk_9_21 k0) (ll_9_21 k0) hf (fun _ hf => ?_)
          refine j_aload_n (pc := 30) 0 dX9_edge_30 rfl rfl ?_
          refine j_getR (pc := 31) (n := 14) dX9_edge_31 fl866 k0 (by decide) rfl ?_
          refine j_iload_n (pc := 34) 3 dX9_edge_34 rfl rfl ?_
          refine j_iaload (pc := 35) dX9_edge_35 (lk_9_20 k0) (ll_9_20 k0) hf (fun _ hf => ?_)
          refine j_icmp_gt (pc := 36) (tgt := 42) dX9_edge_36 (by decide) hf (fun _ hf => ?_) (fun _ hf => ?_)
          · refine j_sub [0, 1, 2, 3] rfl ?_
            exact t_X9_edge_42 hdp hk4 k0 hf
          · refine j_goto (pc := 39) (tgt := 119) dX9_edge_39 (by decide) ?_
            refine j_sub [0, 1, 2, 3] rfl ?_
            exact t_X9_edge_119 hdp hk4 k0 hf
def f_X9_edge (a0 : Nat) (x1 : Int32) (h : Hp) : Option (Int32 × Hp) := lp (F := Nat → Int32 → Int32 → Int32 → Hp → Option (Int32 × Hp)) (fun _ _ _ _ _ => none) (f_X9_edge_4) 1000 a0 x1 ((-1)) 0 h
set_option maxHeartbeats 4000000 in
set_option maxRecDepth 100000 in
theorem t_X9_edge {l : Launch} {D : va_G} {ad : Nat → Nat} {cA : Nat → ClassId} {d : Nat} (hdp : 3 ≤ d) {a0 : Nat} {x1 : Int32} (k0 : kd a0 = 9) {h : Hp} {o : Int32 × Hp} (hf : f_X9_edge a0 x1 h = some o) : Cr l D ad cA d yX9_edge cX9_edge 5 (some .int) [.ref (ad a0), .int x1] h (some (.int o.1)) o.2 := by
  obtain ⟨d, rfl⟩ : ∃ e, d = e + 1 := ⟨d - 1, by omega⟩
  have hdp : 2 ≤ d := by omega
  unfold f_X9_edge at hf
  refine Cr_of (by decide +kernel) rfl (Nat.le_of_ble_eq_true rfl) (lv0 := [(0, .ref (ad a0)), (1, .int x1)]) rfl ?_
  refine j_iconst (pc := 0) dX9_edge_0 (v := -1) (by decide) ?_
  refine j_istore_n (pc := 1) (lv' := [(2, .int ((-1))), (0, .ref (ad a0)), (1, .int x1)]) dX9_edge_1 rfl (by decide) rfl ?_
  refine j_iconst (pc := 2) dX9_edge_2 (v := 0) (by decide) ?_
  refine j_istore_n (pc := 3) (lv' := [(3, .int 0), (2, .int ((-1))), (0, .ref (ad a0)), (1, .int x1)]) dX9_edge_3 rfl (by decide) rfl ?_
  refine j_sub [2, 3, 1, 0] rfl ?_
  exact t_X9_edge_4 hdp  1000 k0 hf
def f_X9_findsParties_91 (fr : Nat → Nat → Int32 → Hp → Option (Int32 × Hp)) (k31 : Nat → Nat → Int32 → Int32 → Hp → Option (Int32 × Hp)) (a0 : Nat) (a1 : Nat) (x2 : Int32) (x3 : Int32) (h : Hp) : Option (Int32 × Hp) := lt (x3 + 1) (fun v6 => k31 a0 a1 x2 v6 h)
set_option maxHeartbeats 4000000 in
set_option maxRecDepth 100000 in
theorem t_X9_findsParties_91 {l : Launch} {D : va_G} {ad : Nat → Nat} {cA : Nat → ClassId} {d : Nat} (hdp : 2 ≤ d) {o : Int32 × Hp} {fr : Nat → Nat → Int32 → Hp → Option (Int32 × Hp)} (hfr : ∀ {a0 : Nat} {a1 : Nat} {x2 : Int32} (k0 : kd a0 = 9) (k1 : kd a1 = 10) {h : Hp} {o : Int32 × Hp}, fr a0 a1 x2 h = some o → Cr l D ad cA d yX9_findsParties cX9_findsParties 4 (some .boolean) [.ref (ad a0), .ref (ad a1), .int x2] h (some (.int o.1)) o.2) {k31 : Nat → Nat → Int32 → Int32 → Hp → Option (Int32 × Hp)} (hk31 : ∀ {a0 : Nat} {a1 : Nat} {x2 : Int32} {x3 : Int32} (k0 : kd a0 = 9) (k1 : kd a1 = 10) {h : Hp}, k31 a0 a1 x2 x3 h = some o → J l D ad cA (fun _ => True) (rmd (d + 1)) (0, 0) (mQ D ad cA (some (.int o.1)) o.2) cX9_findsParties RX9 4 (some .boolean) 31 [(0, .ref (ad a0)), (1, .ref (ad a1)), (2, .int x2), (3, .int x3)] [] h) {a0 : Nat} {a1 : Nat} {x2 : Int32} {x3 : Int32} (k0 : kd a0 = 9) (k1 : kd a1 = 10) {h : Hp} (hf : f_X9_findsParties_91 fr k31 a0 a1 x2 x3 h = some o) : J l D ad cA (fun _ => True) (rmd (d + 1)) (0, 0) (mQ D ad cA (some (.int o.1)) o.2) cX9_findsParties RX9 4 (some .boolean) 91 [(0, .ref (ad a0)), (1, .ref (ad a1)), (2, .int x2), (3, .int x3)] [] h := by
  unfold f_X9_findsParties_91 at hf
  refine j_iinc (pc := 91) 3 (c := 1) (lv' := fun v6 => [(3, .int v6), (0, .ref (ad a0)), (1, .ref (ad a1)), (2, .int x2)]) dX9_findsParties_91 rfl (by decide) (by decide) (fun _ => rfl) hf (fun v6 hf => ?_)
  refine j_goto (pc := 94) (tgt := 31) dX9_findsParties_94 (by decide) ?_
  refine j_sub [1, 2, 3, 0] rfl ?_
  exact hk31 k0 k1 hf
def f_X9_findsParties_31 (fr : Nat → Nat → Int32 → Hp → Option (Int32 × Hp)) (k31 : Nat → Nat → Int32 → Int32 → Hp → Option (Int32 × Hp)) (a0 : Nat) (a1 : Nat) (x2 : Int32) (x3 : Int32) (h : Hp) : Option (Int32 × Hp) := if (h.1 a0 32) ≤ x3 then (if isB 0 = true then some (0, h) else none) else (if ix x3 6 = true then ((f_X9_isRingParty a0 x2 (h.1 (a0 + 21) (Int32.toNatClampNeg x3)) h).bind (fun q2 => if q2.1 = 0 then (if ix x3 6 = true then (if ix x2 4 = true then (lt (sI q2.2 (a0 + 25) (Int32.toNatClampNeg x2) (q2.2.1 (a0 + 21) (Int32.toNatClampNeg x3))) (fun m3 => (f_X9_givesUp a0 x2 m3).bind (fun q4 => if ix q4.1 (ln a1) = true then (if (q4.2.1 a1 (Int32.toNatClampNeg q4.1)) ≤ 0 then (f_X9_findsParties_91 fr k31 a0 a1 x2 x3 q4.2) else ((fr a0 a1 (x2 + 1) q4.2).bind (fun q5 => if q5.1 = 0 then (f_X9_findsParties_91 fr k31 a0 a1 x2 x3 q5.2) else (if isB 1 = true then some (1, q5.2) else none)))) else none))) else none) else none) else (f_X9_findsParties_91 fr k31 a0 a1 x2 x3 q2.2))) else none)
set_option maxHeartbeats 4000000 in
set_option maxRecDepth 100000 in
theorem t_X9_findsParties_31 {l : Launch} {D : va_G} {ad : Nat → Nat} {cA : Nat → ClassId} {d : Nat} (hdp : 2 ≤ d) {o : Int32 × Hp} {fr : Nat → Nat → Int32 → Hp → Option (Int32 × Hp)} (hfr : ∀ {a0 : Nat} {a1 : Nat} {x2 : Int32} (k0 : kd a0 = 9) (k1 : kd a1 = 10) {h : Hp} {o : Int32 × Hp}, fr a0 a1 x2 h = some o → Cr l D ad cA d yX9_findsParties cX9_findsParties 4 (some .boolean) [.ref (ad a0), .ref (ad a1), .int x2] h (some (.int o.1)) o.2)  : ∀ (n : Nat) {a0 : Nat} {a1 : Nat} {x2 : Int32} {x3 : Int32} (k0 : kd a0 = 9) (k1 : kd a1 = 10) {h : Hp}, lp (F := Nat → Nat → Int32 → Int32 → Hp → Option (Int32 × Hp)) (fun _ _ _ _ _ => none) (f_X9_findsParties_31 fr) n a0 a1 x2 x3 h = some o → J l D ad cA (fun _ => True) (rmd (d + 1)) (0, 0) (mQ D ad cA (some (.int o.1)) o.2) cX9_findsParties RX9 4 (some .boolean) 31 [(0, .ref (ad a0)), (1, .ref (ad a1)), (2, .int x2), (3, .int x3)] [] h := by
  intro n
  induction n with
  | zero =>
    intro a0 a1 x2 x3 k0 k1 h hf
    have hf : (none : Option (Int32 × Hp)) = some o := hf
    cases hf
  | succ n hk31 =>
    intro a0 a1 x2 x3 k0 k1 h hf
    have hf : f_X9_findsParties_31 fr  (lp (F := Nat → Nat → Int32 → Int32 → Hp → Option (Int32 × Hp)) (fun _ _ _ _ _ => none) (f_X9_findsParties_31 fr) n) a0 a1 x2 x3 h = some o := hf
    unfold f_X9_findsParties_31 at hf
    refine j_iload_n (pc := 31) 3 dX9_findsParties_31 rfl rfl ?_
    refine j_aload_n (pc := 32) 0 dX9_findsParties_32 rfl rfl ?_
    refine j_getI (pc := 33) dX9_findsParties_33 fl878 k0 (by decide) rfl ?_
    refine j_icmp_ge (pc := 36) (tgt := 97) dX9_findsParties_36 (by decide) hf (fun _ hf => ?_) (fun _ hf => ?_)
    · refine j_iconst (pc := 97) dX9_findsParties_97 (v := 0) (by decide) ?_
      exact j_zret (pc := 98) dX9_findsParties_98 rfl hf
    · refine j_aload_n (pc := 39) 0 dX9_findsParties_39 rfl rfl ?_
      refine j_iload_n (pc := 40) 2 dX9_findsParties_40 rfl rfl ?_
      refine j_aload_n (pc := 41) 0 dX9_findsParties_41 rfl rfl ?_
      refine j_getR (pc := 42) (n := 21) dX9_findsParties_42 fl876 k0 (by decide) rfl ?_
      refine j_iload_n (pc := 45) 3 dX9_findsParties_45 rfl rfl ?_
      refine j_iaload (pc := 46) dX9_findsParties_46 (lk_9_30 k0) (ll_9_30 k0) hf (fun _ hf => ?_)
      refine j_callVi (pc := 47) (d := d) (As := [.int x2, .int (h.1 (a0 + 21) (Int32.toNatClampNeg x3))]) (st := []) dX9_findsParties_47 s1317 k0 (by decide) rfl rfl (by decide) (Nat.le_of_ble_eq_true rfl) (fun q hq => t_X9_isRingParty k0 hq) hf (fun q2 hf => ?_)
      refine j_if_eq (pc := 50) (tgt := 56) dX9_findsParties_50 (by decide) hf (fun _ hf => ?_) (fun _ hf => ?_)
      · refine j_aload_n (pc := 56) 0 dX9_findsParties_56 rfl rfl ?_
        refine j_getR (pc := 57) (n := 25) dX9_findsParties_57 fl883 k0 (by decide) rfl ?_
        refine j_iload_n (pc := 60) 2 dX9_findsParties_60 rfl rfl ?_
        refine j_aload_n (pc := 61) 0 dX9_findsParties_61 rfl rfl ?_
        refine j_getR (pc := 62) (n := 21) dX9_findsParties_62 fl876 k0 (by decide) rfl ?_
        refine j_iload_n (pc := 65) 3 dX9_findsParties_65 rfl rfl ?_
        refine j_iaload (pc := 66) dX9_findsParties_66 (lk_9_30 k0) (ll_9_30 k0) hf (fun _ hf => ?_)
        refine j_iastore (pc := 67) dX9_findsParties_67 (lk_9_37 k0) (ll_9_37 k0) hf (fun m3 hf => ?_)
        refine j_aload_n (pc := 68) 1 dX9_findsParties_68 rfl rfl ?_
        refine j_aload_n (pc := 69) 0 dX9_findsParties_69 rfl rfl ?_
        refine j_iload_n (pc := 70) 2 dX9_findsParties_70 rfl rfl ?_
        refine j_callVi (pc := 71) (d := d) (As := [.int x2]) (st := [.ref (ad a1)]) dX9_findsParties_71 s1308 k0 (by decide) rfl rfl (by decide) (Nat.le_of_ble_eq_true rfl) (fun q hq => t_X9_givesUp k0 hq) hf (fun q4 hf => ?_)
        refine j_iaload (pc := 74) dX9_findsParties_74 k1 rfl hf (fun _ hf => ?_)
        refine j_if_le (pc := 75) (tgt := 91) dX9_findsParties_75 (by decide) hf (fun _ hf => ?_) (fun _ hf => ?_)
        · refine j_sub [0, 1, 2, 3] rfl ?_
          exact t_X9_findsParties_91 hdp hfr hk31 k0 k1 hf
        · refine j_aload_n (pc := 78) 0 dX9_findsParties_78 rfl rfl ?_
          refine j_aload_n (pc := 79) 1 dX9_findsParties_79 rfl rfl ?_
          refine j_iload_n (pc := 80) 2 dX9_findsParties_80 rfl rfl ?_
          refine j_iconst (pc := 81) dX9_findsParties_81 (v := 1) (by decide) ?_
          refine j_iadd (pc := 82) dX9_findsParties_82  ?_
          refine j_callVi (pc := 83) (d := d) (As := [.ref (ad a1), .int (x2 + 1)]) (st := []) dX9_findsParties_83 s1292 k0 (by decide) rfl rfl (by decide) (Nat.le_of_ble_eq_true rfl) (fun q hq => hfr k0 k1 hq) hf (fun q5 hf => ?_)
          refine j_if_eq (pc := 86) (tgt := 91) dX9_findsParties_86 (by decide) hf (fun _ hf => ?_) (fun _ hf => ?_)
          · refine j_sub [0, 1, 2, 3] rfl ?_
            exact t_X9_findsParties_91 hdp hfr hk31 k0 k1 hf
          · refine j_iconst (pc := 89) dX9_findsParties_89 (v := 1) (by decide) ?_
            exact j_zret (pc := 90) dX9_findsParties_90 rfl hf
      · refine j_goto (pc := 53) (tgt := 91) dX9_findsParties_53 (by decide) ?_
        refine j_sub [0, 1, 2, 3] rfl ?_
        exact t_X9_findsParties_91 hdp hfr hk31 k0 k1 hf
def f_X9_findsParties_23 (fr : Nat → Nat → Int32 → Hp → Option (Int32 × Hp))   (h : Hp) : Option (Int32 × Hp) := if isB 1 = true then some (1, h) else none
set_option maxHeartbeats 4000000 in
set_option maxRecDepth 100000 in
theorem t_X9_findsParties_23 {l : Launch} {D : va_G} {ad : Nat → Nat} {cA : Nat → ClassId} {d : Nat} (hdp : 2 ≤ d) {o : Int32 × Hp} {fr : Nat → Nat → Int32 → Hp → Option (Int32 × Hp)} (hfr : ∀ {a0 : Nat} {a1 : Nat} {x2 : Int32} (k0 : kd a0 = 9) (k1 : kd a1 = 10) {h : Hp} {o : Int32 × Hp}, fr a0 a1 x2 h = some o → Cr l D ad cA d yX9_findsParties cX9_findsParties 4 (some .boolean) [.ref (ad a0), .ref (ad a1), .int x2] h (some (.int o.1)) o.2)    {h : Hp} (hf : f_X9_findsParties_23 fr   h = some o) : J l D ad cA (fun _ => True) (rmd (d + 1)) (0, 0) (mQ D ad cA (some (.int o.1)) o.2) cX9_findsParties RX9 4 (some .boolean) 23 [] [] h := by
  unfold f_X9_findsParties_23 at hf
  refine j_iconst (pc := 23) dX9_findsParties_23 (v := 1) (by decide) ?_
  refine j_goto (pc := 24) (tgt := 28) dX9_findsParties_24 (by decide) ?_
  exact j_zret (pc := 28) dX9_findsParties_28 rfl hf
def f_X9_findsParties_0 (fr : Nat → Nat → Int32 → Hp → Option (Int32 × Hp)) (a0 : Nat) (a1 : Nat) (x2 : Int32) (h : Hp) : Option (Int32 × Hp) := if x2 = (h.1 a0 35) then ((f_X9_isBetter a0 a1 h).bind (fun q1 => if q1.1 = 0 then (if (q1.2.1 a0 38) = 0 then (if isB 0 = true then some (0, q1.2) else none) else (f_X9_findsParties_23 fr   q1.2)) else (f_X9_findsParties_23 fr   q1.2))) else (lp (F := Nat → Nat → Int32 → Int32 → Hp → Option (Int32 × Hp)) (fun _ _ _ _ _ => none) (f_X9_findsParties_31 fr) 1000 a0 a1 x2 0 h)
abbrev f_X9_findsParties (n : Nat) : Nat → Nat → Int32 → Hp → Option (Int32 × Hp) := lp (F := Nat → Nat → Int32 → Hp → Option (Int32 × Hp)) (fun _ _ _ _ => none) f_X9_findsParties_0 n
set_option maxHeartbeats 4000000 in
set_option maxRecDepth 100000 in
theorem t_X9_findsParties {l : Launch} {D : va_G} {ad : Nat → Nat} {cA : Nat → ClassId} : ∀ (n : Nat) {d : Nat} (hdp : 3 + n ≤ d) {a0 : Nat} {a1 : Nat} {x2 : Int32} (k0 : kd a0 = 9) (k1 : kd a1 = 10) {h : Hp} {o : Int32 × Hp}, f_X9_findsParties n a0 a1 x2 h = some o → Cr l D ad cA d yX9_findsParties cX9_findsParties 4 (some .boolean) [.ref (ad a0), .ref (ad a1), .int x2] h (some (.int o.1)) o.2 := by
  intro n
  induction n with
  | zero =>
    intro d hdp a0 a1 x2 k0 k1 h o hf
    have hf : (none : Option (Int32 × Hp)) = some o := hf
    cases hf
  | succ n hfr0 =>
    intro d hdp a0 a1 x2 k0 k1 h o hf
    have hf : f_X9_findsParties_0 (f_X9_findsParties n) a0 a1 x2 h = some o := hf
    obtain ⟨d, rfl⟩ : ∃ e, d = e + 1 := ⟨d - 1, by omega⟩
    have hfr : ∀ {a0 : Nat} {a1 : Nat} {x2 : Int32} (k0 : kd a0 = 9) (k1 : kd a1 = 10) {h : Hp} {o : Int32 × Hp}, f_X9_findsParties n a0 a1 x2 h = some o → Cr l D ad cA d yX9_findsParties cX9_findsParties 4 (some .boolean) [.ref (ad a0), .ref (ad a1), .int x2] h (some (.int o.1)) o.2 := hfr0 (by omega)
    have hdp : 2 ≤ d := by omega
    unfold f_X9_findsParties_0 at hf
    refine Cr_of (by decide +kernel) rfl (Nat.le_of_ble_eq_true rfl) (lv0 := [(0, .ref (ad a0)), (1, .ref (ad a1)), (2, .int x2)]) rfl ?_
    refine j_iload_n (pc := 0) 2 dX9_findsParties_0 rfl rfl ?_
    refine j_aload_n (pc := 1) 0 dX9_findsParties_1 rfl rfl ?_
    refine j_getI (pc := 2) dX9_findsParties_2 fl881 k0 (by decide) rfl ?_
    refine j_icmp_ne (pc := 5) (tgt := 29) dX9_findsParties_5 (by decide) hf (fun _ hf => ?_) (fun _ hf => ?_)
    · refine j_iconst (pc := 29) dX9_findsParties_29 (v := 0) (by decide) ?_
      refine j_istore_n (pc := 30) (lv' := [(3, .int 0), (0, .ref (ad a0)), (1, .ref (ad a1)), (2, .int x2)]) dX9_findsParties_30 rfl (by decide) rfl ?_
      refine j_sub [1, 2, 3, 0] rfl ?_
      exact t_X9_findsParties_31 hdp hfr  1000 k0 k1 hf
    · refine j_aload_n (pc := 8) 0 dX9_findsParties_8 rfl rfl ?_
      refine j_aload_n (pc := 9) 1 dX9_findsParties_9 rfl rfl ?_
      refine j_callVi (pc := 10) (d := d) (As := [.ref (ad a1)]) (st := []) dX9_findsParties_10 s1296 k0 (by decide) rfl rfl (by decide) (Nat.le_of_ble_eq_true rfl) (fun q hq => t_X9_isBetter (by omega) k0 k1 hq) hf (fun q1 hf => ?_)
      refine j_if_ne (pc := 13) (tgt := 23) dX9_findsParties_13 (by decide) hf (fun _ hf => ?_) (fun _ hf => ?_)
      · refine j_sub [] rfl ?_
        exact t_X9_findsParties_23 hdp hfr   hf
      · refine j_aload_n (pc := 16) 0 dX9_findsParties_16 rfl rfl ?_
        refine j_getI (pc := 17) dX9_findsParties_17 fl884 k0 (by decide) rfl ?_
        refine j_if_eq (pc := 20) (tgt := 27) dX9_findsParties_20 (by decide) hf (fun _ hf => ?_) (fun _ hf => ?_)
        · refine j_iconst (pc := 27) dX9_findsParties_27 (v := 0) (by decide) ?_
          exact j_zret (pc := 28) dX9_findsParties_28 rfl hf
        · refine j_sub [] rfl ?_
          exact t_X9_findsParties_23 hdp hfr   hf
def f_X9_image (a0 : Nat) (h : Hp) : Option (Int32 × Hp) := lt (rI h (a0 + 2) (va_cpy (h.1 (a0 + 1)) (h.1 (a0 + 2)) (Int32.toNatClampNeg 0) (Int32.toNatClampNeg 0) (Int32.toNatClampNeg 44))) (fun m1 => lt (sI m1 a0 2 1) (fun m2 => (f_X9_all a0 m2).bind (fun q3 => some (q3.1, q3.2))))
set_option maxHeartbeats 4000000 in
set_option maxRecDepth 100000 in
theorem t_X9_image {l : Launch} {D : va_G} {ad : Nat → Nat} {cA : Nat → ClassId} {d : Nat} (hdp : 3 ≤ d) {a0 : Nat} (k0 : kd a0 = 9) {h : Hp} {o : Int32 × Hp} (hf : f_X9_image a0 h = some o) : Cr l D ad cA d yX9_image cX9_image 1 (some .int) [.ref (ad a0)] h (some (.int o.1)) o.2 := by
  obtain ⟨d, rfl⟩ : ∃ e, d = e + 1 := ⟨d - 1, by omega⟩
  have hdp : 2 ≤ d := by omega
  unfold f_X9_image at hf
  refine Cr_of (by decide +kernel) rfl (Nat.le_of_ble_eq_true rfl) (lv0 := [(0, .ref (ad a0))]) rfl ?_
  refine j_aload_n (pc := 0) 0 dX9_image_0 rfl rfl ?_
  refine j_getR (pc := 1) (n := 1) dX9_image_1 fl846 k0 (by decide) rfl ?_
  refine j_iconst (pc := 4) dX9_image_4 (v := 0) (by decide) ?_
  refine j_aload_n (pc := 5) 0 dX9_image_5 rfl rfl ?_
  refine j_getR (pc := 6) (n := 2) dX9_image_6 fl847 k0 (by decide) rfl ?_
  refine j_iconst (pc := 9) dX9_image_9 (v := 0) (by decide) ?_
  refine j_bipush (pc := 10) dX9_image_10 (v := 44) (by decide) ?_
  refine j_copy (pc := 12) dX9_image_12 w_1390 w_nat w_st w_in (lk_9_0 k0) (lk_9_1 k0) (ll_9_0 k0) (ll_9_1 k0) (by decide) (by decide) (by decide) (by decide) (by decide) (Nat.le_of_ble_eq_true rfl) hf (fun m1 hf => ?_)
  refine j_aload_n (pc := 15) 0 dX9_image_15 rfl rfl ?_
  refine j_iconst (pc := 16) dX9_image_16 (v := 1) (by decide) ?_
  refine j_putZ (pc := 17) dX9_image_17 fl848 fp9_2 k0 (by decide) rfl (by decide) hf (fun m2 hf => ?_)
  refine j_aload_n (pc := 20) 0 dX9_image_20 rfl rfl ?_
  refine j_callVi (pc := 21) (d := d) (As := []) (st := []) dX9_image_21 s998 k0 (by decide) rfl rfl (by decide) (Nat.le_of_ble_eq_true rfl) (fun q hq => t_X9_all (by omega) k0 hq) hf (fun q3 hf => ?_)
  exact j_iret (pc := 24) dX9_image_24 rfl hf
def f_X9_isIn (a0 : Nat) (x1 : Int32) (h : Hp) : Option (Int32 × Hp) := (f_X9_total a0 x1 h).bind (fun q1 => lt (Int32.toInt64 q1.1) (fun v2 => if (lg_cmp v2 0) ≤ 0 then (if isB 0 = true then some (0, q1.2) else none) else (if ix 40 44 = true then ((f_X9_all a0 q1.2).bind (fun q3 => if (lg_cmp (1000 * v2) ((Int32.toInt64 (q1.2.1 (a0 + 1) (Int32.toNatClampNeg 40))) * (Int32.toInt64 q3.1))) < 0 then (if isB 0 = true then some (0, q3.2) else none) else (if isB 1 = true then some (1, q3.2) else none))) else none)))
set_option maxHeartbeats 4000000 in
set_option maxRecDepth 100000 in
theorem t_X9_isIn {l : Launch} {D : va_G} {ad : Nat → Nat} {cA : Nat → ClassId} {d : Nat} (hdp : 3 ≤ d) {a0 : Nat} {x1 : Int32} (k0 : kd a0 = 9) {h : Hp} {o : Int32 × Hp} (hf : f_X9_isIn a0 x1 h = some o) : Cr l D ad cA d yX9_isIn cX9_isIn 4 (some .boolean) [.ref (ad a0), .int x1] h (some (.int o.1)) o.2 := by
  obtain ⟨d, rfl⟩ : ∃ e, d = e + 1 := ⟨d - 1, by omega⟩
  have hdp : 2 ≤ d := by omega
  unfold f_X9_isIn at hf
  refine Cr_of (by decide +kernel) rfl (Nat.le_of_ble_eq_true rfl) (lv0 := [(0, .ref (ad a0)), (1, .int x1)]) rfl ?_
  refine j_aload_n (pc := 0) 0 dX9_isIn_0 rfl rfl ?_
  refine j_iload_n (pc := 1) 1 dX9_isIn_1 rfl rfl ?_
  refine j_callVi (pc := 2) (d := d) (As := [.int x1]) (st := []) dX9_isIn_2 s1010 k0 (by decide) rfl rfl (by decide) (Nat.le_of_ble_eq_true rfl) (fun q hq => t_X9_total (by omega) k0 hq) hf (fun q1 hf => ?_)
  refine j_i2l (pc := 5) dX9_isIn_5  ?_
  refine j_lstore_nN (pc := 6) (lv' := fun v2 => [(2, .long v2), (0, .ref (ad a0)), (1, .int x1)]) dX9_isIn_6 rfl (by decide) (fun _ => rfl) hf (fun v2 hf => ?_)
  refine j_lload_n (pc := 7) 0 dX9_isIn_7 rfl rfl ?_
  refine j_lconst (pc := 8) dX9_isIn_8 (v := 0) rfl ?_
  refine j_lcmp (pc := 9) dX9_isIn_9  ?_
  refine j_if_le (pc := 10) (tgt := 40) dX9_isIn_10 (by decide) hf (fun _ hf => ?_) (fun _ hf => ?_)
  · refine j_iconst (pc := 40) dX9_isIn_40 (v := 0) (by decide) ?_
    exact j_zret (pc := 41) dX9_isIn_41 rfl hf
  · refine j_ldc2_w (pc := 13) dX9_isIn_13 (v := 1000) w_c1110 ?_
    refine j_lload_n (pc := 16) 0 dX9_isIn_16 rfl rfl ?_
    refine j_lmul (pc := 17) dX9_isIn_17  ?_
    refine j_aload_n (pc := 18) 1 dX9_isIn_18 rfl rfl ?_
    refine j_getR (pc := 19) (n := 1) dX9_isIn_19 fl846 k0 (by decide) rfl ?_
    refine j_bipush (pc := 22) dX9_isIn_22 (v := 40) (by decide) ?_
    refine j_iaload (pc := 24) dX9_isIn_24 (lk_9_0 k0) (ll_9_0 k0) hf (fun _ hf => ?_)
    refine j_i2l (pc := 25) dX9_isIn_25  ?_
    refine j_aload_n (pc := 26) 1 dX9_isIn_26 rfl rfl ?_
    refine j_callVi (pc := 27) (d := d) (As := []) (st := [.long (Int32.toInt64 (q1.2.1 (a0 + 1) (Int32.toNatClampNeg 40))), .long (1000 * v2)]) dX9_isIn_27 s998 k0 (by decide) rfl rfl (by decide) (Nat.le_of_ble_eq_true rfl) (fun q hq => t_X9_all (by omega) k0 hq) hf (fun q3 hf => ?_)
    refine j_i2l (pc := 30) dX9_isIn_30  ?_
    refine j_lmul (pc := 31) dX9_isIn_31  ?_
    refine j_lcmp (pc := 32) dX9_isIn_32  ?_
    refine j_if_lt (pc := 33) (tgt := 40) dX9_isIn_33 (by decide) hf (fun _ hf => ?_) (fun _ hf => ?_)
    · refine j_iconst (pc := 40) dX9_isIn_40 (v := 0) (by decide) ?_
      exact j_zret (pc := 41) dX9_isIn_41 rfl hf
    · refine j_iconst (pc := 36) dX9_isIn_36 (v := 1) (by decide) ?_
      refine j_goto (pc := 37) (tgt := 41) dX9_isIn_37 (by decide) ?_
      exact j_zret (pc := 41) dX9_isIn_41 rfl hf
def f_X9_readsAll_165 (k36 : Nat → Int32 → Int32 → Int32 → Hp → Option (Int32 × Hp)) (a0 : Nat) (x2 : Int32) (x3 : Int32) (y0 : Int32) (h : Hp) : Option (Int32 × Hp) := lt (sI h a0 7 ((h.1 a0 7) + 1)) (fun m8 => k36 a0 x2 x3 y0 m8)
set_option maxHeartbeats 4000000 in
set_option maxRecDepth 100000 in
theorem t_X9_readsAll_165 {l : Launch} {D : va_G} {ad : Nat → Nat} {cA : Nat → ClassId} {d : Nat} (hdp : 2 ≤ d) {o : Int32 × Hp} {k36 : Nat → Int32 → Int32 → Int32 → Hp → Option (Int32 × Hp)} (hk36 : ∀ {a0 : Nat} {x2 : Int32} {x3 : Int32} {x4 : Int32} (k0 : kd a0 = 9) {h : Hp}, k36 a0 x2 x3 x4 h = some o → J l D ad cA (fun _ => True) (rmd (d + 1)) (0, 0) (mQ D ad cA (some (.int o.1)) o.2) cX9_readsAll RX9 7 (some .int) 36 [(0, .ref (ad a0)), (2, .int x2), (3, .int x3), (4, .int x4)] [] h) {a0 : Nat} {x2 : Int32} {x3 : Int32} {y0 : Int32} (k0 : kd a0 = 9) {h : Hp} (hf : f_X9_readsAll_165 k36 a0 x2 x3 y0 h = some o) : J l D ad cA (fun _ => True) (rmd (d + 1)) (0, 0) (mQ D ad cA (some (.int o.1)) o.2) cX9_readsAll RX9 7 (some .int) 165 [(0, .ref (ad a0)), (2, .int x2), (3, .int x3)] [.int y0] h := by
  unfold f_X9_readsAll_165 at hf
  refine j_istore (pc := 165) (lv' := [(4, .int y0), (0, .ref (ad a0)), (2, .int x2), (3, .int x3)]) dX9_readsAll_165 (by decide) rfl ?_
  refine j_aload_n (pc := 167) 1 dX9_readsAll_167 rfl rfl ?_
  refine j_dup (pc := 168) dX9_readsAll_168 rfl ?_
  refine j_getI (pc := 169) dX9_readsAll_169 fl853 k0 (by decide) rfl ?_
  refine j_iconst (pc := 172) dX9_readsAll_172 (v := 1) (by decide) ?_
  refine j_iadd (pc := 173) dX9_readsAll_173  ?_
  refine j_putI (pc := 174) dX9_readsAll_174 fl853 fp9_7 k0 (by decide) rfl hf (fun m8 hf => ?_)
  refine j_goto (pc := 177) (tgt := 36) dX9_readsAll_177 (by decide) ?_
  refine j_sub [1, 2, 3, 0] rfl ?_
  exact hk36 k0 hf
def f_X9_readsAll_150 (k36 : Nat → Int32 → Int32 → Int32 → Hp → Option (Int32 × Hp)) (a0 : Nat) (x2 : Int32) (x4 : Int32) (x6 : Int32) (y0 : Int32) (y1 : Int32) (h : Hp) : Option (Int32 × Hp) := lt (y1 + y0) (fun v7 => if x6 = 0 then (f_X9_readsAll_165 k36 a0 x2 v7 (x4 + 1) h) else (f_X9_readsAll_165 k36 a0 x2 v7 0 h))
set_option maxHeartbeats 4000000 in
set_option maxRecDepth 100000 in
theorem t_X9_readsAll_150 {l : Launch} {D : va_G} {ad : Nat → Nat} {cA : Nat → ClassId} {d : Nat} (hdp : 2 ≤ d) {o : Int32 × Hp} {k36 : Nat → Int32 → Int32 → Int32 → Hp → Option (Int32 × Hp)} (hk36 : ∀ {a0 : Nat} {x2 : Int32} {x3 : Int32} {x4 : Int32} (k0 : kd a0 = 9) {h : Hp}, k36 a0 x2 x3 x4 h = some o → J l D ad cA (fun _ => True) (rmd (d + 1)) (0, 0) (mQ D ad cA (some (.int o.1)) o.2) cX9_readsAll RX9 7 (some .int) 36 [(0, .ref (ad a0)), (2, .int x2), (3, .int x3), (4, .int x4)] [] h) {a0 : Nat} {x2 : Int32} {x4 : Int32} {x6 : Int32} {y0 : Int32} {y1 : Int32} (k0 : kd a0 = 9) {h : Hp} (hf : f_X9_readsAll_150 k36 a0 x2 x4 x6 y0 y1 h = some o) : J l D ad cA (fun _ => True) (rmd (d + 1)) (0, 0) (mQ D ad cA (some (.int o.1)) o.2) cX9_readsAll RX9 7 (some .int) 150 [(0, .ref (ad a0)), (2, .int x2), (4, .int x4), (6, .int x6)] [.int y0, .int y1] h := by
  unfold f_X9_readsAll_150 at hf
  refine j_iadd (pc := 150) dX9_readsAll_150  ?_
  refine j_istore_nN (pc := 151) (lv' := fun v7 => [(3, .int v7), (0, .ref (ad a0)), (2, .int x2), (4, .int x4), (6, .int x6)]) dX9_readsAll_151 rfl (by decide) (fun _ => rfl) hf (fun v7 hf => ?_)
  refine j_iload (pc := 152) 4 dX9_readsAll_152 rfl ?_
  refine j_if_eq (pc := 154) (tgt := 161) dX9_readsAll_154 (by decide) hf (fun _ hf => ?_) (fun _ hf => ?_)
  · refine j_iload (pc := 161) 3 dX9_readsAll_161 rfl ?_
    refine j_iconst (pc := 163) dX9_readsAll_163 (v := 1) (by decide) ?_
    refine j_iadd (pc := 164) dX9_readsAll_164  ?_
    refine j_sub [1, 2, 0] rfl ?_
    exact t_X9_readsAll_165 hdp hk36 k0 hf
  · refine j_iconst (pc := 157) dX9_readsAll_157 (v := 0) (by decide) ?_
    refine j_goto (pc := 158) (tgt := 165) dX9_readsAll_158 (by decide) ?_
    refine j_sub [1, 2, 0] rfl ?_
    exact t_X9_readsAll_165 hdp hk36 k0 hf
def f_X9_readsAll_139 (k36 : Nat → Int32 → Int32 → Int32 → Hp → Option (Int32 × Hp)) (a0 : Nat) (x2 : Int32) (x3 : Int32) (x4 : Int32) (x6 : Int32) (h : Hp) : Option (Int32 × Hp) := if x6 = 0 then (f_X9_readsAll_150 k36 a0 x2 x4 x6 0 x3 h) else (f_X9_readsAll_150 k36 a0 x2 x4 x6 1 x3 h)
set_option maxHeartbeats 4000000 in
set_option maxRecDepth 100000 in
theorem t_X9_readsAll_139 {l : Launch} {D : va_G} {ad : Nat → Nat} {cA : Nat → ClassId} {d : Nat} (hdp : 2 ≤ d) {o : Int32 × Hp} {k36 : Nat → Int32 → Int32 → Int32 → Hp → Option (Int32 × Hp)} (hk36 : ∀ {a0 : Nat} {x2 : Int32} {x3 : Int32} {x4 : Int32} (k0 : kd a0 = 9) {h : Hp}, k36 a0 x2 x3 x4 h = some o → J l D ad cA (fun _ => True) (rmd (d + 1)) (0, 0) (mQ D ad cA (some (.int o.1)) o.2) cX9_readsAll RX9 7 (some .int) 36 [(0, .ref (ad a0)), (2, .int x2), (3, .int x3), (4, .int x4)] [] h) {a0 : Nat} {x2 : Int32} {x3 : Int32} {x4 : Int32} {x6 : Int32} (k0 : kd a0 = 9) {h : Hp} (hf : f_X9_readsAll_139 k36 a0 x2 x3 x4 x6 h = some o) : J l D ad cA (fun _ => True) (rmd (d + 1)) (0, 0) (mQ D ad cA (some (.int o.1)) o.2) cX9_readsAll RX9 7 (some .int) 139 [(0, .ref (ad a0)), (2, .int x2), (3, .int x3), (4, .int x4), (6, .int x6)] [] h := by
  unfold f_X9_readsAll_139 at hf
  refine j_iload_n (pc := 139) 2 dX9_readsAll_139 rfl rfl ?_
  refine j_iload (pc := 140) 4 dX9_readsAll_140 rfl ?_
  refine j_if_eq (pc := 142) (tgt := 149) dX9_readsAll_142 (by decide) hf (fun _ hf => ?_) (fun _ hf => ?_)
  · refine j_iconst (pc := 149) dX9_readsAll_149 (v := 0) (by decide) ?_
    refine j_sub [0, 1, 3, 4] rfl ?_
    exact t_X9_readsAll_150 hdp hk36 k0 hf
  · refine j_iconst (pc := 145) dX9_readsAll_145 (v := 1) (by decide) ?_
    refine j_goto (pc := 146) (tgt := 150) dX9_readsAll_146 (by decide) ?_
    refine j_sub [0, 1, 3, 4] rfl ?_
    exact t_X9_readsAll_150 hdp hk36 k0 hf
def f_X9_readsAll_131  (a0 : Nat) (h : Hp) : Option (Int32 × Hp) := some (((-100)) - (h.1 a0 7), h)
set_option maxHeartbeats 4000000 in
set_option maxRecDepth 100000 in
theorem t_X9_readsAll_131 {l : Launch} {D : va_G} {ad : Nat → Nat} {cA : Nat → ClassId} {d : Nat} (hdp : 2 ≤ d) {o : Int32 × Hp}  {a0 : Nat} (k0 : kd a0 = 9) {h : Hp} (hf : f_X9_readsAll_131  a0 h = some o) : J l D ad cA (fun _ => True) (rmd (d + 1)) (0, 0) (mQ D ad cA (some (.int o.1)) o.2) cX9_readsAll RX9 7 (some .int) 131 [(0, .ref (ad a0))] [] h := by
  unfold f_X9_readsAll_131 at hf
  refine j_bipush (pc := 131) dX9_readsAll_131 (v := -100) (by decide) ?_
  refine j_aload_n (pc := 133) 0 dX9_readsAll_133 rfl rfl ?_
  refine j_getI (pc := 134) dX9_readsAll_134 fl853 k0 (by decide) rfl ?_
  refine j_isub (pc := 137) dX9_readsAll_137  ?_
  exact j_iret (pc := 138) dX9_readsAll_138 rfl hf
def f_X9_readsAll_104 (k36 : Nat → Int32 → Int32 → Int32 → Hp → Option (Int32 × Hp)) (a0 : Nat) (x2 : Int32) (x3 : Int32) (x4 : Int32) (y0 : Int32) (h : Hp) : Option (Int32 × Hp) := if y0 = 0 then (if ix (h.1 a0 7) 120 = true then (if (h.1 (a0 + 3) (Int32.toNatClampNeg (h.1 a0 7))) = 44 then (if x4 = 5 then (f_X9_readsAll_131  a0 h) else (f_X9_readsAll_139 k36 a0 x2 x3 x4 y0 h)) else (f_X9_readsAll_131  a0 h)) else none) else (f_X9_readsAll_139 k36 a0 x2 x3 x4 y0 h)
set_option maxHeartbeats 4000000 in
set_option maxRecDepth 100000 in
theorem t_X9_readsAll_104 {l : Launch} {D : va_G} {ad : Nat → Nat} {cA : Nat → ClassId} {d : Nat} (hdp : 2 ≤ d) {o : Int32 × Hp} {k36 : Nat → Int32 → Int32 → Int32 → Hp → Option (Int32 × Hp)} (hk36 : ∀ {a0 : Nat} {x2 : Int32} {x3 : Int32} {x4 : Int32} (k0 : kd a0 = 9) {h : Hp}, k36 a0 x2 x3 x4 h = some o → J l D ad cA (fun _ => True) (rmd (d + 1)) (0, 0) (mQ D ad cA (some (.int o.1)) o.2) cX9_readsAll RX9 7 (some .int) 36 [(0, .ref (ad a0)), (2, .int x2), (3, .int x3), (4, .int x4)] [] h) {a0 : Nat} {x2 : Int32} {x3 : Int32} {x4 : Int32} {y0 : Int32} (k0 : kd a0 = 9) {h : Hp} (hf : f_X9_readsAll_104 k36 a0 x2 x3 x4 y0 h = some o) : J l D ad cA (fun _ => True) (rmd (d + 1)) (0, 0) (mQ D ad cA (some (.int o.1)) o.2) cX9_readsAll RX9 7 (some .int) 104 [(0, .ref (ad a0)), (2, .int x2), (3, .int x3), (4, .int x4)] [.int y0] h := by
  unfold f_X9_readsAll_104 at hf
  refine j_istore (pc := 104) (lv' := [(6, .int y0), (0, .ref (ad a0)), (2, .int x2), (3, .int x3), (4, .int x4)]) dX9_readsAll_104 (by decide) rfl ?_
  refine j_iload (pc := 106) 0 dX9_readsAll_106 rfl ?_
  refine j_if_ne (pc := 108) (tgt := 139) dX9_readsAll_108 (by decide) hf (fun _ hf => ?_) (fun _ hf => ?_)
  · refine j_sub [1, 2, 3, 4, 0] rfl ?_
    exact t_X9_readsAll_139 hdp hk36 k0 hf
  · refine j_aload_n (pc := 111) 1 dX9_readsAll_111 rfl rfl ?_
    refine j_getR (pc := 112) (n := 3) dX9_readsAll_112 fl851 k0 (by decide) rfl ?_
    refine j_aload_n (pc := 115) 1 dX9_readsAll_115 rfl rfl ?_
    refine j_getI (pc := 116) dX9_readsAll_116 fl853 k0 (by decide) rfl ?_
    refine j_iaload (pc := 119) dX9_readsAll_119 (lk_9_5 k0) (ll_9_5 k0) hf (fun _ hf => ?_)
    refine j_bipush (pc := 120) dX9_readsAll_120 (v := 44) (by decide) ?_
    refine j_icmp_ne (pc := 122) (tgt := 131) dX9_readsAll_122 (by decide) hf (fun _ hf => ?_) (fun _ hf => ?_)
    · refine j_sub [1] rfl ?_
      exact t_X9_readsAll_131 hdp  k0 hf
    · refine j_iload (pc := 125) 4 dX9_readsAll_125 rfl ?_
      refine j_iconst (pc := 127) dX9_readsAll_127 (v := 5) (by decide) ?_
      refine j_icmp_ne (pc := 128) (tgt := 139) dX9_readsAll_128 (by decide) hf (fun _ hf => ?_) (fun _ hf => ?_)
      · refine j_sub [1, 2, 3, 4, 0] rfl ?_
        exact t_X9_readsAll_139 hdp hk36 k0 hf
      · refine j_sub [1] rfl ?_
        exact t_X9_readsAll_131 hdp  k0 hf
def f_X9_readsAll_36 (k36 : Nat → Int32 → Int32 → Int32 → Hp → Option (Int32 × Hp)) (a0 : Nat) (x2 : Int32) (x3 : Int32) (x4 : Int32) (h : Hp) : Option (Int32 × Hp) := if 4 ≤ x3 then (some (((-100)) - (h.1 a0 7), h)) else ((f_X9_readsVotes a0 h).bind (fun q4 => if 0 ≤ q4.1 then (if ix ((6 * x3) + x4) 24 = true then (lt (sI q4.2 (a0 + 4) (Int32.toNatClampNeg ((6 * x3) + x4)) q4.1) (fun m5 => lt (x2 + 1) (fun v6 => if (m5.1 a0 7) = (m5.1 a0 6) then (some (v6, m5)) else (if ix (m5.1 a0 7) 120 = true then (if (m5.1 (a0 + 3) (Int32.toNatClampNeg (m5.1 a0 7))) = 47 then (f_X9_readsAll_104 k36 a0 v6 x3 x4 1 m5) else (f_X9_readsAll_104 k36 a0 v6 x3 x4 0 m5)) else none)))) else none) else (some (q4.1, q4.2))))
set_option maxHeartbeats 4000000 in
set_option maxRecDepth 100000 in
theorem t_X9_readsAll_36 {l : Launch} {D : va_G} {ad : Nat → Nat} {cA : Nat → ClassId} {d : Nat} (hdp : 2 ≤ d) {o : Int32 × Hp}  : ∀ (n : Nat) {a0 : Nat} {x2 : Int32} {x3 : Int32} {x4 : Int32} (k0 : kd a0 = 9) {h : Hp}, lp (F := Nat → Int32 → Int32 → Int32 → Hp → Option (Int32 × Hp)) (fun _ _ _ _ _ => none) (f_X9_readsAll_36) n a0 x2 x3 x4 h = some o → J l D ad cA (fun _ => True) (rmd (d + 1)) (0, 0) (mQ D ad cA (some (.int o.1)) o.2) cX9_readsAll RX9 7 (some .int) 36 [(0, .ref (ad a0)), (2, .int x2), (3, .int x3), (4, .int x4)] [] h := by
  intro n
  induction n with
  | zero =>
    intro a0 x2 x3 x4 k0 h hf
    have hf : (none : Option (Int32 × Hp)) = some o := hf
    cases hf
  | succ n hk36 =>
    intro a0 x2 x3 x4 k0 h hf
    have hf : f_X9_readsAll_36  (lp (F := Nat → Int32 → Int32 → Int32 → Hp → Option (Int32 × Hp)) (fun _ _ _ _ _ => none) (f_X9_readsAll_36) n) a0 x2 x3 x4 h = some o := hf
    unfold f_X9_readsAll_36 at hf
    refine j_iload_n (pc := 36) 2 dX9_readsAll_36 rfl rfl ?_
    refine j_iconst (pc := 37) dX9_readsAll_37 (v := 4) (by decide) ?_
    refine j_icmp_ge (pc := 38) (tgt := 180) dX9_readsAll_38 (by decide) hf (fun _ hf => ?_) (fun _ hf => ?_)
    · refine j_bipush (pc := 180) dX9_readsAll_180 (v := -100) (by decide) ?_
      refine j_aload_n (pc := 182) 0 dX9_readsAll_182 rfl rfl ?_
      refine j_getI (pc := 183) dX9_readsAll_183 fl853 k0 (by decide) rfl ?_
      refine j_isub (pc := 186) dX9_readsAll_186  ?_
      exact j_iret (pc := 187) dX9_readsAll_187 rfl hf
    · refine j_aload_n (pc := 41) 0 dX9_readsAll_41 rfl rfl ?_
      refine j_callVi (pc := 42) (d := d) (As := []) (st := []) dX9_readsAll_42 s1060 k0 (by decide) rfl rfl (by decide) (Nat.le_of_ble_eq_true rfl) (fun q hq => t_X9_readsVotes (by omega) k0 hq) hf (fun q4 hf => ?_)
      refine j_istore (pc := 45) (lv' := [(5, .int q4.1), (0, .ref (ad a0)), (2, .int x2), (3, .int x3), (4, .int x4)]) dX9_readsAll_45 (by decide) rfl ?_
      refine j_iload (pc := 47) 0 dX9_readsAll_47 rfl ?_
      refine j_if_ge (pc := 49) (tgt := 55) dX9_readsAll_49 (by decide) hf (fun _ hf => ?_) (fun _ hf => ?_)
      · refine j_aload_n (pc := 55) 1 dX9_readsAll_55 rfl rfl ?_
        refine j_getR (pc := 56) (n := 4) dX9_readsAll_56 fl854 k0 (by decide) rfl ?_
        refine j_bipush (pc := 59) dX9_readsAll_59 (v := 6) (by decide) ?_
        refine j_iload_n (pc := 61) 3 dX9_readsAll_61 rfl rfl ?_
        refine j_imul (pc := 62) dX9_readsAll_62  ?_
        refine j_iload (pc := 63) 4 dX9_readsAll_63 rfl ?_
        refine j_iadd (pc := 65) dX9_readsAll_65  ?_
        refine j_iload (pc := 66) 0 dX9_readsAll_66 rfl ?_
        refine j_iastore (pc := 68) dX9_readsAll_68 (lk_9_8 k0) (ll_9_8 k0) hf (fun m5 hf => ?_)
        refine j_iinc (pc := 69) 2 (c := 1) (lv' := fun v6 => [(2, .int v6), (5, .int q4.1), (0, .ref (ad a0)), (3, .int x3), (4, .int x4)]) dX9_readsAll_69 rfl (by decide) (by decide) (fun _ => rfl) hf (fun v6 hf => ?_)
        refine j_aload_n (pc := 72) 2 dX9_readsAll_72 rfl rfl ?_
        refine j_getI (pc := 73) dX9_readsAll_73 fl853 k0 (by decide) rfl ?_
        refine j_aload_n (pc := 76) 2 dX9_readsAll_76 rfl rfl ?_
        refine j_getI (pc := 77) dX9_readsAll_77 fl852 k0 (by decide) rfl ?_
        refine j_icmp_ne (pc := 80) (tgt := 85) dX9_readsAll_80 (by decide) hf (fun _ hf => ?_) (fun _ hf => ?_)
        · refine j_aload_n (pc := 85) 2 dX9_readsAll_85 rfl rfl ?_
          refine j_getR (pc := 86) (n := 3) dX9_readsAll_86 fl851 k0 (by decide) rfl ?_
          refine j_aload_n (pc := 89) 2 dX9_readsAll_89 rfl rfl ?_
          refine j_getI (pc := 90) dX9_readsAll_90 fl853 k0 (by decide) rfl ?_
          refine j_iaload (pc := 93) dX9_readsAll_93 (lk_9_5 k0) (ll_9_5 k0) hf (fun _ hf => ?_)
          refine j_bipush (pc := 94) dX9_readsAll_94 (v := 47) (by decide) ?_
          refine j_icmp_ne (pc := 96) (tgt := 103) dX9_readsAll_96 (by decide) hf (fun _ hf => ?_) (fun _ hf => ?_)
          · refine j_iconst (pc := 103) dX9_readsAll_103 (v := 0) (by decide) ?_
            refine j_sub [2, 0, 3, 4] rfl ?_
            exact t_X9_readsAll_104 hdp hk36 k0 hf
          · refine j_iconst (pc := 99) dX9_readsAll_99 (v := 1) (by decide) ?_
            refine j_goto (pc := 100) (tgt := 104) dX9_readsAll_100 (by decide) ?_
            refine j_sub [2, 0, 3, 4] rfl ?_
            exact t_X9_readsAll_104 hdp hk36 k0 hf
        · refine j_iload_n (pc := 83) 0 dX9_readsAll_83 rfl rfl ?_
          exact j_iret (pc := 84) dX9_readsAll_84 rfl hf
      · refine j_iload (pc := 52) 0 dX9_readsAll_52 rfl ?_
        exact j_iret (pc := 54) dX9_readsAll_54 rfl hf
def f_X9_readsAll_15 (k15 : Nat → Int32 → Int32 → Int32 → Int32 → Hp → Option (Int32 × Hp)) (a0 : Nat) (x2 : Int32) (x3 : Int32) (x4 : Int32) (x5 : Int32) (h : Hp) : Option (Int32 × Hp) := if 24 ≤ x5 then (lp (F := Nat → Int32 → Int32 → Int32 → Hp → Option (Int32 × Hp)) (fun _ _ _ _ _ => none) (f_X9_readsAll_36) 1000 a0 x2 x3 x4 h) else (if ix x5 24 = true then (lt (sI h (a0 + 4) (Int32.toNatClampNeg x5) ((-1))) (fun m2 => lt (x5 + 1) (fun v3 => k15 a0 x2 x3 x4 v3 m2))) else none)
set_option maxHeartbeats 4000000 in
set_option maxRecDepth 100000 in
theorem t_X9_readsAll_15 {l : Launch} {D : va_G} {ad : Nat → Nat} {cA : Nat → ClassId} {d : Nat} (hdp : 2 ≤ d) {o : Int32 × Hp}  : ∀ (n : Nat) {a0 : Nat} {x2 : Int32} {x3 : Int32} {x4 : Int32} {x5 : Int32} (k0 : kd a0 = 9) {h : Hp}, lp (F := Nat → Int32 → Int32 → Int32 → Int32 → Hp → Option (Int32 × Hp)) (fun _ _ _ _ _ _ => none) (f_X9_readsAll_15) n a0 x2 x3 x4 x5 h = some o → J l D ad cA (fun _ => True) (rmd (d + 1)) (0, 0) (mQ D ad cA (some (.int o.1)) o.2) cX9_readsAll RX9 7 (some .int) 15 [(0, .ref (ad a0)), (2, .int x2), (3, .int x3), (4, .int x4), (5, .int x5)] [] h := by
  intro n
  induction n with
  | zero =>
    intro a0 x2 x3 x4 x5 k0 h hf
    have hf : (none : Option (Int32 × Hp)) = some o := hf
    cases hf
  | succ n hk15 =>
    intro a0 x2 x3 x4 x5 k0 h hf
    have hf : f_X9_readsAll_15  (lp (F := Nat → Int32 → Int32 → Int32 → Int32 → Hp → Option (Int32 × Hp)) (fun _ _ _ _ _ _ => none) (f_X9_readsAll_15) n) a0 x2 x3 x4 x5 h = some o := hf
    unfold f_X9_readsAll_15 at hf
    refine j_iload (pc := 15) 4 dX9_readsAll_15 rfl ?_
    refine j_bipush (pc := 17) dX9_readsAll_17 (v := 24) (by decide) ?_
    refine j_icmp_ge (pc := 19) (tgt := 36) dX9_readsAll_19 (by decide) hf (fun _ hf => ?_) (fun _ hf => ?_)
    · refine j_sub [0, 1, 2, 3] rfl ?_
      exact t_X9_readsAll_36 hdp  1000 k0 hf
    · refine j_aload_n (pc := 22) 0 dX9_readsAll_22 rfl rfl ?_
      refine j_getR (pc := 23) (n := 4) dX9_readsAll_23 fl854 k0 (by decide) rfl ?_
      refine j_iload (pc := 26) 4 dX9_readsAll_26 rfl ?_
      refine j_iconst (pc := 28) dX9_readsAll_28 (v := -1) (by decide) ?_
      refine j_iastore (pc := 29) dX9_readsAll_29 (lk_9_8 k0) (ll_9_8 k0) hf (fun m2 hf => ?_)
      refine j_iinc (pc := 30) 4 (c := 1) (lv' := fun v3 => [(5, .int v3), (0, .ref (ad a0)), (2, .int x2), (3, .int x3), (4, .int x4)]) dX9_readsAll_30 rfl (by decide) (by decide) (fun _ => rfl) hf (fun v3 hf => ?_)
      refine j_goto (pc := 33) (tgt := 15) dX9_readsAll_33 (by decide) ?_
      refine j_sub [1, 2, 3, 4, 0] rfl ?_
      exact hk15 k0 hf
def f_X9_readsAll (a0 : Nat) (x1 : Int32) (h : Hp) : Option (Int32 × Hp) := lt (sI h a0 7 0) (fun m1 => lp (F := Nat → Int32 → Int32 → Int32 → Int32 → Hp → Option (Int32 × Hp)) (fun _ _ _ _ _ _ => none) (f_X9_readsAll_15) 1000 a0 0 x1 0 0 m1)
set_option maxHeartbeats 4000000 in
set_option maxRecDepth 100000 in
theorem t_X9_readsAll {l : Launch} {D : va_G} {ad : Nat → Nat} {cA : Nat → ClassId} {d : Nat} (hdp : 3 ≤ d) {a0 : Nat} {x1 : Int32} (k0 : kd a0 = 9) {h : Hp} {o : Int32 × Hp} (hf : f_X9_readsAll a0 x1 h = some o) : Cr l D ad cA d yX9_readsAll cX9_readsAll 7 (some .int) [.ref (ad a0), .int x1] h (some (.int o.1)) o.2 := by
  obtain ⟨d, rfl⟩ : ∃ e, d = e + 1 := ⟨d - 1, by omega⟩
  have hdp : 2 ≤ d := by omega
  unfold f_X9_readsAll at hf
  refine Cr_of (by decide +kernel) rfl (Nat.le_of_ble_eq_true rfl) (lv0 := [(0, .ref (ad a0)), (1, .int x1)]) rfl ?_
  refine j_iconst (pc := 0) dX9_readsAll_0 (v := 0) (by decide) ?_
  refine j_istore_n (pc := 1) (lv' := [(2, .int 0), (0, .ref (ad a0)), (1, .int x1)]) dX9_readsAll_1 rfl (by decide) rfl ?_
  refine j_iload_n (pc := 2) 2 dX9_readsAll_2 rfl rfl ?_
  refine j_istore_n (pc := 3) (lv' := [(3, .int x1), (2, .int 0), (0, .ref (ad a0)), (1, .int x1)]) dX9_readsAll_3 rfl (by decide) rfl ?_
  refine j_iconst (pc := 4) dX9_readsAll_4 (v := 0) (by decide) ?_
  refine j_istore (pc := 5) (lv' := [(4, .int 0), (3, .int x1), (2, .int 0), (0, .ref (ad a0)), (1, .int x1)]) dX9_readsAll_5 (by decide) rfl ?_
  refine j_aload_n (pc := 7) 3 dX9_readsAll_7 rfl rfl ?_
  refine j_iconst (pc := 8) dX9_readsAll_8 (v := 0) (by decide) ?_
  refine j_putI (pc := 9) dX9_readsAll_9 fl853 fp9_7 k0 (by decide) rfl hf (fun m1 hf => ?_)
  refine j_iconst (pc := 12) dX9_readsAll_12 (v := 0) (by decide) ?_
  refine j_istore (pc := 13) (lv' := [(5, .int 0), (4, .int 0), (3, .int x1), (2, .int 0), (0, .ref (ad a0)), (1, .int x1)]) dX9_readsAll_13 (by decide) rfl ?_
  refine j_sub [4, 3, 2, 1, 0] rfl ?_
  exact t_X9_readsAll_15 hdp  1000 k0 hf
