def f_X9_sharesOut_103 (k68 : Nat → Int32 → Hp → Option (Int32 × Hp)) (a0 : Nat) (x3 : Int32) (y0 : Int32) (y1 : Int32) (b2 : Nat) (h : Hp) : Option (Int32 × Hp) := if ix y1 6 = true then (lt (sI h b2 (Int32.toNatClampNeg y1) y0) (fun m8 => lt (x3 + 1) (fun v9 => k68 a0 v9 m8))) else none
set_option maxHeartbeats 4000000 in
set_option maxRecDepth 100000 in
theorem t_X9_sharesOut_103 {l : Launch} {D : va_G} {ad : Nat → Nat} {cA : Nat → ClassId} {d : Nat} (hdp : 5 ≤ d) {o : Int32 × Hp} {k68 : Nat → Int32 → Hp → Option (Int32 × Hp)} (hk68 : ∀ {a0 : Nat} {x3 : Int32} (k0 : kd a0 = 9) {h : Hp}, k68 a0 x3 h = some o → J l D ad cA (fun _ => True) (rmd (d + 1)) (0, 0) (mQ D ad cA (some (.int o.1)) o.2) cX9_sharesOut RX9 4 (some .boolean) 68 [(0, .ref (ad a0)), (3, .int x3)] [] h) {a0 : Nat} {x3 : Int32} {y0 : Int32} {y1 : Int32} {b2 : Nat} (k0 : kd a0 = 9) (kb2 : kd b2 = 10) (nb2 : ln b2 = 6) {h : Hp} (hf : f_X9_sharesOut_103 k68 a0 x3 y0 y1 b2 h = some o) : J l D ad cA (fun _ => True) (rmd (d + 1)) (0, 0) (mQ D ad cA (some (.int o.1)) o.2) cX9_sharesOut RX9 4 (some .boolean) 103 [(0, .ref (ad a0)), (3, .int x3)] [.int y0, .int y1, .ref (ad b2)] h := by
  unfold f_X9_sharesOut_103 at hf
  refine j_iastore (pc := 103) dX9_sharesOut_103 kb2 nb2 hf (fun m8 hf => ?_)
  refine j_iinc (pc := 104) 1 (c := 1) (lv' := fun v9 => [(3, .int v9), (0, .ref (ad a0))]) dX9_sharesOut_104 rfl (by decide) (by decide) (fun _ => rfl) hf (fun v9 hf => ?_)
  refine j_goto (pc := 107) (tgt := 68) dX9_sharesOut_107 (by decide) ?_
  refine j_sub [1, 0] rfl ?_
  exact hk68 k0 hf
def f_X9_sharesOut_68 (k68 : Nat → Int32 → Hp → Option (Int32 × Hp)) (a0 : Nat) (x3 : Int32) (h : Hp) : Option (Int32 × Hp) := if 6 ≤ x3 then (if isB 1 = true then some (1, h) else none) else (if ix x3 6 = true then (if (h.1 (a0 + 5) (Int32.toNatClampNeg x3)) = 0 then (if ix x3 6 = true then (f_X9_sharesOut_103 k68 a0 x3 (h.1 (a0 + 16) (Int32.toNatClampNeg x3)) x3 (a0 + 16) h) else none) else (if ix x3 6 = true then (f_X9_sharesOut_103 k68 a0 x3 (h.1 (a0 + 8) (Int32.toNatClampNeg x3)) x3 (a0 + 16) h) else none)) else none)
set_option maxHeartbeats 4000000 in
set_option maxRecDepth 100000 in
theorem t_X9_sharesOut_68 {l : Launch} {D : va_G} {ad : Nat → Nat} {cA : Nat → ClassId} {d : Nat} (hdp : 5 ≤ d) {o : Int32 × Hp}  : ∀ (n : Nat) {a0 : Nat} {x3 : Int32} (k0 : kd a0 = 9) {h : Hp}, lp (F := Nat → Int32 → Hp → Option (Int32 × Hp)) (fun _ _ _ => none) (f_X9_sharesOut_68) n a0 x3 h = some o → J l D ad cA (fun _ => True) (rmd (d + 1)) (0, 0) (mQ D ad cA (some (.int o.1)) o.2) cX9_sharesOut RX9 4 (some .boolean) 68 [(0, .ref (ad a0)), (3, .int x3)] [] h := by
  intro n
  induction n with
  | zero =>
    intro a0 x3 k0 h hf
    have hf : (none : Option (Int32 × Hp)) = some o := hf
    cases hf
  | succ n hk68 =>
    intro a0 x3 k0 h hf
    have hf : f_X9_sharesOut_68  (lp (F := Nat → Int32 → Hp → Option (Int32 × Hp)) (fun _ _ _ => none) (f_X9_sharesOut_68) n) a0 x3 h = some o := hf
    unfold f_X9_sharesOut_68 at hf
    refine j_iload_n (pc := 68) 1 dX9_sharesOut_68 rfl rfl ?_
    refine j_bipush (pc := 69) dX9_sharesOut_69 (v := 6) (by decide) ?_
    refine j_icmp_ge (pc := 71) (tgt := 110) dX9_sharesOut_71 (by decide) hf (fun _ hf => ?_) (fun _ hf => ?_)
    · refine j_iconst (pc := 110) dX9_sharesOut_110 (v := 1) (by decide) ?_
      exact j_zret (pc := 111) dX9_sharesOut_111 rfl hf
    · refine j_aload_n (pc := 74) 0 dX9_sharesOut_74 rfl rfl ?_
      refine j_getR (pc := 75) (n := 16) dX9_sharesOut_75 fl868 k0 (by decide) rfl ?_
      refine j_iload_n (pc := 78) 1 dX9_sharesOut_78 rfl rfl ?_
      refine j_aload_n (pc := 79) 0 dX9_sharesOut_79 rfl rfl ?_
      refine j_getR (pc := 80) (n := 5) dX9_sharesOut_80 fl855 k0 (by decide) rfl ?_
      refine j_iload_n (pc := 83) 1 dX9_sharesOut_83 rfl rfl ?_
      refine j_zaload (pc := 84) dX9_sharesOut_84 (lk_9_9 k0) (ll_9_9 k0) hf (fun _ hf => ?_)
      refine j_if_eq (pc := 85) (tgt := 97) dX9_sharesOut_85 (by decide) hf (fun _ hf => ?_) (fun _ hf => ?_)
      · refine j_aload_n (pc := 97) 0 dX9_sharesOut_97 rfl rfl ?_
        refine j_getR (pc := 98) (n := 16) dX9_sharesOut_98 fl868 k0 (by decide) rfl ?_
        refine j_iload_n (pc := 101) 1 dX9_sharesOut_101 rfl rfl ?_
        refine j_iaload (pc := 102) dX9_sharesOut_102 (lk_9_22 k0) (ll_9_22 k0) hf (fun _ hf => ?_)
        refine j_sub [0, 1] rfl ?_
        exact t_X9_sharesOut_103 hdp hk68 k0 (lk_9_22 k0) (ll_9_22 k0) hf
      · refine j_aload_n (pc := 88) 0 dX9_sharesOut_88 rfl rfl ?_
        refine j_getR (pc := 89) (n := 8) dX9_sharesOut_89 fl858 k0 (by decide) rfl ?_
        refine j_iload_n (pc := 92) 1 dX9_sharesOut_92 rfl rfl ?_
        refine j_iaload (pc := 93) dX9_sharesOut_93 (lk_9_12 k0) (ll_9_12 k0) hf (fun _ hf => ?_)
        refine j_goto (pc := 94) (tgt := 103) dX9_sharesOut_94 (by decide) ?_
        refine j_sub [0, 1] rfl ?_
        exact t_X9_sharesOut_103 hdp hk68 k0 (lk_9_22 k0) (ll_9_22 k0) hf
def f_X9_sharesOut_44 (k6 : Nat → Int32 → Int32 → Int32 → Hp → Option (Int32 × Hp)) (a0 : Nat) (x1 : Int32) (x2 : Int32) (x3 : Int32) (h : Hp) : Option (Int32 × Hp) := lt (x3 + 1) (fun v10 => k6 a0 x1 x2 v10 h)
set_option maxHeartbeats 4000000 in
set_option maxRecDepth 100000 in
theorem t_X9_sharesOut_44 {l : Launch} {D : va_G} {ad : Nat → Nat} {cA : Nat → ClassId} {d : Nat} (hdp : 5 ≤ d) {o : Int32 × Hp} {k6 : Nat → Int32 → Int32 → Int32 → Hp → Option (Int32 × Hp)} (hk6 : ∀ {a0 : Nat} {x1 : Int32} {x2 : Int32} {x3 : Int32} (k0 : kd a0 = 9) {h : Hp}, k6 a0 x1 x2 x3 h = some o → J l D ad cA (fun _ => True) (rmd (d + 1)) (0, 0) (mQ D ad cA (some (.int o.1)) o.2) cX9_sharesOut RX9 4 (some .boolean) 6 [(0, .ref (ad a0)), (1, .int x1), (2, .int x2), (3, .int x3)] [] h) {a0 : Nat} {x1 : Int32} {x2 : Int32} {x3 : Int32} (k0 : kd a0 = 9) {h : Hp} (hf : f_X9_sharesOut_44 k6 a0 x1 x2 x3 h = some o) : J l D ad cA (fun _ => True) (rmd (d + 1)) (0, 0) (mQ D ad cA (some (.int o.1)) o.2) cX9_sharesOut RX9 4 (some .boolean) 44 [(0, .ref (ad a0)), (1, .int x1), (2, .int x2), (3, .int x3)] [] h := by
  unfold f_X9_sharesOut_44 at hf
  refine j_iinc (pc := 44) 3 (c := 1) (lv' := fun v10 => [(3, .int v10), (0, .ref (ad a0)), (1, .int x1), (2, .int x2)]) dX9_sharesOut_44 rfl (by decide) (by decide) (fun _ => rfl) hf (fun v10 hf => ?_)
  refine j_goto (pc := 47) (tgt := 6) dX9_sharesOut_47 (by decide) ?_
  refine j_sub [1, 2, 3, 0] rfl ?_
  exact hk6 k0 hf
def f_X9_sharesOut_6 (k6 : Nat → Int32 → Int32 → Int32 → Hp → Option (Int32 × Hp)) (a0 : Nat) (x1 : Int32) (x2 : Int32) (x3 : Int32) (h : Hp) : Option (Int32 × Hp) := if 6 ≤ x3 then (if ix x2 6 = true then ((f_X9_gives a0 x1 (h.1 (a0 + 15) (Int32.toNatClampNeg x2)) h).bind (fun q2 => if q2.1 = 0 then (if isB 0 = true then some (0, q2.2) else none) else (lp (F := Nat → Int32 → Hp → Option (Int32 × Hp)) (fun _ _ _ => none) (f_X9_sharesOut_68) 1000 a0 0 q2.2))) else none) else ((f_X9_listOf a0 x3 h).bind (fun q3 => if q3.1 = x2 then ((f_X9_isIn a0 x3 q3.2).bind (fun q4 => if q4.1 = 0 then (f_X9_sharesOut_44 k6 a0 x1 x2 x3 q4.2) else ((f_X9_total a0 x3 q4.2).bind (fun q5 => (f_X9_leastOf a0 x3 q5.2).bind (fun q6 => (f_X9_claims a0 x3 q5.1 q6.1 q6.2).bind (fun q7 => f_X9_sharesOut_44 k6 a0 x1 x2 x3 q7.2)))))) else (f_X9_sharesOut_44 k6 a0 x1 x2 x3 q3.2)))
set_option maxHeartbeats 4000000 in
set_option maxRecDepth 100000 in
theorem t_X9_sharesOut_6 {l : Launch} {D : va_G} {ad : Nat → Nat} {cA : Nat → ClassId} {d : Nat} (hdp : 5 ≤ d) {o : Int32 × Hp}  : ∀ (n : Nat) {a0 : Nat} {x1 : Int32} {x2 : Int32} {x3 : Int32} (k0 : kd a0 = 9) {h : Hp}, lp (F := Nat → Int32 → Int32 → Int32 → Hp → Option (Int32 × Hp)) (fun _ _ _ _ _ => none) (f_X9_sharesOut_6) n a0 x1 x2 x3 h = some o → J l D ad cA (fun _ => True) (rmd (d + 1)) (0, 0) (mQ D ad cA (some (.int o.1)) o.2) cX9_sharesOut RX9 4 (some .boolean) 6 [(0, .ref (ad a0)), (1, .int x1), (2, .int x2), (3, .int x3)] [] h := by
  intro n
  induction n with
  | zero =>
    intro a0 x1 x2 x3 k0 h hf
    have hf : (none : Option (Int32 × Hp)) = some o := hf
    cases hf
  | succ n hk6 =>
    intro a0 x1 x2 x3 k0 h hf
    have hf : f_X9_sharesOut_6  (lp (F := Nat → Int32 → Int32 → Int32 → Hp → Option (Int32 × Hp)) (fun _ _ _ _ _ => none) (f_X9_sharesOut_6) n) a0 x1 x2 x3 h = some o := hf
    unfold f_X9_sharesOut_6 at hf
    refine j_iload_n (pc := 6) 3 dX9_sharesOut_6 rfl rfl ?_
    refine j_bipush (pc := 7) dX9_sharesOut_7 (v := 6) (by decide) ?_
    refine j_icmp_ge (pc := 9) (tgt := 50) dX9_sharesOut_9 (by decide) hf (fun _ hf => ?_) (fun _ hf => ?_)
    · refine j_aload_n (pc := 50) 0 dX9_sharesOut_50 rfl rfl ?_
      refine j_iload_n (pc := 51) 1 dX9_sharesOut_51 rfl rfl ?_
      refine j_aload_n (pc := 52) 0 dX9_sharesOut_52 rfl rfl ?_
      refine j_getR (pc := 53) (n := 15) dX9_sharesOut_53 fl867 k0 (by decide) rfl ?_
      refine j_iload_n (pc := 56) 2 dX9_sharesOut_56 rfl rfl ?_
      refine j_iaload (pc := 57) dX9_sharesOut_57 (lk_9_21 k0) (ll_9_21 k0) hf (fun _ hf => ?_)
      refine j_callVi (pc := 58) (d := d) (As := [.int x1, .int (h.1 (a0 + 15) (Int32.toNatClampNeg x2))]) (st := []) dX9_sharesOut_58 s1138 k0 (by decide) rfl rfl (by decide) (Nat.le_of_ble_eq_true rfl) (fun q hq => t_X9_gives (by omega) k0 hq) hf (fun q2 hf => ?_)
      refine j_if_ne (pc := 61) (tgt := 66) dX9_sharesOut_61 (by decide) hf (fun _ hf => ?_) (fun _ hf => ?_)
      · refine j_iconst (pc := 66) dX9_sharesOut_66 (v := 0) (by decide) ?_
        refine j_istore_n (pc := 67) (lv' := [(3, .int 0), (0, .ref (ad a0)), (1, .int x1), (2, .int x2)]) dX9_sharesOut_67 rfl (by decide) rfl ?_
        refine j_sub [1, 0] rfl ?_
        exact t_X9_sharesOut_68 hdp  1000 k0 hf
      · refine j_iconst (pc := 64) dX9_sharesOut_64 (v := 0) (by decide) ?_
        exact j_zret (pc := 65) dX9_sharesOut_65 rfl hf
    · refine j_aload_n (pc := 12) 0 dX9_sharesOut_12 rfl rfl ?_
      refine j_iload_n (pc := 13) 3 dX9_sharesOut_13 rfl rfl ?_
      refine j_callVi (pc := 14) (d := d) (As := [.int x3]) (st := []) dX9_sharesOut_14 s1126 k0 (by decide) rfl rfl (by decide) (Nat.le_of_ble_eq_true rfl) (fun q hq => t_X9_listOf k0 hq) hf (fun q3 hf => ?_)
      refine j_iload_n (pc := 17) 2 dX9_sharesOut_17 rfl rfl ?_
      refine j_icmp_ne (pc := 18) (tgt := 44) dX9_sharesOut_18 (by decide) hf (fun _ hf => ?_) (fun _ hf => ?_)
      · refine j_sub [0, 1, 2, 3] rfl ?_
        exact t_X9_sharesOut_44 hdp hk6 k0 hf
      · refine j_aload_n (pc := 21) 0 dX9_sharesOut_21 rfl rfl ?_
        refine j_iload_n (pc := 22) 3 dX9_sharesOut_22 rfl rfl ?_
        refine j_callVi (pc := 23) (d := d) (As := [.int x3]) (st := []) dX9_sharesOut_23 s1106 k0 (by decide) rfl rfl (by decide) (Nat.le_of_ble_eq_true rfl) (fun q hq => t_X9_isIn (by omega) k0 hq) hf (fun q4 hf => ?_)
        refine j_if_eq (pc := 26) (tgt := 44) dX9_sharesOut_26 (by decide) hf (fun _ hf => ?_) (fun _ hf => ?_)
        · refine j_sub [0, 1, 2, 3] rfl ?_
          exact t_X9_sharesOut_44 hdp hk6 k0 hf
        · refine j_aload_n (pc := 29) 0 dX9_sharesOut_29 rfl rfl ?_
          refine j_iload_n (pc := 30) 3 dX9_sharesOut_30 rfl rfl ?_
          refine j_aload_n (pc := 31) 0 dX9_sharesOut_31 rfl rfl ?_
          refine j_iload_n (pc := 32) 3 dX9_sharesOut_32 rfl rfl ?_
          refine j_callVi (pc := 33) (d := d) (As := [.int x3]) (st := [.int x3, .ref (ad a0)]) dX9_sharesOut_33 s1010 k0 (by decide) rfl rfl (by decide) (Nat.le_of_ble_eq_true rfl) (fun q hq => t_X9_total (by omega) k0 hq) hf (fun q5 hf => ?_)
          refine j_aload_n (pc := 36) 0 dX9_sharesOut_36 rfl rfl ?_
          refine j_iload_n (pc := 37) 3 dX9_sharesOut_37 rfl rfl ?_
          refine j_callVi (pc := 38) (d := d) (As := [.int x3]) (st := [.int q5.1, .int x3, .ref (ad a0)]) dX9_sharesOut_38 s1130 k0 (by decide) rfl rfl (by decide) (Nat.le_of_ble_eq_true rfl) (fun q hq => t_X9_leastOf k0 hq) hf (fun q6 hf => ?_)
          refine j_callVv (pc := 41) (d := d) (As := [.int x3, .int q5.1, .int q6.1]) (st := []) dX9_sharesOut_41 s1134 k0 (by decide) rfl rfl (by decide) (Nat.le_of_ble_eq_true rfl) (fun q hq => t_X9_claims k0 hq) hf (fun q7 hf => ?_)
          refine j_sub [0, 1, 2, 3] rfl ?_
          exact t_X9_sharesOut_44 hdp hk6 k0 hf
def f_X9_sharesOut (a0 : Nat) (x1 : Int32) (x2 : Int32) (h : Hp) : Option (Int32 × Hp) := (f_X9_nobodyClaims a0 h).bind (fun q1 => lp (F := Nat → Int32 → Int32 → Int32 → Hp → Option (Int32 × Hp)) (fun _ _ _ _ _ => none) (f_X9_sharesOut_6) 1000 a0 x1 x2 0 q1.2)
set_option maxHeartbeats 4000000 in
set_option maxRecDepth 100000 in
theorem t_X9_sharesOut {l : Launch} {D : va_G} {ad : Nat → Nat} {cA : Nat → ClassId} {d : Nat} (hdp : 6 ≤ d) {a0 : Nat} {x1 : Int32} {x2 : Int32} (k0 : kd a0 = 9) {h : Hp} {o : Int32 × Hp} (hf : f_X9_sharesOut a0 x1 x2 h = some o) : Cr l D ad cA d yX9_sharesOut cX9_sharesOut 4 (some .boolean) [.ref (ad a0), .int x1, .int x2] h (some (.int o.1)) o.2 := by
  obtain ⟨d, rfl⟩ : ∃ e, d = e + 1 := ⟨d - 1, by omega⟩
  have hdp : 5 ≤ d := by omega
  unfold f_X9_sharesOut at hf
  refine Cr_of (by decide +kernel) rfl (Nat.le_of_ble_eq_true rfl) (lv0 := [(0, .ref (ad a0)), (1, .int x1), (2, .int x2)]) rfl ?_
  refine j_aload_n (pc := 0) 0 dX9_sharesOut_0 rfl rfl ?_
  refine j_callVv (pc := 1) (d := d) (As := []) (st := []) dX9_sharesOut_1 s1122 k0 (by decide) rfl rfl (by decide) (Nat.le_of_ble_eq_true rfl) (fun q hq => t_X9_nobodyClaims k0 hq) hf (fun q1 hf => ?_)
  refine j_iconst (pc := 4) dX9_sharesOut_4 (v := 0) (by decide) ?_
  refine j_istore_n (pc := 5) (lv' := [(3, .int 0), (0, .ref (ad a0)), (1, .int x1), (2, .int x2)]) dX9_sharesOut_5 rfl (by decide) rfl ?_
  refine j_sub [1, 2, 3, 0] rfl ?_
  exact t_X9_sharesOut_6 hdp  1000 k0 hf
def f_X8_alike_62 (k17 : Nat → Int32 → Int32 → Int32 → Hp → Option (Int32 × Hp)) (a0 : Nat) (x1 : Int32) (x3 : Int32) (x4 : Int32) (h : Hp) : Option (Int32 × Hp) := lt (x4 + 1) (fun v5 => k17 a0 x1 x3 v5 h)
set_option maxHeartbeats 4000000 in
set_option maxRecDepth 100000 in
theorem t_X8_alike_62 {l : Launch} {D : va_G} {ad : Nat → Nat} {cA : Nat → ClassId} {d : Nat} (hdp : 6 ≤ d) {o : Int32 × Hp} {k17 : Nat → Int32 → Int32 → Int32 → Hp → Option (Int32 × Hp)} (hk17 : ∀ {a0 : Nat} {x1 : Int32} {x3 : Int32} {x4 : Int32} (k0 : kd a0 = 8) {h : Hp}, k17 a0 x1 x3 x4 h = some o → J l D ad cA (fun _ => True) (rmd (d + 1)) (0, 0) (mQ D ad cA (some (.int o.1)) o.2) cX8_alike RX8 5 (some .int) 17 [(0, .ref (ad a0)), (1, .int x1), (3, .int x3), (4, .int x4)] [] h) {a0 : Nat} {x1 : Int32} {x3 : Int32} {x4 : Int32} (k0 : kd a0 = 8) {h : Hp} (hf : f_X8_alike_62 k17 a0 x1 x3 x4 h = some o) : J l D ad cA (fun _ => True) (rmd (d + 1)) (0, 0) (mQ D ad cA (some (.int o.1)) o.2) cX8_alike RX8 5 (some .int) 62 [(0, .ref (ad a0)), (1, .int x1), (3, .int x3), (4, .int x4)] [] h := by
  unfold f_X8_alike_62 at hf
  refine j_iinc (pc := 62) 3 (c := 1) (lv' := fun v5 => [(4, .int v5), (0, .ref (ad a0)), (1, .int x1), (3, .int x3)]) dX8_alike_62 rfl (by decide) (by decide) (fun _ => rfl) hf (fun v5 hf => ?_)
  refine j_goto (pc := 65) (tgt := 17) dX8_alike_65 (by decide) ?_
  refine j_sub [1, 2, 3, 0] rfl ?_
  exact hk17 k0 hf
def f_X8_alike_17 (k17 : Nat → Int32 → Int32 → Int32 → Hp → Option (Int32 × Hp)) (a0 : Nat) (x1 : Int32) (x3 : Int32) (x4 : Int32) (h : Hp) : Option (Int32 × Hp) := if 7 ≤ x4 then (some (x3, h)) else ((f_X1_fill (a0 + 36) (a0 + 1) x4 x1 h).bind (fun q2 => if q2.1 = 0 then (f_X8_alike_62 k17 a0 x1 x3 x4 q2.2) else ((f_X1_awayFrom (a0 + 36) (a0 + 16) q2.2).bind (fun q3 => if q3.1 = 0 then (lt (x3 ||| (1 <<< (x4 &&& 31))) (fun v4 => f_X8_alike_62 k17 a0 x1 v4 x4 q3.2)) else (f_X8_alike_62 k17 a0 x1 x3 x4 q3.2)))))
set_option maxHeartbeats 4000000 in
set_option maxRecDepth 100000 in
theorem t_X8_alike_17 {l : Launch} {D : va_G} {ad : Nat → Nat} {cA : Nat → ClassId} {d : Nat} (hdp : 6 ≤ d) {o : Int32 × Hp}  : ∀ (n : Nat) {a0 : Nat} {x1 : Int32} {x3 : Int32} {x4 : Int32} (k0 : kd a0 = 8) {h : Hp}, lp (F := Nat → Int32 → Int32 → Int32 → Hp → Option (Int32 × Hp)) (fun _ _ _ _ _ => none) (f_X8_alike_17) n a0 x1 x3 x4 h = some o → J l D ad cA (fun _ => True) (rmd (d + 1)) (0, 0) (mQ D ad cA (some (.int o.1)) o.2) cX8_alike RX8 5 (some .int) 17 [(0, .ref (ad a0)), (1, .int x1), (3, .int x3), (4, .int x4)] [] h := by
  intro n
  induction n with
  | zero =>
    intro a0 x1 x3 x4 k0 h hf
    have hf : (none : Option (Int32 × Hp)) = some o := hf
    cases hf
  | succ n hk17 =>
    intro a0 x1 x3 x4 k0 h hf
    have hf : f_X8_alike_17  (lp (F := Nat → Int32 → Int32 → Int32 → Hp → Option (Int32 × Hp)) (fun _ _ _ _ _ => none) (f_X8_alike_17) n) a0 x1 x3 x4 h = some o := hf
    unfold f_X8_alike_17 at hf
    refine j_iload (pc := 17) 3 dX8_alike_17 rfl ?_
    refine j_bipush (pc := 19) dX8_alike_19 (v := 7) (by decide) ?_
    refine j_icmp_ge (pc := 21) (tgt := 68) dX8_alike_21 (by decide) hf (fun _ hf => ?_) (fun _ hf => ?_)
    · refine j_iload_n (pc := 68) 2 dX8_alike_68 rfl rfl ?_
      exact j_iret (pc := 69) dX8_alike_69 rfl hf
    · refine j_aload_n (pc := 24) 0 dX8_alike_24 rfl rfl ?_
      refine j_getR (pc := 25) (n := 36) dX8_alike_25 fl336 k0 (by decide) rfl ?_
      refine j_aload_n (pc := 28) 0 dX8_alike_28 rfl rfl ?_
      refine j_getR (pc := 29) (n := 1) dX8_alike_29 fl332 k0 (by decide) rfl ?_
      refine j_iload (pc := 32) 3 dX8_alike_32 rfl ?_
      refine j_iload_n (pc := 34) 1 dX8_alike_34 rfl rfl ?_
      refine j_callVi (pc := 35) (d := d) (As := [.ref (ad (a0 + 1)), .int x4, .int x1]) (st := []) dX8_alike_35 s482 (lk_8_4 k0) (by decide) rfl rfl (by decide) (Nat.le_of_ble_eq_true rfl) (fun q hq => t_X1_fill (by omega) (lk_8_4 k0) (lk_8_0 k0) hq) hf (fun q2 hf => ?_)
      refine j_if_eq (pc := 38) (tgt := 62) dX8_alike_38 (by decide) hf (fun _ hf => ?_) (fun _ hf => ?_)
      · refine j_sub [0, 1, 2, 3] rfl ?_
        exact t_X8_alike_62 hdp hk17 k0 hf
      · refine j_aload_n (pc := 41) 0 dX8_alike_41 rfl rfl ?_
        refine j_getR (pc := 42) (n := 36) dX8_alike_42 fl336 k0 (by decide) rfl ?_
        refine j_aload_n (pc := 45) 0 dX8_alike_45 rfl rfl ?_
        refine j_getR (pc := 46) (n := 16) dX8_alike_46 fl335 k0 (by decide) rfl ?_
        refine j_callVi (pc := 49) (d := d) (As := [.ref (ad (a0 + 16))]) (st := []) dX8_alike_49 s575 (lk_8_4 k0) (by decide) rfl rfl (by decide) (Nat.le_of_ble_eq_true rfl) (fun q hq => t_X1_awayFrom (by omega) (lk_8_4 k0) (lk_8_3 k0) hq) hf (fun q3 hf => ?_)
        refine j_if_ne (pc := 52) (tgt := 62) dX8_alike_52 (by decide) hf (fun _ hf => ?_) (fun _ hf => ?_)
        · refine j_sub [0, 1, 2, 3] rfl ?_
          exact t_X8_alike_62 hdp hk17 k0 hf
        · refine j_iload_n (pc := 55) 2 dX8_alike_55 rfl rfl ?_
          refine j_iconst (pc := 56) dX8_alike_56 (v := 1) (by decide) ?_
          refine j_iload (pc := 57) 3 dX8_alike_57 rfl ?_
          refine j_ishl (pc := 59) dX8_alike_59  ?_
          refine j_ior (pc := 60) dX8_alike_60  ?_
          refine j_istore_nN (pc := 61) (lv' := fun v4 => [(3, .int v4), (0, .ref (ad a0)), (1, .int x1), (4, .int x4)]) dX8_alike_61 rfl (by decide) (fun _ => rfl) hf (fun v4 hf => ?_)
          refine j_sub [1, 2, 0, 3] rfl ?_
          exact t_X8_alike_62 hdp hk17 k0 hf
def f_X8_alike (a0 : Nat) (x1 : Int32) (h : Hp) : Option (Int32 × Hp) := (f_X8_fillNow a0 x1 h).bind (fun q1 => if q1.1 = 0 then (lp (F := Nat → Int32 → Int32 → Int32 → Hp → Option (Int32 × Hp)) (fun _ _ _ _ _ => none) (f_X8_alike_17) 1000 a0 x1 0 0 q1.2) else (some (q1.1, q1.2)))
set_option maxHeartbeats 4000000 in
set_option maxRecDepth 100000 in
theorem t_X8_alike {l : Launch} {D : va_G} {ad : Nat → Nat} {cA : Nat → ClassId} {d : Nat} (hdp : 7 ≤ d) {a0 : Nat} {x1 : Int32} (k0 : kd a0 = 8) {h : Hp} {o : Int32 × Hp} (hf : f_X8_alike a0 x1 h = some o) : Cr l D ad cA d yX8_alike cX8_alike 5 (some .int) [.ref (ad a0), .int x1] h (some (.int o.1)) o.2 := by
  obtain ⟨d, rfl⟩ : ∃ e, d = e + 1 := ⟨d - 1, by omega⟩
  have hdp : 6 ≤ d := by omega
  unfold f_X8_alike at hf
  refine Cr_of (by decide +kernel) rfl (Nat.le_of_ble_eq_true rfl) (lv0 := [(0, .ref (ad a0)), (1, .int x1)]) rfl ?_
  refine j_aload_n (pc := 0) 0 dX8_alike_0 rfl rfl ?_
  refine j_iload_n (pc := 1) 1 dX8_alike_1 rfl rfl ?_
  refine j_callVi (pc := 2) (d := d) (As := [.int x1]) (st := []) dX8_alike_2 s478 k0 (by decide) rfl rfl (by decide) (Nat.le_of_ble_eq_true rfl) (fun q hq => t_X8_fillNow (by omega) k0 hq) hf (fun q1 hf => ?_)
  refine j_istore_n (pc := 5) (lv' := [(2, .int q1.1), (0, .ref (ad a0)), (1, .int x1)]) dX8_alike_5 rfl (by decide) rfl ?_
  refine j_iload_n (pc := 6) 0 dX8_alike_6 rfl rfl ?_
  refine j_if_eq (pc := 7) (tgt := 12) dX8_alike_7 (by decide) hf (fun _ hf => ?_) (fun _ hf => ?_)
  · refine j_iconst (pc := 12) dX8_alike_12 (v := 0) (by decide) ?_
    refine j_istore_n (pc := 13) (lv' := [(3, .int 0), (2, .int q1.1), (0, .ref (ad a0)), (1, .int x1)]) dX8_alike_13 rfl (by decide) rfl ?_
    refine j_iconst (pc := 14) dX8_alike_14 (v := 0) (by decide) ?_
    refine j_istore (pc := 15) (lv' := [(4, .int 0), (3, .int 0), (2, .int q1.1), (0, .ref (ad a0)), (1, .int x1)]) dX8_alike_15 (by decide) rfl ?_
    refine j_sub [3, 4, 1, 0] rfl ?_
    exact t_X8_alike_17 hdp  1000 k0 hf
  · refine j_iload_n (pc := 10) 0 dX8_alike_10 rfl rfl ?_
    exact j_iret (pc := 11) dX8_alike_11 rfl hf
def f_X8_given (a0 : Nat) (x1 : Int32) (x2 : Int32) (h : Hp) : Option (Int32 × Hp) := (f_X8_fillByPrices a0 x1 h).bind (fun q1 => if q1.1 = 0 then (if x2 < 0 then (some ((-1), q1.2)) else (if x2 < (q1.2.1 (a0 + 16 + 1) 2) then (if ix x2 60 = true then (some (q1.2.1 (a0 + 16 + 1 + 2) (Int32.toNatClampNeg x2), q1.2)) else none) else (some ((-1), q1.2)))) else (some (q1.1, q1.2)))
set_option maxHeartbeats 4000000 in
set_option maxRecDepth 100000 in
theorem t_X8_given {l : Launch} {D : va_G} {ad : Nat → Nat} {cA : Nat → ClassId} {d : Nat} (hdp : 7 ≤ d) {a0 : Nat} {x1 : Int32} {x2 : Int32} (k0 : kd a0 = 8) {h : Hp} {o : Int32 × Hp} (hf : f_X8_given a0 x1 x2 h = some o) : Cr l D ad cA d yX8_given cX8_given 4 (some .int) [.ref (ad a0), .int x1, .int x2] h (some (.int o.1)) o.2 := by
  obtain ⟨d, rfl⟩ : ∃ e, d = e + 1 := ⟨d - 1, by omega⟩
  have hdp : 6 ≤ d := by omega
  unfold f_X8_given at hf
  refine Cr_of (by decide +kernel) rfl (Nat.le_of_ble_eq_true rfl) (lv0 := [(0, .ref (ad a0)), (1, .int x1), (2, .int x2)]) rfl ?_
  refine j_aload_n (pc := 0) 0 dX8_given_0 rfl rfl ?_
  refine j_iload_n (pc := 1) 1 dX8_given_1 rfl rfl ?_
  refine j_callVi (pc := 2) (d := d) (As := [.int x1]) (st := []) dX8_given_2 s563 k0 (by decide) rfl rfl (by decide) (Nat.le_of_ble_eq_true rfl) (fun q hq => t_X8_fillByPrices (by omega) k0 hq) hf (fun q1 hf => ?_)
  refine j_istore_n (pc := 5) (lv' := [(3, .int q1.1), (0, .ref (ad a0)), (1, .int x1), (2, .int x2)]) dX8_given_5 rfl (by decide) rfl ?_
  refine j_iload_n (pc := 6) 0 dX8_given_6 rfl rfl ?_
  refine j_if_eq (pc := 7) (tgt := 12) dX8_given_7 (by decide) hf (fun _ hf => ?_) (fun _ hf => ?_)
  · refine j_iload_n (pc := 12) 3 dX8_given_12 rfl rfl ?_
    refine j_if_lt (pc := 13) (tgt := 30) dX8_given_13 (by decide) hf (fun _ hf => ?_) (fun _ hf => ?_)
    · refine j_iconst (pc := 30) dX8_given_30 (v := -1) (by decide) ?_
      exact j_iret (pc := 31) dX8_given_31 rfl hf
    · refine j_iload_n (pc := 16) 3 dX8_given_16 rfl rfl ?_
      refine j_aload_n (pc := 17) 1 dX8_given_17 rfl rfl ?_
      refine j_getR (pc := 18) (n := 16) dX8_given_18 fl335 k0 (by decide) rfl ?_
      refine j_getR (pc := 21) (n := 1) dX8_given_21 fl194 (lk_8_3 k0) (by decide) rfl ?_
      refine j_getI (pc := 24) dX8_given_24 fl159 (lk_1_0 (lk_8_3 k0)) (by decide) rfl ?_
      refine j_icmp_lt (pc := 27) (tgt := 32) dX8_given_27 (by decide) hf (fun _ hf => ?_) (fun _ hf => ?_)
      · refine j_aload_n (pc := 32) 1 dX8_given_32 rfl rfl ?_
        refine j_getR (pc := 33) (n := 16) dX8_given_33 fl335 k0 (by decide) rfl ?_
        refine j_getR (pc := 36) (n := 1) dX8_given_36 fl194 (lk_8_3 k0) (by decide) rfl ?_
        refine j_getR (pc := 39) (n := 2) dX8_given_39 fl157 (lk_1_0 (lk_8_3 k0)) (by decide) rfl ?_
        refine j_iload_n (pc := 42) 3 dX8_given_42 rfl rfl ?_
        refine j_iaload (pc := 43) dX8_given_43 (lk_0_1 (lk_1_0 (lk_8_3 k0))) (ll_0_1 (lk_1_0 (lk_8_3 k0))) hf (fun _ hf => ?_)
        exact j_iret (pc := 44) dX8_given_44 rfl hf
      · refine j_iconst (pc := 30) dX8_given_30 (v := -1) (by decide) ?_
        exact j_iret (pc := 31) dX8_given_31 rfl hf
  · refine j_iload_n (pc := 10) 0 dX8_given_10 rfl rfl ?_
    exact j_iret (pc := 11) dX8_given_11 rfl hf
def f_X8_house (a0 : Nat) (x1 : Int32) (x2 : Int32) (h : Hp) : Option (Int32 × Hp) := (f_X8_within x2 5 h).bind (fun q1 => if q1.1 = 0 then (some ((-1), q1.2)) else ((f_X8_fillNow a0 x1 q1.2).bind (fun q2 => if q2.1 = 0 then (if ix x2 6 = true then (some (q2.2.1 (a0 + 16 + 10) (Int32.toNatClampNeg x2), q2.2)) else none) else (some (q2.1, q2.2)))))
set_option maxHeartbeats 4000000 in
set_option maxRecDepth 100000 in
theorem t_X8_house {l : Launch} {D : va_G} {ad : Nat → Nat} {cA : Nat → ClassId} {d : Nat} (hdp : 7 ≤ d) {a0 : Nat} {x1 : Int32} {x2 : Int32} (k0 : kd a0 = 8) {h : Hp} {o : Int32 × Hp} (hf : f_X8_house a0 x1 x2 h = some o) : Cr l D ad cA d yX8_house cX8_house 4 (some .int) [.ref (ad a0), .int x1, .int x2] h (some (.int o.1)) o.2 := by
  obtain ⟨d, rfl⟩ : ∃ e, d = e + 1 := ⟨d - 1, by omega⟩
  have hdp : 6 ≤ d := by omega
  unfold f_X8_house at hf
  refine Cr_of (by decide +kernel) rfl (Nat.le_of_ble_eq_true rfl) (lv0 := [(0, .ref (ad a0)), (1, .int x1), (2, .int x2)]) rfl ?_
  refine j_iload_n (pc := 0) 2 dX8_house_0 rfl rfl ?_
  refine j_iconst (pc := 1) dX8_house_1 (v := 5) (by decide) ?_
  refine j_callSi (pc := 2) (d := d) (As := [.int x2, .int 5]) (st := []) dX8_house_2 s370 rfl rfl (by decide) (Nat.le_of_ble_eq_true rfl) (fun q hq => t_X8_within  hq) hf (fun q1 hf => ?_)
  refine j_if_ne (pc := 5) (tgt := 10) dX8_house_5 (by decide) hf (fun _ hf => ?_) (fun _ hf => ?_)
  · refine j_aload_n (pc := 10) 0 dX8_house_10 rfl rfl ?_
    refine j_iload_n (pc := 11) 1 dX8_house_11 rfl rfl ?_
    refine j_callVi (pc := 12) (d := d) (As := [.int x1]) (st := []) dX8_house_12 s478 k0 (by decide) rfl rfl (by decide) (Nat.le_of_ble_eq_true rfl) (fun q hq => t_X8_fillNow (by omega) k0 hq) hf (fun q2 hf => ?_)
    refine j_istore_n (pc := 15) (lv' := [(3, .int q2.1), (0, .ref (ad a0)), (1, .int x1), (2, .int x2)]) dX8_house_15 rfl (by decide) rfl ?_
    refine j_iload_n (pc := 16) 0 dX8_house_16 rfl rfl ?_
    refine j_if_eq (pc := 17) (tgt := 24) dX8_house_17 (by decide) hf (fun _ hf => ?_) (fun _ hf => ?_)
    · refine j_aload_n (pc := 24) 1 dX8_house_24 rfl rfl ?_
      refine j_getR (pc := 25) (n := 16) dX8_house_25 fl335 k0 (by decide) rfl ?_
      refine j_getR (pc := 28) (n := 10) dX8_house_28 fl197 (lk_8_3 k0) (by decide) rfl ?_
      refine j_iload_n (pc := 31) 3 dX8_house_31 rfl rfl ?_
      refine j_iaload (pc := 32) dX8_house_32 (lk_1_1 (lk_8_3 k0)) (ll_1_1 (lk_8_3 k0)) hf (fun _ hf => ?_)
      exact j_iret (pc := 33) dX8_house_33 rfl hf
    · refine j_iload_n (pc := 20) 0 dX8_house_20 rfl rfl ?_
      refine j_goto (pc := 21) (tgt := 33) dX8_house_21 (by decide) ?_
      exact j_iret (pc := 33) dX8_house_33 rfl hf
  · refine j_iconst (pc := 8) dX8_house_8 (v := -1) (by decide) ?_
    exact j_iret (pc := 9) dX8_house_9 rfl hf
def f_X8_list (a0 : Nat) (x1 : Int32) (x2 : Int32) (h : Hp) : Option (Int32 × Hp) := (f_X8_within x2 5 h).bind (fun q1 => if q1.1 = 0 then (some ((-1), q1.2)) else ((f_X8_fillNow a0 x1 q1.2).bind (fun q2 => if q2.1 = 0 then (if ix x2 6 = true then (some (q2.2.1 (a0 + 16 + 1 + 1) (Int32.toNatClampNeg x2), q2.2)) else none) else (some (q2.1, q2.2)))))
set_option maxHeartbeats 4000000 in
set_option maxRecDepth 100000 in
theorem t_X8_list {l : Launch} {D : va_G} {ad : Nat → Nat} {cA : Nat → ClassId} {d : Nat} (hdp : 7 ≤ d) {a0 : Nat} {x1 : Int32} {x2 : Int32} (k0 : kd a0 = 8) {h : Hp} {o : Int32 × Hp} (hf : f_X8_list a0 x1 x2 h = some o) : Cr l D ad cA d yX8_list cX8_list 4 (some .int) [.ref (ad a0), .int x1, .int x2] h (some (.int o.1)) o.2 := by
  obtain ⟨d, rfl⟩ : ∃ e, d = e + 1 := ⟨d - 1, by omega⟩
  have hdp : 6 ≤ d := by omega
  unfold f_X8_list at hf
  refine Cr_of (by decide +kernel) rfl (Nat.le_of_ble_eq_true rfl) (lv0 := [(0, .ref (ad a0)), (1, .int x1), (2, .int x2)]) rfl ?_
  refine j_iload_n (pc := 0) 2 dX8_list_0 rfl rfl ?_
  refine j_iconst (pc := 1) dX8_list_1 (v := 5) (by decide) ?_
  refine j_callSi (pc := 2) (d := d) (As := [.int x2, .int 5]) (st := []) dX8_list_2 s370 rfl rfl (by decide) (Nat.le_of_ble_eq_true rfl) (fun q hq => t_X8_within  hq) hf (fun q1 hf => ?_)
  refine j_if_ne (pc := 5) (tgt := 10) dX8_list_5 (by decide) hf (fun _ hf => ?_) (fun _ hf => ?_)
  · refine j_aload_n (pc := 10) 0 dX8_list_10 rfl rfl ?_
    refine j_iload_n (pc := 11) 1 dX8_list_11 rfl rfl ?_
    refine j_callVi (pc := 12) (d := d) (As := [.int x1]) (st := []) dX8_list_12 s478 k0 (by decide) rfl rfl (by decide) (Nat.le_of_ble_eq_true rfl) (fun q hq => t_X8_fillNow (by omega) k0 hq) hf (fun q2 hf => ?_)
    refine j_istore_n (pc := 15) (lv' := [(3, .int q2.1), (0, .ref (ad a0)), (1, .int x1), (2, .int x2)]) dX8_list_15 rfl (by decide) rfl ?_
    refine j_iload_n (pc := 16) 0 dX8_list_16 rfl rfl ?_
    refine j_if_eq (pc := 17) (tgt := 24) dX8_list_17 (by decide) hf (fun _ hf => ?_) (fun _ hf => ?_)
    · refine j_aload_n (pc := 24) 1 dX8_list_24 rfl rfl ?_
      refine j_getR (pc := 25) (n := 16) dX8_list_25 fl335 k0 (by decide) rfl ?_
      refine j_getR (pc := 28) (n := 1) dX8_list_28 fl194 (lk_8_3 k0) (by decide) rfl ?_
      refine j_getR (pc := 31) (n := 1) dX8_list_31 fl155 (lk_1_0 (lk_8_3 k0)) (by decide) rfl ?_
      refine j_iload_n (pc := 34) 3 dX8_list_34 rfl rfl ?_
      refine j_iaload (pc := 35) dX8_list_35 (lk_0_0 (lk_1_0 (lk_8_3 k0))) (ll_0_0 (lk_1_0 (lk_8_3 k0))) hf (fun _ hf => ?_)
      exact j_iret (pc := 36) dX8_list_36 rfl hf
    · refine j_iload_n (pc := 20) 0 dX8_list_20 rfl rfl ?_
      refine j_goto (pc := 21) (tgt := 36) dX8_list_21 (by decide) ?_
      exact j_iret (pc := 36) dX8_list_36 rfl hf
  · refine j_iconst (pc := 8) dX8_list_8 (v := -1) (by decide) ?_
    exact j_iret (pc := 9) dX8_list_9 rfl hf
def f_X8_needs_153 (k65 : Nat → Int32 → Int32 → Int32 → Int32 → Int32 → Hp → Option (Int32 × Hp)) (a0 : Nat) (x2 : Int32) (x3 : Int32) (x5 : Int32) (x6 : Int32) (x7 : Int32) (h : Hp) : Option (Int32 × Hp) := lt (x7 + 1) (fun v9 => k65 a0 x2 x3 x5 x6 v9 h)
set_option maxHeartbeats 4000000 in
set_option maxRecDepth 100000 in
theorem t_X8_needs_153 {l : Launch} {D : va_G} {ad : Nat → Nat} {cA : Nat → ClassId} {d : Nat} (hdp : 6 ≤ d) {o : Int32 × Hp} {k65 : Nat → Int32 → Int32 → Int32 → Int32 → Int32 → Hp → Option (Int32 × Hp)} (hk65 : ∀ {a0 : Nat} {x2 : Int32} {x3 : Int32} {x5 : Int32} {x6 : Int32} {x7 : Int32} (k0 : kd a0 = 8) {h : Hp}, k65 a0 x2 x3 x5 x6 x7 h = some o → J l D ad cA (fun _ => True) (rmd (d + 1)) (0, 0) (mQ D ad cA (some (.int o.1)) o.2) cX8_needs RX8 8 (some .int) 65 [(0, .ref (ad a0)), (2, .int x2), (3, .int x3), (5, .int x5), (6, .int x6), (7, .int x7)] [] h) {a0 : Nat} {x2 : Int32} {x3 : Int32} {x5 : Int32} {x6 : Int32} {x7 : Int32} (k0 : kd a0 = 8) {h : Hp} (hf : f_X8_needs_153 k65 a0 x2 x3 x5 x6 x7 h = some o) : J l D ad cA (fun _ => True) (rmd (d + 1)) (0, 0) (mQ D ad cA (some (.int o.1)) o.2) cX8_needs RX8 8 (some .int) 153 [(0, .ref (ad a0)), (2, .int x2), (3, .int x3), (5, .int x5), (6, .int x6), (7, .int x7)] [] h := by
  unfold f_X8_needs_153 at hf
  refine j_iinc (pc := 153) 5 (c := 1) (lv' := fun v9 => [(7, .int v9), (0, .ref (ad a0)), (2, .int x2), (3, .int x3), (5, .int x5), (6, .int x6)]) dX8_needs_153 rfl (by decide) (by decide) (fun _ => rfl) hf (fun v9 hf => ?_)
  refine j_goto (pc := 156) (tgt := 65) dX8_needs_156 (by decide) ?_
  refine j_sub [1, 2, 3, 4, 5, 0] rfl ?_
  exact hk65 k0 hf
def f_X8_needs_65 (k65 : Nat → Int32 → Int32 → Int32 → Int32 → Int32 → Hp → Option (Int32 × Hp)) (a0 : Nat) (x2 : Int32) (x3 : Int32) (x5 : Int32) (x6 : Int32) (x7 : Int32) (h : Hp) : Option (Int32 × Hp) := if 300 < x7 then (some ((-5), h)) else (if ix x6 24 = true then (if 100000 < ((h.1 (a0 + 1 + 1) (Int32.toNatClampNeg x6)) + x7) then (some ((-5), h)) else (if ix x6 24 = true then (if ix x6 24 = true then (lt (sI h (a0 + 11 + 1) (Int32.toNatClampNeg x6) ((h.1 (a0 + 1 + 1) (Int32.toNatClampNeg x6)) + x7)) (fun m7 => (f_X1_fill (a0 + 36) (a0 + 11) (m7.1 (a0 + 1) 5) x3 m7).bind (fun q8 => if q8.1 = 0 then (f_X8_needs_153 k65 a0 x2 x3 x5 x6 x7 q8.2) else (if ix x2 6 = true then (if (q8.2.1 (a0 + 36 + 10) (Int32.toNatClampNeg x2)) ≤ x5 then (f_X8_needs_153 k65 a0 x2 x3 x5 x6 x7 q8.2) else (some (x7, q8.2))) else none)))) else none) else none)) else none)
set_option maxHeartbeats 4000000 in
set_option maxRecDepth 100000 in
theorem t_X8_needs_65 {l : Launch} {D : va_G} {ad : Nat → Nat} {cA : Nat → ClassId} {d : Nat} (hdp : 6 ≤ d) {o : Int32 × Hp}  : ∀ (n : Nat) {a0 : Nat} {x2 : Int32} {x3 : Int32} {x5 : Int32} {x6 : Int32} {x7 : Int32} (k0 : kd a0 = 8) {h : Hp}, lp (F := Nat → Int32 → Int32 → Int32 → Int32 → Int32 → Hp → Option (Int32 × Hp)) (fun _ _ _ _ _ _ _ => none) (f_X8_needs_65) n a0 x2 x3 x5 x6 x7 h = some o → J l D ad cA (fun _ => True) (rmd (d + 1)) (0, 0) (mQ D ad cA (some (.int o.1)) o.2) cX8_needs RX8 8 (some .int) 65 [(0, .ref (ad a0)), (2, .int x2), (3, .int x3), (5, .int x5), (6, .int x6), (7, .int x7)] [] h := by
  intro n
  induction n with
  | zero =>
    intro a0 x2 x3 x5 x6 x7 k0 h hf
    have hf : (none : Option (Int32 × Hp)) = some o := hf
    cases hf
  | succ n hk65 =>
    intro a0 x2 x3 x5 x6 x7 k0 h hf
    have hf : f_X8_needs_65  (lp (F := Nat → Int32 → Int32 → Int32 → Int32 → Int32 → Hp → Option (Int32 × Hp)) (fun _ _ _ _ _ _ _ => none) (f_X8_needs_65) n) a0 x2 x3 x5 x6 x7 h = some o := hf
    unfold f_X8_needs_65 at hf
    refine j_iload (pc := 65) 5 dX8_needs_65 rfl ?_
    refine j_sipush (pc := 67) dX8_needs_67 (v := 300) (by decide) ?_
    refine j_icmp_gt (pc := 70) (tgt := 159) dX8_needs_70 (by decide) hf (fun _ hf => ?_) (fun _ hf => ?_)
    · refine j_bipush (pc := 159) dX8_needs_159 (v := -5) (by decide) ?_
      exact j_iret (pc := 161) dX8_needs_161 rfl hf
    · refine j_aload_n (pc := 73) 0 dX8_needs_73 rfl rfl ?_
      refine j_getR (pc := 74) (n := 1) dX8_needs_74 fl332 k0 (by decide) rfl ?_
      refine j_getR (pc := 77) (n := 1) dX8_needs_77 fl99 (lk_8_0 k0) (by decide) rfl ?_
      refine j_iload (pc := 80) 4 dX8_needs_80 rfl ?_
      refine j_iaload (pc := 82) dX8_needs_82 (lk_3_0 (lk_8_0 k0)) (ll_3_0 (lk_8_0 k0)) hf (fun _ hf => ?_)
      refine j_iload (pc := 83) 5 dX8_needs_83 rfl ?_
      refine j_iadd (pc := 85) dX8_needs_85  ?_
      refine j_ldc (pc := 86) dX8_needs_86 (v := 100000) w_c373 ?_
      refine j_icmp_gt (pc := 88) (tgt := 159) dX8_needs_88 (by decide) hf (fun _ hf => ?_) (fun _ hf => ?_)
      · refine j_bipush (pc := 159) dX8_needs_159 (v := -5) (by decide) ?_
        exact j_iret (pc := 161) dX8_needs_161 rfl hf
      · refine j_aload_n (pc := 91) 0 dX8_needs_91 rfl rfl ?_
        refine j_getR (pc := 92) (n := 11) dX8_needs_92 fl334 k0 (by decide) rfl ?_
        refine j_getR (pc := 95) (n := 1) dX8_needs_95 fl99 (lk_8_2 k0) (by decide) rfl ?_
        refine j_iload (pc := 98) 4 dX8_needs_98 rfl ?_
        refine j_aload_n (pc := 100) 0 dX8_needs_100 rfl rfl ?_
        refine j_getR (pc := 101) (n := 1) dX8_needs_101 fl332 k0 (by decide) rfl ?_
        refine j_getR (pc := 104) (n := 1) dX8_needs_104 fl99 (lk_8_0 k0) (by decide) rfl ?_
        refine j_iload (pc := 107) 4 dX8_needs_107 rfl ?_
        refine j_iaload (pc := 109) dX8_needs_109 (lk_3_0 (lk_8_0 k0)) (ll_3_0 (lk_8_0 k0)) hf (fun _ hf => ?_)
        refine j_iload (pc := 110) 5 dX8_needs_110 rfl ?_
        refine j_iadd (pc := 112) dX8_needs_112  ?_
        refine j_iastore (pc := 113) dX8_needs_113 (lk_3_0 (lk_8_2 k0)) (ll_3_0 (lk_8_2 k0)) hf (fun m7 hf => ?_)
        refine j_aload_n (pc := 114) 0 dX8_needs_114 rfl rfl ?_
        refine j_getR (pc := 115) (n := 36) dX8_needs_115 fl336 k0 (by decide) rfl ?_
        refine j_aload_n (pc := 118) 0 dX8_needs_118 rfl rfl ?_
        refine j_getR (pc := 119) (n := 11) dX8_needs_119 fl334 k0 (by decide) rfl ?_
        refine j_aload_n (pc := 122) 0 dX8_needs_122 rfl rfl ?_
        refine j_getR (pc := 123) (n := 1) dX8_needs_123 fl332 k0 (by decide) rfl ?_
        refine j_getI (pc := 126) dX8_needs_126 fl117 (lk_8_0 k0) (by decide) rfl ?_
        refine j_iload_n (pc := 129) 2 dX8_needs_129 rfl rfl ?_
        refine j_callVi (pc := 130) (d := d) (As := [.ref (ad (a0 + 11)), .int (m7.1 (a0 + 1) 5), .int x3]) (st := []) dX8_needs_130 s482 (lk_8_4 k0) (by decide) rfl rfl (by decide) (Nat.le_of_ble_eq_true rfl) (fun q hq => t_X1_fill (by omega) (lk_8_4 k0) (lk_8_2 k0) hq) hf (fun q8 hf => ?_)
        refine j_if_eq (pc := 133) (tgt := 153) dX8_needs_133 (by decide) hf (fun _ hf => ?_) (fun _ hf => ?_)
        · refine j_sub [0, 1, 2, 3, 4, 5] rfl ?_
          exact t_X8_needs_153 hdp hk65 k0 hf
        · refine j_aload_n (pc := 136) 0 dX8_needs_136 rfl rfl ?_
          refine j_getR (pc := 137) (n := 36) dX8_needs_137 fl336 k0 (by decide) rfl ?_
          refine j_getR (pc := 140) (n := 10) dX8_needs_140 fl197 (lk_8_4 k0) (by decide) rfl ?_
          refine j_iload_n (pc := 143) 1 dX8_needs_143 rfl rfl ?_
          refine j_iaload (pc := 144) dX8_needs_144 (lk_1_1 (lk_8_4 k0)) (ll_1_1 (lk_8_4 k0)) hf (fun _ hf => ?_)
          refine j_iload (pc := 145) 3 dX8_needs_145 rfl ?_
          refine j_icmp_le (pc := 147) (tgt := 153) dX8_needs_147 (by decide) hf (fun _ hf => ?_) (fun _ hf => ?_)
          · refine j_sub [0, 1, 2, 3, 4, 5] rfl ?_
            exact t_X8_needs_153 hdp hk65 k0 hf
          · refine j_iload (pc := 150) 5 dX8_needs_150 rfl ?_
            exact j_iret (pc := 152) dX8_needs_152 rfl hf
def f_X8_needs (a0 : Nat) (x1 : Int32) (x2 : Int32) (x3 : Int32) (h : Hp) : Option (Int32 × Hp) := (f_X8_within x1 3 h).bind (fun q1 => if q1.1 = 0 then (some ((-1), q1.2)) else ((f_X8_within x2 5 q1.2).bind (fun q2 => if q2.1 = 0 then (some ((-1), q2.2)) else ((f_X8_fillNow a0 x3 q2.2).bind (fun q3 => if q3.1 = 0 then (if ix x2 6 = true then (lt (q3.2.1 (a0 + 16 + 10) (Int32.toNatClampNeg x2)) (fun v4 => (f_X8_cellOf x1 x2 q3.2).bind (fun q5 => (f_X3_copyFrom (a0 + 11) (a0 + 1) q5.2).bind (fun q6 => lp (F := Nat → Int32 → Int32 → Int32 → Int32 → Int32 → Hp → Option (Int32 × Hp)) (fun _ _ _ _ _ _ _ => none) (f_X8_needs_65) 1000 a0 x2 x3 v4 q5.1 1 q6.2)))) else none) else (some (q3.1, q3.2)))))))
set_option maxHeartbeats 4000000 in
set_option maxRecDepth 100000 in
theorem t_X8_needs {l : Launch} {D : va_G} {ad : Nat → Nat} {cA : Nat → ClassId} {d : Nat} (hdp : 7 ≤ d) {a0 : Nat} {x1 : Int32} {x2 : Int32} {x3 : Int32} (k0 : kd a0 = 8) {h : Hp} {o : Int32 × Hp} (hf : f_X8_needs a0 x1 x2 x3 h = some o) : Cr l D ad cA d yX8_needs cX8_needs 8 (some .int) [.ref (ad a0), .int x1, .int x2, .int x3] h (some (.int o.1)) o.2 := by
  obtain ⟨d, rfl⟩ : ∃ e, d = e + 1 := ⟨d - 1, by omega⟩
  have hdp : 6 ≤ d := by omega
  unfold f_X8_needs at hf
  refine Cr_of (by decide +kernel) rfl (Nat.le_of_ble_eq_true rfl) (lv0 := [(0, .ref (ad a0)), (1, .int x1), (2, .int x2), (3, .int x3)]) rfl ?_
  refine j_iload_n (pc := 0) 1 dX8_needs_0 rfl rfl ?_
  refine j_iconst (pc := 1) dX8_needs_1 (v := 3) (by decide) ?_
  refine j_callSi (pc := 2) (d := d) (As := [.int x1, .int 3]) (st := []) dX8_needs_2 s370 rfl rfl (by decide) (Nat.le_of_ble_eq_true rfl) (fun q hq => t_X8_within  hq) hf (fun q1 hf => ?_)
  refine j_if_eq (pc := 5) (tgt := 16) dX8_needs_5 (by decide) hf (fun _ hf => ?_) (fun _ hf => ?_)
  · refine j_iconst (pc := 16) dX8_needs_16 (v := -1) (by decide) ?_
    exact j_iret (pc := 17) dX8_needs_17 rfl hf
  · refine j_iload_n (pc := 8) 2 dX8_needs_8 rfl rfl ?_
    refine j_iconst (pc := 9) dX8_needs_9 (v := 5) (by decide) ?_
    refine j_callSi (pc := 10) (d := d) (As := [.int x2, .int 5]) (st := []) dX8_needs_10 s370 rfl rfl (by decide) (Nat.le_of_ble_eq_true rfl) (fun q hq => t_X8_within  hq) hf (fun q2 hf => ?_)
    refine j_if_ne (pc := 13) (tgt := 18) dX8_needs_13 (by decide) hf (fun _ hf => ?_) (fun _ hf => ?_)
    · refine j_aload_n (pc := 18) 0 dX8_needs_18 rfl rfl ?_
      refine j_iload_n (pc := 19) 3 dX8_needs_19 rfl rfl ?_
      refine j_callVi (pc := 20) (d := d) (As := [.int x3]) (st := []) dX8_needs_20 s478 k0 (by decide) rfl rfl (by decide) (Nat.le_of_ble_eq_true rfl) (fun q hq => t_X8_fillNow (by omega) k0 hq) hf (fun q3 hf => ?_)
      refine j_istore (pc := 23) (lv' := [(4, .int q3.1), (0, .ref (ad a0)), (1, .int x1), (2, .int x2), (3, .int x3)]) dX8_needs_23 (by decide) rfl ?_
      refine j_iload (pc := 25) 0 dX8_needs_25 rfl ?_
      refine j_if_eq (pc := 27) (tgt := 33) dX8_needs_27 (by decide) hf (fun _ hf => ?_) (fun _ hf => ?_)
      · refine j_aload_n (pc := 33) 1 dX8_needs_33 rfl rfl ?_
        refine j_getR (pc := 34) (n := 16) dX8_needs_34 fl335 k0 (by decide) rfl ?_
        refine j_getR (pc := 37) (n := 10) dX8_needs_37 fl197 (lk_8_3 k0) (by decide) rfl ?_
        refine j_iload_n (pc := 40) 3 dX8_needs_40 rfl rfl ?_
        refine j_iaload (pc := 41) dX8_needs_41 (lk_1_1 (lk_8_3 k0)) (ll_1_1 (lk_8_3 k0)) hf (fun _ hf => ?_)
        refine j_istoreN (pc := 42) (lv' := fun v4 => [(5, .int v4), (4, .int q3.1), (0, .ref (ad a0)), (1, .int x1), (2, .int x2), (3, .int x3)]) dX8_needs_42 (by decide) (fun _ => rfl) hf (fun v4 hf => ?_)
        refine j_iload_n (pc := 44) 3 dX8_needs_44 rfl rfl ?_
        refine j_iload_n (pc := 45) 4 dX8_needs_45 rfl rfl ?_
        refine j_callSi (pc := 46) (d := d) (As := [.int x1, .int x2]) (st := []) dX8_needs_46 s374 rfl rfl (by decide) (Nat.le_of_ble_eq_true rfl) (fun q hq => t_X8_cellOf  hq) hf (fun q5 hf => ?_)
        refine j_istore (pc := 49) (lv' := [(6, .int q5.1), (5, .int v4), (4, .int q3.1), (0, .ref (ad a0)), (1, .int x1), (2, .int x2), (3, .int x3)]) dX8_needs_49 (by decide) rfl ?_
        refine j_aload_n (pc := 51) 3 dX8_needs_51 rfl rfl ?_
        refine j_getR (pc := 52) (n := 11) dX8_needs_52 fl334 k0 (by decide) rfl ?_
        refine j_aload_n (pc := 55) 3 dX8_needs_55 rfl rfl ?_
        refine j_getR (pc := 56) (n := 1) dX8_needs_56 fl332 k0 (by decide) rfl ?_
        refine j_callVv (pc := 59) (d := d) (As := [.ref (ad (a0 + 1))]) (st := []) dX8_needs_59 s462 (lk_8_2 k0) (by decide) rfl rfl (by decide) (Nat.le_of_ble_eq_true rfl) (fun q hq => t_X3_copyFrom (by omega) (lk_8_2 k0) (lk_8_0 k0) hq) hf (fun q6 hf => ?_)
        refine j_iconst (pc := 62) dX8_needs_62 (v := 1) (by decide) ?_
        refine j_istore (pc := 63) (lv' := [(7, .int 1), (6, .int q5.1), (5, .int v4), (4, .int q3.1), (0, .ref (ad a0)), (1, .int x1), (2, .int x2), (3, .int x3)]) dX8_needs_63 (by decide) rfl ?_
        refine j_sub [4, 6, 7, 2, 1, 0] rfl ?_
        exact t_X8_needs_65 hdp  1000 k0 hf
      · refine j_iload (pc := 30) 0 dX8_needs_30 rfl ?_
        exact j_iret (pc := 32) dX8_needs_32 rfl hf
    · refine j_iconst (pc := 16) dX8_needs_16 (v := -1) (by decide) ?_
      exact j_iret (pc := 17) dX8_needs_17 rfl hf
def f_X8_quota (a0 : Nat) (x1 : Int32) (h : Hp) : Option (Int32 × Hp) := (f_X8_fillNow a0 x1 h).bind (fun q1 => if q1.1 = 0 then ((f_X1_outsideQuota (a0 + 16) (a0 + 1) x1 q1.2).bind (fun q2 => some (q2.1, q2.2))) else (some (q1.1, q1.2)))
set_option maxHeartbeats 4000000 in
set_option maxRecDepth 100000 in
theorem t_X8_quota {l : Launch} {D : va_G} {ad : Nat → Nat} {cA : Nat → ClassId} {d : Nat} (hdp : 7 ≤ d) {a0 : Nat} {x1 : Int32} (k0 : kd a0 = 8) {h : Hp} {o : Int32 × Hp} (hf : f_X8_quota a0 x1 h = some o) : Cr l D ad cA d yX8_quota cX8_quota 3 (some .int) [.ref (ad a0), .int x1] h (some (.int o.1)) o.2 := by
  obtain ⟨d, rfl⟩ : ∃ e, d = e + 1 := ⟨d - 1, by omega⟩
  have hdp : 6 ≤ d := by omega
  unfold f_X8_quota at hf
  refine Cr_of (by decide +kernel) rfl (Nat.le_of_ble_eq_true rfl) (lv0 := [(0, .ref (ad a0)), (1, .int x1)]) rfl ?_
  refine j_aload_n (pc := 0) 0 dX8_quota_0 rfl rfl ?_
  refine j_iload_n (pc := 1) 1 dX8_quota_1 rfl rfl ?_
  refine j_callVi (pc := 2) (d := d) (As := [.int x1]) (st := []) dX8_quota_2 s478 k0 (by decide) rfl rfl (by decide) (Nat.le_of_ble_eq_true rfl) (fun q hq => t_X8_fillNow (by omega) k0 hq) hf (fun q1 hf => ?_)
  refine j_istore_n (pc := 5) (lv' := [(2, .int q1.1), (0, .ref (ad a0)), (1, .int x1)]) dX8_quota_5 rfl (by decide) rfl ?_
  refine j_iload_n (pc := 6) 0 dX8_quota_6 rfl rfl ?_
  refine j_if_eq (pc := 7) (tgt := 14) dX8_quota_7 (by decide) hf (fun _ hf => ?_) (fun _ hf => ?_)
  · refine j_aload_n (pc := 14) 1 dX8_quota_14 rfl rfl ?_
    refine j_getR (pc := 15) (n := 16) dX8_quota_15 fl335 k0 (by decide) rfl ?_
    refine j_aload_n (pc := 18) 1 dX8_quota_18 rfl rfl ?_
    refine j_getR (pc := 19) (n := 1) dX8_quota_19 fl332 k0 (by decide) rfl ?_
    refine j_iload_n (pc := 22) 2 dX8_quota_22 rfl rfl ?_
    refine j_callVi (pc := 23) (d := d) (As := [.ref (ad (a0 + 1)), .int x1]) (st := []) dX8_quota_23 s621 (lk_8_3 k0) (by decide) rfl rfl (by decide) (Nat.le_of_ble_eq_true rfl) (fun q hq => t_X1_outsideQuota (by omega) (lk_8_3 k0) (lk_8_0 k0) hq) hf (fun q2 hf => ?_)
    exact j_iret (pc := 26) dX8_quota_26 rfl hf
  · refine j_iload_n (pc := 10) 0 dX8_quota_10 rfl rfl ?_
    refine j_goto (pc := 11) (tgt := 26) dX8_quota_11 (by decide) ?_
    exact j_iret (pc := 26) dX8_quota_26 rfl hf
def f_X8_span_70  (x3 : Int32) (y0 : Int32) (y1 : Int32) (b2 : Nat) (b3 : Nat) (h : Hp) : Option (Int64 × Hp) := (f_X0_edge b3 b2 y1 y0 x3 h).bind (fun q4 => some (q4.1, q4.2))
set_option maxHeartbeats 4000000 in
set_option maxRecDepth 100000 in
theorem t_X8_span_70 {l : Launch} {D : va_G} {ad : Nat → Nat} {cA : Nat → ClassId} {d : Nat} (hdp : 6 ≤ d) {o : Int64 × Hp}  {x3 : Int32} {y0 : Int32} {y1 : Int32} {b2 : Nat} {b3 : Nat} (kb2 : kd b2 = 3) (kb3 : kd b3 = 0) {h : Hp} (hf : f_X8_span_70  x3 y0 y1 b2 b3 h = some o) : J l D ad cA (fun _ => True) (rmd (d + 1)) (0, 0) (mQ D ad cA (some (.long o.1)) o.2) cX8_span RX8 4 (some .long) 70 [(3, .int x3)] [.int y0, .int y1, .ref (ad b2), .ref (ad b3)] h := by
  unfold f_X8_span_70 at hf
  refine j_iload_n (pc := 70) 0 dX8_span_70 rfl rfl ?_
  refine j_callVl (pc := 71) (d := d) (As := [.ref (ad b2), .int y1, .int y0, .int x3]) (st := []) dX8_span_71 s611 kb3 (by decide) rfl rfl (by decide) (Nat.le_of_ble_eq_true rfl) (fun q hq => t_X0_edge (by omega) kb3 kb2 hq) hf (fun q4 hf => ?_)
  exact j_lret (pc := 74) dX8_span_74 rfl hf
def f_X8_span (a0 : Nat) (x1 : Int32) (x2 : Int32) (x3 : Int32) (h : Hp) : Option (Int64 × Hp) := (f_X8_within x2 1 h).bind (fun q1 => if q1.1 = 0 then (some ((-9223372036854775808), q1.2)) else ((f_X8_within x3 1 q1.2).bind (fun q2 => if q2.1 = 0 then (some ((-9223372036854775808), q2.2)) else (if (q2.2.1 (a0 + 1) 5) = 3 then (some ((-9223372036854775808), q2.2)) else ((f_X8_fillByPrices a0 x1 q2.2).bind (fun q3 => if q3.1 = 0 then (if x2 = 0 then (f_X8_span_70  x3 1 (q3.2.1 (a0 + 1) 5) (a0 + 1) (a0 + 16 + 1) q3.2) else (f_X8_span_70  x3 0 (q3.2.1 (a0 + 1) 5) (a0 + 1) (a0 + 16 + 1) q3.2)) else (some ((-9223372036854775808), q3.2))))))))
set_option maxHeartbeats 4000000 in
set_option maxRecDepth 100000 in
theorem t_X8_span {l : Launch} {D : va_G} {ad : Nat → Nat} {cA : Nat → ClassId} {d : Nat} (hdp : 7 ≤ d) {a0 : Nat} {x1 : Int32} {x2 : Int32} {x3 : Int32} (k0 : kd a0 = 8) {h : Hp} {o : Int64 × Hp} (hf : f_X8_span a0 x1 x2 x3 h = some o) : Cr l D ad cA d yX8_span cX8_span 4 (some .long) [.ref (ad a0), .int x1, .int x2, .int x3] h (some (.long o.1)) o.2 := by
  obtain ⟨d, rfl⟩ : ∃ e, d = e + 1 := ⟨d - 1, by omega⟩
  have hdp : 6 ≤ d := by omega
  unfold f_X8_span at hf
  refine Cr_of (by decide +kernel) rfl (Nat.le_of_ble_eq_true rfl) (lv0 := [(0, .ref (ad a0)), (1, .int x1), (2, .int x2), (3, .int x3)]) rfl ?_
  refine j_iload_n (pc := 0) 2 dX8_span_0 rfl rfl ?_
  refine j_iconst (pc := 1) dX8_span_1 (v := 1) (by decide) ?_
  refine j_callSi (pc := 2) (d := d) (As := [.int x2, .int 1]) (st := []) dX8_span_2 s370 rfl rfl (by decide) (Nat.le_of_ble_eq_true rfl) (fun q hq => t_X8_within  hq) hf (fun q1 hf => ?_)
  refine j_if_eq (pc := 5) (tgt := 27) dX8_span_5 (by decide) hf (fun _ hf => ?_) (fun _ hf => ?_)
  · refine j_ldc2_w (pc := 27) dX8_span_27 (v := -9223372036854775808) w_c598 ?_
    exact j_lret (pc := 30) dX8_span_30 rfl hf
  · refine j_iload_n (pc := 8) 3 dX8_span_8 rfl rfl ?_
    refine j_iconst (pc := 9) dX8_span_9 (v := 1) (by decide) ?_
    refine j_callSi (pc := 10) (d := d) (As := [.int x3, .int 1]) (st := []) dX8_span_10 s370 rfl rfl (by decide) (Nat.le_of_ble_eq_true rfl) (fun q hq => t_X8_within  hq) hf (fun q2 hf => ?_)
    refine j_if_eq (pc := 13) (tgt := 27) dX8_span_13 (by decide) hf (fun _ hf => ?_) (fun _ hf => ?_)
    · refine j_ldc2_w (pc := 27) dX8_span_27 (v := -9223372036854775808) w_c598 ?_
      exact j_lret (pc := 30) dX8_span_30 rfl hf
    · refine j_aload_n (pc := 16) 0 dX8_span_16 rfl rfl ?_
      refine j_getR (pc := 17) (n := 1) dX8_span_17 fl332 k0 (by decide) rfl ?_
      refine j_getI (pc := 20) dX8_span_20 fl117 (lk_8_0 k0) (by decide) rfl ?_
      refine j_iconst (pc := 23) dX8_span_23 (v := 3) (by decide) ?_
      refine j_icmp_ne (pc := 24) (tgt := 31) dX8_span_24 (by decide) hf (fun _ hf => ?_) (fun _ hf => ?_)
      · refine j_aload_n (pc := 31) 0 dX8_span_31 rfl rfl ?_
        refine j_iload_n (pc := 32) 1 dX8_span_32 rfl rfl ?_
        refine j_callVi (pc := 33) (d := d) (As := [.int x1]) (st := []) dX8_span_33 s563 k0 (by decide) rfl rfl (by decide) (Nat.le_of_ble_eq_true rfl) (fun q hq => t_X8_fillByPrices (by omega) k0 hq) hf (fun q3 hf => ?_)
        refine j_if_eq (pc := 36) (tgt := 43) dX8_span_36 (by decide) hf (fun _ hf => ?_) (fun _ hf => ?_)
        · refine j_aload_n (pc := 43) 0 dX8_span_43 rfl rfl ?_
          refine j_getR (pc := 44) (n := 16) dX8_span_44 fl335 k0 (by decide) rfl ?_
          refine j_getR (pc := 47) (n := 1) dX8_span_47 fl194 (lk_8_3 k0) (by decide) rfl ?_
          refine j_aload_n (pc := 50) 0 dX8_span_50 rfl rfl ?_
          refine j_getR (pc := 51) (n := 1) dX8_span_51 fl332 k0 (by decide) rfl ?_
          refine j_aload_n (pc := 54) 0 dX8_span_54 rfl rfl ?_
          refine j_getR (pc := 55) (n := 1) dX8_span_55 fl332 k0 (by decide) rfl ?_
          refine j_getI (pc := 58) dX8_span_58 fl117 (lk_8_0 k0) (by decide) rfl ?_
          refine j_iload_n (pc := 61) 2 dX8_span_61 rfl rfl ?_
          refine j_if_ne (pc := 62) (tgt := 69) dX8_span_62 (by decide) hf (fun _ hf => ?_) (fun _ hf => ?_)
          · refine j_iconst (pc := 69) dX8_span_69 (v := 0) (by decide) ?_
            refine j_sub [3] rfl ?_
            exact t_X8_span_70 hdp  (lk_8_0 k0) (lk_1_0 (lk_8_3 k0)) hf
          · refine j_iconst (pc := 65) dX8_span_65 (v := 1) (by decide) ?_
            refine j_goto (pc := 66) (tgt := 70) dX8_span_66 (by decide) ?_
            refine j_sub [3] rfl ?_
            exact t_X8_span_70 hdp  (lk_8_0 k0) (lk_1_0 (lk_8_3 k0)) hf
        · refine j_ldc2_w (pc := 39) dX8_span_39 (v := -9223372036854775808) w_c598 ?_
          exact j_lret (pc := 42) dX8_span_42 rfl hf
      · refine j_ldc2_w (pc := 27) dX8_span_27 (v := -9223372036854775808) w_c598 ?_
        exact j_lret (pc := 30) dX8_span_30 rfl hf
def f_X8_spell (a0 : Nat) (x1 : Int32) (h : Hp) : Option (Int32 × Hp) := (f_X8_fillNow a0 x1 h).bind (fun q1 => if q1.1 = 0 then (lt (sI q1.2 (a0 + 98) 1 0) (fun m2 => (f_X5_putSeats (a0 + 98) (a0 + 16 + 10) 0 m2).bind (fun q3 => some (q3.2.1 (a0 + 98) 1, q3.2)))) else (some (q1.1, q1.2)))
set_option maxHeartbeats 4000000 in
set_option maxRecDepth 100000 in
theorem t_X8_spell {l : Launch} {D : va_G} {ad : Nat → Nat} {cA : Nat → ClassId} {d : Nat} (hdp : 7 ≤ d) {a0 : Nat} {x1 : Int32} (k0 : kd a0 = 8) {h : Hp} {o : Int32 × Hp} (hf : f_X8_spell a0 x1 h = some o) : Cr l D ad cA d yX8_spell cX8_spell 3 (some .int) [.ref (ad a0), .int x1] h (some (.int o.1)) o.2 := by
  obtain ⟨d, rfl⟩ : ∃ e, d = e + 1 := ⟨d - 1, by omega⟩
  have hdp : 6 ≤ d := by omega
  unfold f_X8_spell at hf
  refine Cr_of (by decide +kernel) rfl (Nat.le_of_ble_eq_true rfl) (lv0 := [(0, .ref (ad a0)), (1, .int x1)]) rfl ?_
  refine j_aload_n (pc := 0) 0 dX8_spell_0 rfl rfl ?_
  refine j_iload_n (pc := 1) 1 dX8_spell_1 rfl rfl ?_
  refine j_callVi (pc := 2) (d := d) (As := [.int x1]) (st := []) dX8_spell_2 s478 k0 (by decide) rfl rfl (by decide) (Nat.le_of_ble_eq_true rfl) (fun q hq => t_X8_fillNow (by omega) k0 hq) hf (fun q1 hf => ?_)
  refine j_istore_n (pc := 5) (lv' := [(2, .int q1.1), (0, .ref (ad a0)), (1, .int x1)]) dX8_spell_5 rfl (by decide) rfl ?_
  refine j_iload_n (pc := 6) 0 dX8_spell_6 rfl rfl ?_
  refine j_if_eq (pc := 7) (tgt := 12) dX8_spell_7 (by decide) hf (fun _ hf => ?_) (fun _ hf => ?_)
  · refine j_aload_n (pc := 12) 1 dX8_spell_12 rfl rfl ?_
    refine j_getR (pc := 13) (n := 98) dX8_spell_13 fl339 k0 (by decide) rfl ?_
    refine j_iconst (pc := 16) dX8_spell_16 (v := 0) (by decide) ?_
    refine j_putI (pc := 17) dX8_spell_17 fl307 fp5_1 (lk_8_7 k0) (by decide) rfl hf (fun m2 hf => ?_)
    refine j_aload_n (pc := 20) 1 dX8_spell_20 rfl rfl ?_
    refine j_getR (pc := 21) (n := 98) dX8_spell_21 fl339 k0 (by decide) rfl ?_
    refine j_aload_n (pc := 24) 1 dX8_spell_24 rfl rfl ?_
    refine j_getR (pc := 25) (n := 16) dX8_spell_25 fl335 k0 (by decide) rfl ?_
    refine j_getR (pc := 28) (n := 10) dX8_spell_28 fl197 (lk_8_3 k0) (by decide) rfl ?_
    refine j_iconst (pc := 31) dX8_spell_31 (v := 0) (by decide) ?_
    refine j_callVv (pc := 32) (d := d) (As := [.ref (ad (a0 + 16 + 10)), .int 0]) (st := []) dX8_spell_32 s641 (lk_8_7 k0) (by decide) rfl rfl (by decide) (Nat.le_of_ble_eq_true rfl) (fun q hq => t_X5_putSeats (by omega) (lk_8_7 k0) (lk_1_1 (lk_8_3 k0)) hq) hf (fun q3 hf => ?_)
    refine j_aload_n (pc := 35) 1 dX8_spell_35 rfl rfl ?_
    refine j_getR (pc := 36) (n := 98) dX8_spell_36 fl339 k0 (by decide) rfl ?_
    refine j_getI (pc := 39) dX8_spell_39 fl307 (lk_8_7 k0) (by decide) rfl ?_
    exact j_iret (pc := 42) dX8_spell_42 rfl hf
  · refine j_iload_n (pc := 10) 0 dX8_spell_10 rfl rfl ?_
    exact j_iret (pc := 11) dX8_spell_11 rfl hf
def f_X8_tie (a0 : Nat) (x1 : Int32) (h : Hp) : Option (Int32 × Hp) := (f_X8_fillByPrices a0 x1 h).bind (fun q1 => if q1.1 = 0 then (some (q1.2.1 (a0 + 16 + 1) 3, q1.2)) else (some (q1.1, q1.2)))
set_option maxHeartbeats 4000000 in
set_option maxRecDepth 100000 in
theorem t_X8_tie {l : Launch} {D : va_G} {ad : Nat → Nat} {cA : Nat → ClassId} {d : Nat} (hdp : 7 ≤ d) {a0 : Nat} {x1 : Int32} (k0 : kd a0 = 8) {h : Hp} {o : Int32 × Hp} (hf : f_X8_tie a0 x1 h = some o) : Cr l D ad cA d yX8_tie cX8_tie 3 (some .int) [.ref (ad a0), .int x1] h (some (.int o.1)) o.2 := by
  obtain ⟨d, rfl⟩ : ∃ e, d = e + 1 := ⟨d - 1, by omega⟩
  have hdp : 6 ≤ d := by omega
  unfold f_X8_tie at hf
  refine Cr_of (by decide +kernel) rfl (Nat.le_of_ble_eq_true rfl) (lv0 := [(0, .ref (ad a0)), (1, .int x1)]) rfl ?_
  refine j_aload_n (pc := 0) 0 dX8_tie_0 rfl rfl ?_
  refine j_iload_n (pc := 1) 1 dX8_tie_1 rfl rfl ?_
  refine j_callVi (pc := 2) (d := d) (As := [.int x1]) (st := []) dX8_tie_2 s563 k0 (by decide) rfl rfl (by decide) (Nat.le_of_ble_eq_true rfl) (fun q hq => t_X8_fillByPrices (by omega) k0 hq) hf (fun q1 hf => ?_)
  refine j_istore_n (pc := 5) (lv' := [(2, .int q1.1), (0, .ref (ad a0)), (1, .int x1)]) dX8_tie_5 rfl (by decide) rfl ?_
  refine j_iload_n (pc := 6) 0 dX8_tie_6 rfl rfl ?_
  refine j_if_eq (pc := 7) (tgt := 14) dX8_tie_7 (by decide) hf (fun _ hf => ?_) (fun _ hf => ?_)
  · refine j_aload_n (pc := 14) 1 dX8_tie_14 rfl rfl ?_
    refine j_getR (pc := 15) (n := 16) dX8_tie_15 fl335 k0 (by decide) rfl ?_
    refine j_getR (pc := 18) (n := 1) dX8_tie_18 fl194 (lk_8_3 k0) (by decide) rfl ?_
    refine j_getI (pc := 21) dX8_tie_21 fl161 (lk_1_0 (lk_8_3 k0)) (by decide) rfl ?_
    exact j_iret (pc := 24) dX8_tie_24 rfl hf
  · refine j_iload_n (pc := 10) 0 dX8_tie_10 rfl rfl ?_
    refine j_goto (pc := 11) (tgt := 24) dX8_tie_11 (by decide) ?_
    exact j_iret (pc := 24) dX8_tie_24 rfl hf
def f_X9_houses_218 (k182 : Nat → Int32 → Int32 → Int32 → Hp → Option (Int32 × Hp)) (a0 : Nat) (x1 : Int32) (x4 : Int32) (y0 : Int32) (h : Hp) : Option (Int32 × Hp) := lt (x4 + 1) (fun v19 => k182 a0 x1 y0 v19 h)
set_option maxHeartbeats 4000000 in
set_option maxRecDepth 100000 in
theorem t_X9_houses_218 {l : Launch} {D : va_G} {ad : Nat → Nat} {cA : Nat → ClassId} {d : Nat} (hdp : 6 ≤ d) {o : Int32 × Hp} {k182 : Nat → Int32 → Int32 → Int32 → Hp → Option (Int32 × Hp)} (hk182 : ∀ {a0 : Nat} {x1 : Int32} {x3 : Int32} {x4 : Int32} (k0 : kd a0 = 9) {h : Hp}, k182 a0 x1 x3 x4 h = some o → J l D ad cA (fun _ => True) (rmd (d + 1)) (0, 0) (mQ D ad cA (some (.int o.1)) o.2) cX9_houses RX9 5 (some .boolean) 182 [(0, .ref (ad a0)), (1, .int x1), (3, .int x3), (4, .int x4)] [] h) {a0 : Nat} {x1 : Int32} {x4 : Int32} {y0 : Int32} (k0 : kd a0 = 9) {h : Hp} (hf : f_X9_houses_218 k182 a0 x1 x4 y0 h = some o) : J l D ad cA (fun _ => True) (rmd (d + 1)) (0, 0) (mQ D ad cA (some (.int o.1)) o.2) cX9_houses RX9 5 (some .boolean) 218 [(0, .ref (ad a0)), (1, .int x1), (4, .int x4)] [.int y0] h := by
  unfold f_X9_houses_218 at hf
  refine j_istore_n (pc := 218) (lv' := [(3, .int y0), (0, .ref (ad a0)), (1, .int x1), (4, .int x4)]) dX9_houses_218 rfl (by decide) rfl ?_
  refine j_iinc (pc := 219) 3 (c := 1) (lv' := fun v19 => [(4, .int v19), (3, .int y0), (0, .ref (ad a0)), (1, .int x1)]) dX9_houses_219 rfl (by decide) (by decide) (fun _ => rfl) hf (fun v19 hf => ?_)
  refine j_goto (pc := 222) (tgt := 182) dX9_houses_222 (by decide) ?_
  refine j_sub [2, 3, 1, 0] rfl ?_
  exact hk182 k0 hf
def f_X9_houses_213 (k182 : Nat → Int32 → Int32 → Int32 → Hp → Option (Int32 × Hp)) (a0 : Nat) (x1 : Int32) (x4 : Int32) (h : Hp) : Option (Int32 × Hp) := f_X9_houses_218 k182 a0 x1 x4 1 h
set_option maxHeartbeats 4000000 in
set_option maxRecDepth 100000 in
theorem t_X9_houses_213 {l : Launch} {D : va_G} {ad : Nat → Nat} {cA : Nat → ClassId} {d : Nat} (hdp : 6 ≤ d) {o : Int32 × Hp} {k182 : Nat → Int32 → Int32 → Int32 → Hp → Option (Int32 × Hp)} (hk182 : ∀ {a0 : Nat} {x1 : Int32} {x3 : Int32} {x4 : Int32} (k0 : kd a0 = 9) {h : Hp}, k182 a0 x1 x3 x4 h = some o → J l D ad cA (fun _ => True) (rmd (d + 1)) (0, 0) (mQ D ad cA (some (.int o.1)) o.2) cX9_houses RX9 5 (some .boolean) 182 [(0, .ref (ad a0)), (1, .int x1), (3, .int x3), (4, .int x4)] [] h) {a0 : Nat} {x1 : Int32} {x4 : Int32} (k0 : kd a0 = 9) {h : Hp} (hf : f_X9_houses_213 k182 a0 x1 x4 h = some o) : J l D ad cA (fun _ => True) (rmd (d + 1)) (0, 0) (mQ D ad cA (some (.int o.1)) o.2) cX9_houses RX9 5 (some .boolean) 213 [(0, .ref (ad a0)), (1, .int x1), (4, .int x4)] [] h := by
  unfold f_X9_houses_213 at hf
  refine j_iconst (pc := 213) dX9_houses_213 (v := 1) (by decide) ?_
  refine j_goto (pc := 214) (tgt := 218) dX9_houses_214 (by decide) ?_
  refine j_sub [0, 1, 2] rfl ?_
  exact t_X9_houses_218 hdp hk182 k0 hf
def f_X9_houses_182 (k182 : Nat → Int32 → Int32 → Int32 → Hp → Option (Int32 × Hp)) (a0 : Nat) (x1 : Int32) (x3 : Int32) (x4 : Int32) (h : Hp) : Option (Int32 × Hp) := if x3 = 0 then (if isB x3 = true then some (x3, h) else none) else (if 6 ≤ x4 then (if isB x3 = true then some (x3, h) else none) else (if ix x4 6 = true then (if (h.1 (a0 + 12) (Int32.toNatClampNeg x4)) = 0 then (f_X9_houses_213 k182 a0 x1 x4 h) else ((f_X9_sharesOut a0 x1 x4 h).bind (fun q18 => if q18.1 = 0 then (f_X9_houses_218 k182 a0 x1 x4 0 q18.2) else (f_X9_houses_213 k182 a0 x1 x4 q18.2)))) else none))
set_option maxHeartbeats 4000000 in
set_option maxRecDepth 100000 in
theorem t_X9_houses_182 {l : Launch} {D : va_G} {ad : Nat → Nat} {cA : Nat → ClassId} {d : Nat} (hdp : 6 ≤ d) {o : Int32 × Hp}  : ∀ (n : Nat) {a0 : Nat} {x1 : Int32} {x3 : Int32} {x4 : Int32} (k0 : kd a0 = 9) {h : Hp}, lp (F := Nat → Int32 → Int32 → Int32 → Hp → Option (Int32 × Hp)) (fun _ _ _ _ _ => none) (f_X9_houses_182) n a0 x1 x3 x4 h = some o → J l D ad cA (fun _ => True) (rmd (d + 1)) (0, 0) (mQ D ad cA (some (.int o.1)) o.2) cX9_houses RX9 5 (some .boolean) 182 [(0, .ref (ad a0)), (1, .int x1), (3, .int x3), (4, .int x4)] [] h := by
  intro n
  induction n with
  | zero =>
    intro a0 x1 x3 x4 k0 h hf
    have hf : (none : Option (Int32 × Hp)) = some o := hf
    cases hf
  | succ n hk182 =>
    intro a0 x1 x3 x4 k0 h hf
    have hf : f_X9_houses_182  (lp (F := Nat → Int32 → Int32 → Int32 → Hp → Option (Int32 × Hp)) (fun _ _ _ _ _ => none) (f_X9_houses_182) n) a0 x1 x3 x4 h = some o := hf
    unfold f_X9_houses_182 at hf
    refine j_iload_n (pc := 182) 2 dX9_houses_182 rfl rfl ?_
    refine j_if_eq (pc := 183) (tgt := 225) dX9_houses_183 (by decide) hf (fun _ hf => ?_) (fun _ hf => ?_)
    · refine j_iload_n (pc := 225) 2 dX9_houses_225 rfl rfl ?_
      exact j_zret (pc := 226) dX9_houses_226 rfl hf
    · refine j_iload (pc := 186) 3 dX9_houses_186 rfl ?_
      refine j_bipush (pc := 188) dX9_houses_188 (v := 6) (by decide) ?_
      refine j_icmp_ge (pc := 190) (tgt := 225) dX9_houses_190 (by decide) hf (fun _ hf => ?_) (fun _ hf => ?_)
      · refine j_iload_n (pc := 225) 2 dX9_houses_225 rfl rfl ?_
        exact j_zret (pc := 226) dX9_houses_226 rfl hf
      · refine j_aload_n (pc := 193) 0 dX9_houses_193 rfl rfl ?_
        refine j_getR (pc := 194) (n := 12) dX9_houses_194 fl864 k0 (by decide) rfl ?_
        refine j_iload (pc := 197) 3 dX9_houses_197 rfl ?_
        refine j_zaload (pc := 199) dX9_houses_199 (lk_9_18 k0) (ll_9_18 k0) hf (fun _ hf => ?_)
        refine j_if_eq (pc := 200) (tgt := 213) dX9_houses_200 (by decide) hf (fun _ hf => ?_) (fun _ hf => ?_)
        · refine j_sub [0, 1, 3] rfl ?_
          exact t_X9_houses_213 hdp hk182 k0 hf
        · refine j_aload_n (pc := 203) 0 dX9_houses_203 rfl rfl ?_
          refine j_iload_n (pc := 204) 1 dX9_houses_204 rfl rfl ?_
          refine j_iload (pc := 205) 3 dX9_houses_205 rfl ?_
          refine j_callVi (pc := 207) (d := d) (As := [.int x1, .int x4]) (st := []) dX9_houses_207 s1166 k0 (by decide) rfl rfl (by decide) (Nat.le_of_ble_eq_true rfl) (fun q hq => t_X9_sharesOut (by omega) k0 hq) hf (fun q18 hf => ?_)
          refine j_if_eq (pc := 210) (tgt := 217) dX9_houses_210 (by decide) hf (fun _ hf => ?_) (fun _ hf => ?_)
          · refine j_iconst (pc := 217) dX9_houses_217 (v := 0) (by decide) ?_
            refine j_sub [0, 1, 3] rfl ?_
            exact t_X9_houses_218 hdp hk182 k0 hf
          · refine j_sub [0, 1, 3] rfl ?_
            exact t_X9_houses_213 hdp hk182 k0 hf
def f_X9_houses_150 (k150 : Nat → Int32 → Int32 → Int32 → Hp → Option (Int32 × Hp)) (a0 : Nat) (x1 : Int32) (x3 : Int32) (x4 : Int32) (h : Hp) : Option (Int32 × Hp) := if (h.1 a0 14) ≤ x4 then (lp (F := Nat → Int32 → Int32 → Int32 → Hp → Option (Int32 × Hp)) (fun _ _ _ _ _ => none) (f_X9_houses_182) 1000 a0 x1 x3 0 h) else (if ix x4 60 = true then (if ix x4 60 = true then (lt (sI h (a0 + 17) (Int32.toNatClampNeg x4) (h.1 (a0 + 9) (Int32.toNatClampNeg x4))) (fun m16 => lt (x4 + 1) (fun v17 => k150 a0 x1 x3 v17 m16))) else none) else none)
set_option maxHeartbeats 4000000 in
set_option maxRecDepth 100000 in
theorem t_X9_houses_150 {l : Launch} {D : va_G} {ad : Nat → Nat} {cA : Nat → ClassId} {d : Nat} (hdp : 6 ≤ d) {o : Int32 × Hp}  : ∀ (n : Nat) {a0 : Nat} {x1 : Int32} {x3 : Int32} {x4 : Int32} (k0 : kd a0 = 9) {h : Hp}, lp (F := Nat → Int32 → Int32 → Int32 → Hp → Option (Int32 × Hp)) (fun _ _ _ _ _ => none) (f_X9_houses_150) n a0 x1 x3 x4 h = some o → J l D ad cA (fun _ => True) (rmd (d + 1)) (0, 0) (mQ D ad cA (some (.int o.1)) o.2) cX9_houses RX9 5 (some .boolean) 150 [(0, .ref (ad a0)), (1, .int x1), (3, .int x3), (4, .int x4)] [] h := by
  intro n
  induction n with
  | zero =>
    intro a0 x1 x3 x4 k0 h hf
    have hf : (none : Option (Int32 × Hp)) = some o := hf
    cases hf
  | succ n hk150 =>
    intro a0 x1 x3 x4 k0 h hf
    have hf : f_X9_houses_150  (lp (F := Nat → Int32 → Int32 → Int32 → Hp → Option (Int32 × Hp)) (fun _ _ _ _ _ => none) (f_X9_houses_150) n) a0 x1 x3 x4 h = some o := hf
    unfold f_X9_houses_150 at hf
    refine j_iload (pc := 150) 3 dX9_houses_150 rfl ?_
    refine j_aload_n (pc := 152) 0 dX9_houses_152 rfl rfl ?_
    refine j_getI (pc := 153) dX9_houses_153 fl860 k0 (by decide) rfl ?_
    refine j_icmp_ge (pc := 156) (tgt := 179) dX9_houses_156 (by decide) hf (fun _ hf => ?_) (fun _ hf => ?_)
    · refine j_iconst (pc := 179) dX9_houses_179 (v := 0) (by decide) ?_
      refine j_istore (pc := 180) (lv' := [(4, .int 0), (0, .ref (ad a0)), (1, .int x1), (3, .int x3)]) dX9_houses_180 (by decide) rfl ?_
      refine j_sub [1, 2, 3, 0] rfl ?_
      exact t_X9_houses_182 hdp  1000 k0 hf
    · refine j_aload_n (pc := 159) 0 dX9_houses_159 rfl rfl ?_
      refine j_getR (pc := 160) (n := 17) dX9_houses_160 fl869 k0 (by decide) rfl ?_
      refine j_iload (pc := 163) 3 dX9_houses_163 rfl ?_
      refine j_aload_n (pc := 165) 0 dX9_houses_165 rfl rfl ?_
      refine j_getR (pc := 166) (n := 9) dX9_houses_166 fl859 k0 (by decide) rfl ?_
      refine j_iload (pc := 169) 3 dX9_houses_169 rfl ?_
      refine j_iaload (pc := 171) dX9_houses_171 (lk_9_13 k0) (ll_9_13 k0) hf (fun _ hf => ?_)
      refine j_iastore (pc := 172) dX9_houses_172 (lk_9_23 k0) (ll_9_23 k0) hf (fun m16 hf => ?_)
      refine j_iinc (pc := 173) 3 (c := 1) (lv' := fun v17 => [(4, .int v17), (0, .ref (ad a0)), (1, .int x1), (3, .int x3)]) dX9_houses_173 rfl (by decide) (by decide) (fun _ => rfl) hf (fun v17 hf => ?_)
      refine j_goto (pc := 176) (tgt := 150) dX9_houses_176 (by decide) ?_
      refine j_sub [1, 2, 3, 0] rfl ?_
      exact hk150 k0 hf
def f_X9_houses_62 (k62 : Nat → Int32 → Int32 → Int32 → Hp → Option (Int32 × Hp)) (a0 : Nat) (x1 : Int32) (x3 : Int32) (x4 : Int32) (h : Hp) : Option (Int32 × Hp) := if 6 ≤ x4 then (lt (sI h a0 24 (h.1 a0 14)) (fun m9 => lt (sI m9 a0 25 (m9.1 a0 15)) (fun m10 => lp (F := Nat → Int32 → Int32 → Int32 → Hp → Option (Int32 × Hp)) (fun _ _ _ _ _ => none) (f_X9_houses_150) 1000 a0 x1 x3 0 m10))) else (if ix x4 6 = true then (if ix x4 6 = true then (lt (sI h (a0 + 12) (Int32.toNatClampNeg x4) (vp_nar .boolean (h.1 (a0 + 5) (Int32.toNatClampNeg x4)))) (fun m11 => if ix x4 6 = true then (if ix x4 6 = true then (lt (sI m11 (a0 + 13) (Int32.toNatClampNeg x4) (m11.1 (a0 + 6) (Int32.toNatClampNeg x4))) (fun m12 => if ix x4 6 = true then (if ix x4 6 = true then (lt (sI m12 (a0 + 14) (Int32.toNatClampNeg x4) (m12.1 (a0 + 7) (Int32.toNatClampNeg x4))) (fun m13 => if ix x4 6 = true then (if ix x4 6 = true then (lt (sI m13 (a0 + 15) (Int32.toNatClampNeg x4) (m13.1 (a0 + 8) (Int32.toNatClampNeg x4))) (fun m14 => lt (x4 + 1) (fun v15 => k62 a0 x1 x3 v15 m14))) else none) else none)) else none) else none)) else none) else none)) else none) else none)
set_option maxHeartbeats 4000000 in
set_option maxRecDepth 100000 in
theorem t_X9_houses_62 {l : Launch} {D : va_G} {ad : Nat → Nat} {cA : Nat → ClassId} {d : Nat} (hdp : 6 ≤ d) {o : Int32 × Hp}  : ∀ (n : Nat) {a0 : Nat} {x1 : Int32} {x3 : Int32} {x4 : Int32} (k0 : kd a0 = 9) {h : Hp}, lp (F := Nat → Int32 → Int32 → Int32 → Hp → Option (Int32 × Hp)) (fun _ _ _ _ _ => none) (f_X9_houses_62) n a0 x1 x3 x4 h = some o → J l D ad cA (fun _ => True) (rmd (d + 1)) (0, 0) (mQ D ad cA (some (.int o.1)) o.2) cX9_houses RX9 5 (some .boolean) 62 [(0, .ref (ad a0)), (1, .int x1), (3, .int x3), (4, .int x4)] [] h := by
  intro n
  induction n with
  | zero =>
    intro a0 x1 x3 x4 k0 h hf
    have hf : (none : Option (Int32 × Hp)) = some o := hf
    cases hf
  | succ n hk62 =>
    intro a0 x1 x3 x4 k0 h hf
    have hf : f_X9_houses_62  (lp (F := Nat → Int32 → Int32 → Int32 → Hp → Option (Int32 × Hp)) (fun _ _ _ _ _ => none) (f_X9_houses_62) n) a0 x1 x3 x4 h = some o := hf
    unfold f_X9_houses_62 at hf
    refine j_iload (pc := 62) 3 dX9_houses_62 rfl ?_
    refine j_bipush (pc := 64) dX9_houses_64 (v := 6) (by decide) ?_
    refine j_icmp_ge (pc := 66) (tgt := 131) dX9_houses_66 (by decide) hf (fun _ hf => ?_) (fun _ hf => ?_)
    · refine j_aload_n (pc := 131) 0 dX9_houses_131 rfl rfl ?_
      refine j_aload_n (pc := 132) 0 dX9_houses_132 rfl rfl ?_
      refine j_getI (pc := 133) dX9_houses_133 fl860 k0 (by decide) rfl ?_
      refine j_putI (pc := 136) dX9_houses_136 fl870 fp9_24 k0 (by decide) rfl hf (fun m9 hf => ?_)
      refine j_aload_n (pc := 139) 0 dX9_houses_139 rfl rfl ?_
      refine j_aload_n (pc := 140) 0 dX9_houses_140 rfl rfl ?_
      refine j_getI (pc := 141) dX9_houses_141 fl861 k0 (by decide) rfl ?_
      refine j_putI (pc := 144) dX9_houses_144 fl871 fp9_25 k0 (by decide) rfl hf (fun m10 hf => ?_)
      refine j_iconst (pc := 147) dX9_houses_147 (v := 0) (by decide) ?_
      refine j_istore (pc := 148) (lv' := [(4, .int 0), (0, .ref (ad a0)), (1, .int x1), (3, .int x3)]) dX9_houses_148 (by decide) rfl ?_
      refine j_sub [1, 2, 3, 0] rfl ?_
      exact t_X9_houses_150 hdp  1000 k0 hf
    · refine j_aload_n (pc := 69) 0 dX9_houses_69 rfl rfl ?_
      refine j_getR (pc := 70) (n := 12) dX9_houses_70 fl864 k0 (by decide) rfl ?_
      refine j_iload (pc := 73) 3 dX9_houses_73 rfl ?_
      refine j_aload_n (pc := 75) 0 dX9_houses_75 rfl rfl ?_
      refine j_getR (pc := 76) (n := 5) dX9_houses_76 fl855 k0 (by decide) rfl ?_
      refine j_iload (pc := 79) 3 dX9_houses_79 rfl ?_
      refine j_zaload (pc := 81) dX9_houses_81 (lk_9_9 k0) (ll_9_9 k0) hf (fun _ hf => ?_)
      refine j_zastore (pc := 82) dX9_houses_82 (lk_9_18 k0) (ll_9_18 k0) hf (fun m11 hf => ?_)
      refine j_aload_n (pc := 83) 0 dX9_houses_83 rfl rfl ?_
      refine j_getR (pc := 84) (n := 13) dX9_houses_84 fl865 k0 (by decide) rfl ?_
      refine j_iload (pc := 87) 3 dX9_houses_87 rfl ?_
      refine j_aload_n (pc := 89) 0 dX9_houses_89 rfl rfl ?_
      refine j_getR (pc := 90) (n := 6) dX9_houses_90 fl856 k0 (by decide) rfl ?_
      refine j_iload (pc := 93) 3 dX9_houses_93 rfl ?_
      refine j_iaload (pc := 95) dX9_houses_95 (lk_9_10 k0) (ll_9_10 k0) hf (fun _ hf => ?_)
      refine j_iastore (pc := 96) dX9_houses_96 (lk_9_19 k0) (ll_9_19 k0) hf (fun m12 hf => ?_)
      refine j_aload_n (pc := 97) 0 dX9_houses_97 rfl rfl ?_
      refine j_getR (pc := 98) (n := 14) dX9_houses_98 fl866 k0 (by decide) rfl ?_
      refine j_iload (pc := 101) 3 dX9_houses_101 rfl ?_
      refine j_aload_n (pc := 103) 0 dX9_houses_103 rfl rfl ?_
      refine j_getR (pc := 104) (n := 7) dX9_houses_104 fl857 k0 (by decide) rfl ?_
      refine j_iload (pc := 107) 3 dX9_houses_107 rfl ?_
      refine j_iaload (pc := 109) dX9_houses_109 (lk_9_11 k0) (ll_9_11 k0) hf (fun _ hf => ?_)
      refine j_iastore (pc := 110) dX9_houses_110 (lk_9_20 k0) (ll_9_20 k0) hf (fun m13 hf => ?_)
      refine j_aload_n (pc := 111) 0 dX9_houses_111 rfl rfl ?_
      refine j_getR (pc := 112) (n := 15) dX9_houses_112 fl867 k0 (by decide) rfl ?_
      refine j_iload (pc := 115) 3 dX9_houses_115 rfl ?_
      refine j_aload_n (pc := 117) 0 dX9_houses_117 rfl rfl ?_
      refine j_getR (pc := 118) (n := 8) dX9_houses_118 fl858 k0 (by decide) rfl ?_
      refine j_iload (pc := 121) 3 dX9_houses_121 rfl ?_
      refine j_iaload (pc := 123) dX9_houses_123 (lk_9_12 k0) (ll_9_12 k0) hf (fun _ hf => ?_)
      refine j_iastore (pc := 124) dX9_houses_124 (lk_9_21 k0) (ll_9_21 k0) hf (fun m14 hf => ?_)
      refine j_iinc (pc := 125) 3 (c := 1) (lv' := fun v15 => [(4, .int v15), (0, .ref (ad a0)), (1, .int x1), (3, .int x3)]) dX9_houses_125 rfl (by decide) (by decide) (fun _ => rfl) hf (fun v15 hf => ?_)
      refine j_goto (pc := 128) (tgt := 62) dX9_houses_128 (by decide) ?_
      refine j_sub [1, 2, 3, 0] rfl ?_
      exact hk62 k0 hf
def f_X9_houses_46 (k6 : Nat → Int32 → Int32 → Int32 → Hp → Option (Int32 × Hp)) (a0 : Nat) (x1 : Int32) (x2 : Int32) (x3 : Int32) (h : Hp) : Option (Int32 × Hp) := lt (x3 + 1) (fun v20 => k6 a0 x1 x2 v20 h)
set_option maxHeartbeats 4000000 in
set_option maxRecDepth 100000 in
theorem t_X9_houses_46 {l : Launch} {D : va_G} {ad : Nat → Nat} {cA : Nat → ClassId} {d : Nat} (hdp : 6 ≤ d) {o : Int32 × Hp} {k6 : Nat → Int32 → Int32 → Int32 → Hp → Option (Int32 × Hp)} (hk6 : ∀ {a0 : Nat} {x1 : Int32} {x2 : Int32} {x3 : Int32} (k0 : kd a0 = 9) {h : Hp}, k6 a0 x1 x2 x3 h = some o → J l D ad cA (fun _ => True) (rmd (d + 1)) (0, 0) (mQ D ad cA (some (.int o.1)) o.2) cX9_houses RX9 5 (some .boolean) 6 [(0, .ref (ad a0)), (1, .int x1), (2, .int x2), (3, .int x3)] [] h) {a0 : Nat} {x1 : Int32} {x2 : Int32} {x3 : Int32} (k0 : kd a0 = 9) {h : Hp} (hf : f_X9_houses_46 k6 a0 x1 x2 x3 h = some o) : J l D ad cA (fun _ => True) (rmd (d + 1)) (0, 0) (mQ D ad cA (some (.int o.1)) o.2) cX9_houses RX9 5 (some .boolean) 46 [(0, .ref (ad a0)), (1, .int x1), (2, .int x2), (3, .int x3)] [] h := by
  unfold f_X9_houses_46 at hf
  refine j_iinc (pc := 46) 3 (c := 1) (lv' := fun v20 => [(3, .int v20), (0, .ref (ad a0)), (1, .int x1), (2, .int x2)]) dX9_houses_46 rfl (by decide) (by decide) (fun _ => rfl) hf (fun v20 hf => ?_)
  refine j_goto (pc := 49) (tgt := 6) dX9_houses_49 (by decide) ?_
  refine j_sub [1, 2, 3, 0] rfl ?_
  exact hk6 k0 hf
def f_X9_houses_6 (k6 : Nat → Int32 → Int32 → Int32 → Hp → Option (Int32 × Hp)) (a0 : Nat) (x1 : Int32) (x2 : Int32) (x3 : Int32) (h : Hp) : Option (Int32 × Hp) := if 6 ≤ x3 then ((f_X9_gives a0 x1 x2 h).bind (fun q2 => lp (F := Nat → Int32 → Int32 → Int32 → Hp → Option (Int32 × Hp)) (fun _ _ _ _ _ => none) (f_X9_houses_62) 1000 a0 x1 q2.1 0 q2.2)) else (if ix x3 6 = true then (lt (sI h (a0 + 16) (Int32.toNatClampNeg x3) 0) (fun m3 => (f_X9_isIn a0 x3 m3).bind (fun q4 => if q4.1 = 0 then (f_X9_houses_46 k6 a0 x1 x2 x3 q4.2) else ((f_X9_listOf a0 x3 q4.2).bind (fun q5 => (f_X9_total a0 x3 q5.2).bind (fun q6 => (f_X9_leastOf a0 x3 q6.2).bind (fun q7 => (f_X9_claims a0 q5.1 q6.1 q7.1 q7.2).bind (fun q8 => f_X9_houses_46 k6 a0 x1 x2 x3 q8.2)))))))) else none)
set_option maxHeartbeats 4000000 in
set_option maxRecDepth 100000 in
theorem t_X9_houses_6 {l : Launch} {D : va_G} {ad : Nat → Nat} {cA : Nat → ClassId} {d : Nat} (hdp : 6 ≤ d) {o : Int32 × Hp}  : ∀ (n : Nat) {a0 : Nat} {x1 : Int32} {x2 : Int32} {x3 : Int32} (k0 : kd a0 = 9) {h : Hp}, lp (F := Nat → Int32 → Int32 → Int32 → Hp → Option (Int32 × Hp)) (fun _ _ _ _ _ => none) (f_X9_houses_6) n a0 x1 x2 x3 h = some o → J l D ad cA (fun _ => True) (rmd (d + 1)) (0, 0) (mQ D ad cA (some (.int o.1)) o.2) cX9_houses RX9 5 (some .boolean) 6 [(0, .ref (ad a0)), (1, .int x1), (2, .int x2), (3, .int x3)] [] h := by
  intro n
  induction n with
  | zero =>
    intro a0 x1 x2 x3 k0 h hf
    have hf : (none : Option (Int32 × Hp)) = some o := hf
    cases hf
  | succ n hk6 =>
    intro a0 x1 x2 x3 k0 h hf
    have hf : f_X9_houses_6  (lp (F := Nat → Int32 → Int32 → Int32 → Hp → Option (Int32 × Hp)) (fun _ _ _ _ _ => none) (f_X9_houses_6) n) a0 x1 x2 x3 h = some o := hf
    unfold f_X9_houses_6 at hf
    refine j_iload_n (pc := 6) 3 dX9_houses_6 rfl rfl ?_
    refine j_bipush (pc := 7) dX9_houses_7 (v := 6) (by decide) ?_
    refine j_icmp_ge (pc := 9) (tgt := 52) dX9_houses_9 (by decide) hf (fun _ hf => ?_) (fun _ hf => ?_)
    · refine j_aload_n (pc := 52) 0 dX9_houses_52 rfl rfl ?_
      refine j_iload_n (pc := 53) 1 dX9_houses_53 rfl rfl ?_
      refine j_iload_n (pc := 54) 2 dX9_houses_54 rfl rfl ?_
      refine j_callVi (pc := 55) (d := d) (As := [.int x1, .int x2]) (st := []) dX9_houses_55 s1138 k0 (by decide) rfl rfl (by decide) (Nat.le_of_ble_eq_true rfl) (fun q hq => t_X9_gives (by omega) k0 hq) hf (fun q2 hf => ?_)
      refine j_istore_n (pc := 58) (lv' := [(3, .int q2.1), (0, .ref (ad a0)), (1, .int x1), (2, .int x2)]) dX9_houses_58 rfl (by decide) rfl ?_
      refine j_iconst (pc := 59) dX9_houses_59 (v := 0) (by decide) ?_
      refine j_istore (pc := 60) (lv' := [(4, .int 0), (3, .int q2.1), (0, .ref (ad a0)), (1, .int x1), (2, .int x2)]) dX9_houses_60 (by decide) rfl ?_
      refine j_sub [2, 3, 1, 0] rfl ?_
      exact t_X9_houses_62 hdp  1000 k0 hf
    · refine j_aload_n (pc := 12) 0 dX9_houses_12 rfl rfl ?_
      refine j_getR (pc := 13) (n := 16) dX9_houses_13 fl868 k0 (by decide) rfl ?_
      refine j_iload_n (pc := 16) 3 dX9_houses_16 rfl rfl ?_
      refine j_iconst (pc := 17) dX9_houses_17 (v := 0) (by decide) ?_
      refine j_iastore (pc := 18) dX9_houses_18 (lk_9_22 k0) (ll_9_22 k0) hf (fun m3 hf => ?_)
      refine j_aload_n (pc := 19) 0 dX9_houses_19 rfl rfl ?_
      refine j_iload_n (pc := 20) 3 dX9_houses_20 rfl rfl ?_
      refine j_callVi (pc := 21) (d := d) (As := [.int x3]) (st := []) dX9_houses_21 s1106 k0 (by decide) rfl rfl (by decide) (Nat.le_of_ble_eq_true rfl) (fun q hq => t_X9_isIn (by omega) k0 hq) hf (fun q4 hf => ?_)
      refine j_if_eq (pc := 24) (tgt := 46) dX9_houses_24 (by decide) hf (fun _ hf => ?_) (fun _ hf => ?_)
      · refine j_sub [0, 1, 2, 3] rfl ?_
        exact t_X9_houses_46 hdp hk6 k0 hf
      · refine j_aload_n (pc := 27) 0 dX9_houses_27 rfl rfl ?_
        refine j_aload_n (pc := 28) 0 dX9_houses_28 rfl rfl ?_
        refine j_iload_n (pc := 29) 3 dX9_houses_29 rfl rfl ?_
        refine j_callVi (pc := 30) (d := d) (As := [.int x3]) (st := [.ref (ad a0)]) dX9_houses_30 s1126 k0 (by decide) rfl rfl (by decide) (Nat.le_of_ble_eq_true rfl) (fun q hq => t_X9_listOf k0 hq) hf (fun q5 hf => ?_)
        refine j_aload_n (pc := 33) 0 dX9_houses_33 rfl rfl ?_
        refine j_iload_n (pc := 34) 3 dX9_houses_34 rfl rfl ?_
        refine j_callVi (pc := 35) (d := d) (As := [.int x3]) (st := [.int q5.1, .ref (ad a0)]) dX9_houses_35 s1010 k0 (by decide) rfl rfl (by decide) (Nat.le_of_ble_eq_true rfl) (fun q hq => t_X9_total (by omega) k0 hq) hf (fun q6 hf => ?_)
        refine j_aload_n (pc := 38) 0 dX9_houses_38 rfl rfl ?_
        refine j_iload_n (pc := 39) 3 dX9_houses_39 rfl rfl ?_
        refine j_callVi (pc := 40) (d := d) (As := [.int x3]) (st := [.int q6.1, .int q5.1, .ref (ad a0)]) dX9_houses_40 s1130 k0 (by decide) rfl rfl (by decide) (Nat.le_of_ble_eq_true rfl) (fun q hq => t_X9_leastOf k0 hq) hf (fun q7 hf => ?_)
        refine j_callVv (pc := 43) (d := d) (As := [.int q5.1, .int q6.1, .int q7.1]) (st := []) dX9_houses_43 s1134 k0 (by decide) rfl rfl (by decide) (Nat.le_of_ble_eq_true rfl) (fun q hq => t_X9_claims k0 hq) hf (fun q8 hf => ?_)
        refine j_sub [0, 1, 2, 3] rfl ?_
        exact t_X9_houses_46 hdp hk6 k0 hf
def f_X9_houses (a0 : Nat) (x1 : Int32) (x2 : Int32) (h : Hp) : Option (Int32 × Hp) := (f_X9_nobodyClaims a0 h).bind (fun q1 => lp (F := Nat → Int32 → Int32 → Int32 → Hp → Option (Int32 × Hp)) (fun _ _ _ _ _ => none) (f_X9_houses_6) 1000 a0 x1 x2 0 q1.2)
set_option maxHeartbeats 4000000 in
set_option maxRecDepth 100000 in
theorem t_X9_houses {l : Launch} {D : va_G} {ad : Nat → Nat} {cA : Nat → ClassId} {d : Nat} (hdp : 7 ≤ d) {a0 : Nat} {x1 : Int32} {x2 : Int32} (k0 : kd a0 = 9) {h : Hp} {o : Int32 × Hp} (hf : f_X9_houses a0 x1 x2 h = some o) : Cr l D ad cA d yX9_houses cX9_houses 5 (some .boolean) [.ref (ad a0), .int x1, .int x2] h (some (.int o.1)) o.2 := by
  obtain ⟨d, rfl⟩ : ∃ e, d = e + 1 := ⟨d - 1, by omega⟩
  have hdp : 6 ≤ d := by omega
  unfold f_X9_houses at hf
  refine Cr_of (by decide +kernel) rfl (Nat.le_of_ble_eq_true rfl) (lv0 := [(0, .ref (ad a0)), (1, .int x1), (2, .int x2)]) rfl ?_
  refine j_aload_n (pc := 0) 0 dX9_houses_0 rfl rfl ?_
  refine j_callVv (pc := 1) (d := d) (As := []) (st := []) dX9_houses_1 s1122 k0 (by decide) rfl rfl (by decide) (Nat.le_of_ble_eq_true rfl) (fun q hq => t_X9_nobodyClaims k0 hq) hf (fun q1 hf => ?_)
  refine j_iconst (pc := 4) dX9_houses_4 (v := 0) (by decide) ?_
  refine j_istore_n (pc := 5) (lv' := [(3, .int 0), (0, .ref (ad a0)), (1, .int x1), (2, .int x2)]) dX9_houses_5 rfl (by decide) rfl ?_
  refine j_sub [1, 2, 3, 0] rfl ?_
  exact t_X9_houses_6 hdp  1000 k0 hf
