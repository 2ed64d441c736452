set_option maxHeartbeats 4000000 in
set_option maxRecDepth 100000 in
theorem c_init_8_0 {l : Launch} {D : va_G} {cA : Nat → ClassId} {d : Nat} (a sz : Nat) : CI l D cA (d + 4) 107 1557 yX8_init cX8_init 1 a sz 0 8 108 h0 := by
  refine CI_of (ad := fun _ => 0) (h := h0) (own := RX8) (by decide +kernel) rfl rfl (by decide) ?_
  refine n_aload_n (pc := 0) 0 dX8_init_0 rfl rfl ?_
  refine n_objInit (pc := 1) (d := d + 3) (mc := 107) (ms := 1557) dX8_init_1 wom89 wo_i wo_c rfl (Nat.le_of_ble_eq_true rfl) ?_
  refine n_aload_n (pc := 4) 0 dX8_init_4 rfl rfl ?_
  refine n_new3 (pc := 5) (d := d + 3) (MC := 107) (MS := 1557) (b' := 1) rfl dX8_init_5 dX8_init_8 dX8_init_9 cls92 rfl siw94 (c_init_3_1 (d := d + 2)) rfl (by decide) (Nat.le_of_ble_eq_true rfl) (Nat.le_of_ble_eq_true rfl) (Nat.le_of_ble_eq_true rfl) (by decide +kernel) (by decide +kernel) (fun ad1 => ?_)
  refine n_putF (pc := 12) (fs' := [.ref (ad1 1), .null, .null, .null, .null, .null, .null, .null, .null, .null, .int 0]) dX8_init_12 fl332 fq8_0 rfl rfl (Nat.le_of_ble_eq_true rfl) rfl ?_
  refine n_aload_n (pc := 15) 0 dX8_init_15 rfl rfl ?_
  refine n_new3 (pc := 16) (d := d + 3) (MC := 107) (MS := 1557) (b' := 6) rfl dX8_init_16 dX8_init_19 dX8_init_20 cls92 rfl siw94 (c_init_3_6 (d := d + 2)) rfl (by decide) (Nat.le_of_ble_eq_true rfl) (Nat.le_of_ble_eq_true rfl) (Nat.le_of_ble_eq_true rfl) (by decide +kernel) (by decide +kernel) (fun ad6 => ?_)
  refine n_putF (pc := 23) (fs' := [.ref (ad1 1), .ref (ad6 6), .null, .null, .null, .null, .null, .null, .null, .null, .int 0]) dX8_init_23 fl333 fq8_1 rfl rfl (Nat.le_of_ble_eq_true rfl) rfl ?_
  refine n_aload_n (pc := 26) 0 dX8_init_26 rfl rfl ?_
  refine n_new3 (pc := 27) (d := d + 3) (MC := 107) (MS := 1557) (b' := 11) rfl dX8_init_27 dX8_init_30 dX8_init_31 cls92 rfl siw94 (c_init_3_11 (d := d + 2)) rfl (by decide) (Nat.le_of_ble_eq_true rfl) (Nat.le_of_ble_eq_true rfl) (Nat.le_of_ble_eq_true rfl) (by decide +kernel) (by decide +kernel) (fun ad11 => ?_)
  refine n_putF (pc := 34) (fs' := [.ref (ad1 1), .ref (ad6 6), .ref (ad11 11), .null, .null, .null, .null, .null, .null, .null, .int 0]) dX8_init_34 fl334 fq8_2 rfl rfl (Nat.le_of_ble_eq_true rfl) rfl ?_
  refine n_aload_n (pc := 37) 0 dX8_init_37 rfl rfl ?_
  refine n_new3 (pc := 38) (d := d + 3) (MC := 107) (MS := 1557) (b' := 16) rfl dX8_init_38 dX8_init_41 dX8_init_42 cls140 rfl siw142 (c_init_1_16 (d := d + 1)) rfl (by decide) (Nat.le_of_ble_eq_true rfl) (Nat.le_of_ble_eq_true rfl) (Nat.le_of_ble_eq_true rfl) (by decide +kernel) (by decide +kernel) (fun ad16 => ?_)
  refine n_putF (pc := 45) (fs' := [.ref (ad1 1), .ref (ad6 6), .ref (ad11 11), .ref (ad16 16), .null, .null, .null, .null, .null, .null, .int 0]) dX8_init_45 fl335 fq8_3 rfl rfl (Nat.le_of_ble_eq_true rfl) rfl ?_
  refine n_aload_n (pc := 48) 0 dX8_init_48 rfl rfl ?_
  refine n_new3 (pc := 49) (d := d + 3) (MC := 107) (MS := 1557) (b' := 36) rfl dX8_init_49 dX8_init_52 dX8_init_53 cls140 rfl siw142 (c_init_1_36 (d := d + 1)) rfl (by decide) (Nat.le_of_ble_eq_true rfl) (Nat.le_of_ble_eq_true rfl) (Nat.le_of_ble_eq_true rfl) (by decide +kernel) (by decide +kernel) (fun ad36 => ?_)
  refine n_putF (pc := 56) (fs' := [.ref (ad1 1), .ref (ad6 6), .ref (ad11 11), .ref (ad16 16), .ref (ad36 36), .null, .null, .null, .null, .null, .int 0]) dX8_init_56 fl336 fq8_4 rfl rfl (Nat.le_of_ble_eq_true rfl) rfl ?_
  refine n_aload_n (pc := 59) 0 dX8_init_59 rfl rfl ?_
  refine n_new3 (pc := 60) (d := d + 3) (MC := 107) (MS := 1557) (b' := 56) rfl dX8_init_60 dX8_init_63 dX8_init_64 cls210 rfl siw212 (c_init_2_56 (d := d)) rfl (by decide) (Nat.le_of_ble_eq_true rfl) (Nat.le_of_ble_eq_true rfl) (Nat.le_of_ble_eq_true rfl) (by decide +kernel) (by decide +kernel) (fun ad56 => ?_)
  refine n_putF (pc := 67) (fs' := [.ref (ad1 1), .ref (ad6 6), .ref (ad11 11), .ref (ad16 16), .ref (ad36 36), .ref (ad56 56), .null, .null, .null, .null, .int 0]) dX8_init_67 fl337 fq8_5 rfl rfl (Nat.le_of_ble_eq_true rfl) rfl ?_
  refine n_aload_n (pc := 70) 0 dX8_init_70 rfl rfl ?_
  refine n_new3 (pc := 71) (d := d + 3) (MC := 107) (MS := 1557) (b' := 96) rfl dX8_init_71 dX8_init_74 dX8_init_75 cls284 rfl siw286 (c_init_7_96 (d := d + 2)) rfl (by decide) (Nat.le_of_ble_eq_true rfl) (Nat.le_of_ble_eq_true rfl) (Nat.le_of_ble_eq_true rfl) (by decide +kernel) (by decide +kernel) (fun ad96 => ?_)
  refine n_putF (pc := 78) (fs' := [.ref (ad1 1), .ref (ad6 6), .ref (ad11 11), .ref (ad16 16), .ref (ad36 36), .ref (ad56 56), .ref (ad96 96), .null, .null, .null, .int 0]) dX8_init_78 fl338 fq8_6 rfl rfl (Nat.le_of_ble_eq_true rfl) rfl ?_
  refine n_aload_n (pc := 81) 0 dX8_init_81 rfl rfl ?_
  refine n_new3 (pc := 82) (d := d + 3) (MC := 107) (MS := 1557) (b' := 98) rfl dX8_init_82 dX8_init_85 dX8_init_86 cls298 rfl siw300 (c_init_5_98 (d := d + 2)) rfl (by decide) (Nat.le_of_ble_eq_true rfl) (Nat.le_of_ble_eq_true rfl) (Nat.le_of_ble_eq_true rfl) (by decide +kernel) (by decide +kernel) (fun ad98 => ?_)
  refine n_putF (pc := 89) (fs' := [.ref (ad1 1), .ref (ad6 6), .ref (ad11 11), .ref (ad16 16), .ref (ad36 36), .ref (ad56 56), .ref (ad96 96), .ref (ad98 98), .null, .null, .int 0]) dX8_init_89 fl339 fq8_7 rfl rfl (Nat.le_of_ble_eq_true rfl) rfl ?_
  refine n_aload_n (pc := 92) 0 dX8_init_92 rfl rfl ?_
  refine n_new3 (pc := 93) (d := d + 3) (MC := 107) (MS := 1557) (b' := 100) rfl dX8_init_93 dX8_init_96 dX8_init_97 cls313 rfl siw315 (c_init_6_100 (d := d + 2)) rfl (by decide) (Nat.le_of_ble_eq_true rfl) (Nat.le_of_ble_eq_true rfl) (Nat.le_of_ble_eq_true rfl) (by decide +kernel) (by decide +kernel) (fun ad100 => ?_)
  refine n_putF (pc := 100) (fs' := [.ref (ad1 1), .ref (ad6 6), .ref (ad11 11), .ref (ad16 16), .ref (ad36 36), .ref (ad56 56), .ref (ad96 96), .ref (ad98 98), .ref (ad100 100), .null, .int 0]) dX8_init_100 fl340 fq8_8 rfl rfl (Nat.le_of_ble_eq_true rfl) rfl ?_
  refine n_aload_n (pc := 103) 0 dX8_init_103 rfl rfl ?_
  refine n_bipush (pc := 104) (v := 24) dX8_init_104 (by decide) ?_
  refine n_newaI (pc := 106) (k9 := 107) (N' := 24) rfl dX8_init_106 wa_int rfl rfl rfl (by decide +kernel) (by decide) rfl (by decide) (Nat.le_of_ble_eq_true rfl) (Nat.le_of_ble_eq_true rfl) (fun q107 => ?_)
  refine n_putF (pc := 108) (fs' := [.ref (ad1 1), .ref (ad6 6), .ref (ad11 11), .ref (ad16 16), .ref (ad36 36), .ref (ad56 56), .ref (ad96 96), .ref (ad98 98), .ref (ad100 100), .ref q107, .int 0]) dX8_init_108 fl341 fq8_9 rfl rfl (Nat.le_of_ble_eq_true rfl) rfl ?_
  refine n_aload_n (pc := 111) 0 dX8_init_111 rfl rfl ?_
  refine n_iconst (pc := 112) (v := 0) dX8_init_112 (by decide) ?_
  refine n_put (pc := 113) (fs' := [.ref (ad1 1), .ref (ad6 6), .ref (ad11 11), .ref (ad16 16), .ref (ad36 36), .ref (ad56 56), .ref (ad96 96), .ref (ad98 98), .ref (ad100 100), .ref q107, .int (0)]) dX8_init_113 fl342 fq8_10 rfl rfl (Nat.le_of_ble_eq_true rfl) rfl ?_
  exact n_ret (d := d) (v := fun _ => 0) (pc := 116) dX8_init_116 rfl rfl (by decide) rfl (by decide +kernel) (fun _ _ _ => rfl) (fun _ _ _ => rfl)
set_option maxHeartbeats 4000000 in
set_option maxRecDepth 100000 in
theorem c_init_9_108 {l : Launch} {D : va_G} {cA : Nat → ClassId} {d : Nat} (a sz : Nat) : CI l D cA (d + 1) 28 756 yX9_init cX9_init 2 a sz 108 9 29 h0 := by
  refine CI_of (ad := fun _ => 0) (h := (rI (rI h0 109 (fun _ => 0)) 135 (fun _ => 0))) (own := RX9) (by decide +kernel) rfl rfl (by decide) ?_
  refine n_aload_n (pc := 0) 0 dX9_init_0 rfl rfl ?_
  refine n_objInit (pc := 1) (d := d + 0) (mc := 28) (ms := 756) dX9_init_1 wom845 wo_i wo_c rfl (Nat.le_of_ble_eq_true rfl) ?_
  refine n_aload_n (pc := 4) 0 dX9_init_4 rfl rfl ?_
  refine n_bipush (pc := 5) (v := 44) dX9_init_5 (by decide) ?_
  refine n_newaI (pc := 7) (k9 := 109) (N' := 44) rfl dX9_init_7 wa_int rfl rfl rfl (by decide +kernel) (by decide) rfl (by decide) (Nat.le_of_ble_eq_true rfl) (Nat.le_of_ble_eq_true rfl) (fun q109 => ?_)
  refine n_putF (pc := 9) (fs' := [.ref q109, .null, .int 0, .int 0, .int 0, .null, .int 0, .int 0, .null, .null, .null, .null, .null, .null, .int 0, .int 0, .null, .null, .null, .null, .null, .null, .null, .null, .int 0, .int 0, .null, .null, .int 0, .null, .null, .int 0, .int 0, .null, .null, .int 0, .null, .null, .int 0, .null, .null, .null]) dX9_init_9 fl846 fq9_0 rfl rfl (Nat.le_of_ble_eq_true rfl) rfl ?_
  refine n_aload_n (pc := 12) 0 dX9_init_12 rfl rfl ?_
  refine n_bipush (pc := 13) (v := 44) dX9_init_13 (by decide) ?_
  refine n_newaI (pc := 15) (k9 := 110) (N' := 44) rfl dX9_init_15 wa_int rfl rfl rfl (by decide +kernel) (by decide) rfl (by decide) (Nat.le_of_ble_eq_true rfl) (Nat.le_of_ble_eq_true rfl) (fun q110 => ?_)
  refine n_putF (pc := 17) (fs' := [.ref q109, .ref q110, .int 0, .int 0, .int 0, .null, .int 0, .int 0, .null, .null, .null, .null, .null, .null, .int 0, .int 0, .null, .null, .null, .null, .null, .null, .null, .null, .int 0, .int 0, .null, .null, .int 0, .null, .null, .int 0, .int 0, .null, .null, .int 0, .null, .null, .int 0, .null, .null, .null]) dX9_init_17 fl847 fq9_1 rfl rfl (Nat.le_of_ble_eq_true rfl) rfl ?_
  refine n_aload_n (pc := 20) 0 dX9_init_20 rfl rfl ?_
  refine n_bipush (pc := 21) (v := 120) dX9_init_21 (by decide) ?_
  refine n_newaI (pc := 23) (k9 := 111) (N' := 120) rfl dX9_init_23 wa_int rfl rfl rfl (by decide +kernel) (by decide) rfl (by decide) (Nat.le_of_ble_eq_true rfl) (Nat.le_of_ble_eq_true rfl) (fun q111 => ?_)
  refine n_putF (pc := 25) (fs' := [.ref q109, .ref q110, .int 0, .int 0, .int 0, .ref q111, .int 0, .int 0, .null, .null, .null, .null, .null, .null, .int 0, .int 0, .null, .null, .null, .null, .null, .null, .null, .null, .int 0, .int 0, .null, .null, .int 0, .null, .null, .int 0, .int 0, .null, .null, .int 0, .null, .null, .int 0, .null, .null, .null]) dX9_init_25 fl851 fq9_5 rfl rfl (Nat.le_of_ble_eq_true rfl) rfl ?_
  refine n_aload_n (pc := 28) 0 dX9_init_28 rfl rfl ?_
  refine n_bipush (pc := 29) (v := 24) dX9_init_29 (by decide) ?_
  refine n_newaI (pc := 31) (k9 := 112) (N' := 24) rfl dX9_init_31 wa_int rfl rfl rfl (by decide +kernel) (by decide) rfl (by decide) (Nat.le_of_ble_eq_true rfl) (Nat.le_of_ble_eq_true rfl) (fun q112 => ?_)
  refine n_putF (pc := 33) (fs' := [.ref q109, .ref q110, .int 0, .int 0, .int 0, .ref q111, .int 0, .int 0, .ref q112, .null, .null, .null, .null, .null, .int 0, .int 0, .null, .null, .null, .null, .null, .null, .null, .null, .int 0, .int 0, .null, .null, .int 0, .null, .null, .int 0, .int 0, .null, .null, .int 0, .null, .null, .int 0, .null, .null, .null]) dX9_init_33 fl854 fq9_8 rfl rfl (Nat.le_of_ble_eq_true rfl) rfl ?_
  refine n_aload_n (pc := 36) 0 dX9_init_36 rfl rfl ?_
  refine n_bipush (pc := 37) (v := 6) dX9_init_37 (by decide) ?_
  refine n_newaZ (pc := 39) (k9 := 113) (N' := 6) rfl dX9_init_39 wa_boolean rfl rfl rfl (by decide +kernel) (by decide) rfl (by decide) (Nat.le_of_ble_eq_true rfl) (Nat.le_of_ble_eq_true rfl) (fun q113 => ?_)
  refine n_putF (pc := 41) (fs' := [.ref q109, .ref q110, .int 0, .int 0, .int 0, .ref q111, .int 0, .int 0, .ref q112, .ref q113, .null, .null, .null, .null, .int 0, .int 0, .null, .null, .null, .null, .null, .null, .null, .null, .int 0, .int 0, .null, .null, .int 0, .null, .null, .int 0, .int 0, .null, .null, .int 0, .null, .null, .int 0, .null, .null, .null]) dX9_init_41 fl855 fq9_9 rfl rfl (Nat.le_of_ble_eq_true rfl) rfl ?_
  refine n_aload_n (pc := 44) 0 dX9_init_44 rfl rfl ?_
  refine n_bipush (pc := 45) (v := 6) dX9_init_45 (by decide) ?_
  refine n_newaI (pc := 47) (k9 := 114) (N' := 6) rfl dX9_init_47 wa_int rfl rfl rfl (by decide +kernel) (by decide) rfl (by decide) (Nat.le_of_ble_eq_true rfl) (Nat.le_of_ble_eq_true rfl) (fun q114 => ?_)
  refine n_putF (pc := 49) (fs' := [.ref q109, .ref q110, .int 0, .int 0, .int 0, .ref q111, .int 0, .int 0, .ref q112, .ref q113, .ref q114, .null, .null, .null, .int 0, .int 0, .null, .null, .null, .null, .null, .null, .null, .null, .int 0, .int 0, .null, .null, .int 0, .null, .null, .int 0, .int 0, .null, .null, .int 0, .null, .null, .int 0, .null, .null, .null]) dX9_init_49 fl856 fq9_10 rfl rfl (Nat.le_of_ble_eq_true rfl) rfl ?_
  refine n_aload_n (pc := 52) 0 dX9_init_52 rfl rfl ?_
  refine n_bipush (pc := 53) (v := 6) dX9_init_53 (by decide) ?_
  refine n_newaI (pc := 55) (k9 := 115) (N' := 6) rfl dX9_init_55 wa_int rfl rfl rfl (by decide +kernel) (by decide) rfl (by decide) (Nat.le_of_ble_eq_true rfl) (Nat.le_of_ble_eq_true rfl) (fun q115 => ?_)
  refine n_putF (pc := 57) (fs' := [.ref q109, .ref q110, .int 0, .int 0, .int 0, .ref q111, .int 0, .int 0, .ref q112, .ref q113, .ref q114, .ref q115, .null, .null, .int 0, .int 0, .null, .null, .null, .null, .null, .null, .null, .null, .int 0, .int 0, .null, .null, .int 0, .null, .null, .int 0, .int 0, .null, .null, .int 0, .null, .null, .int 0, .null, .null, .null]) dX9_init_57 fl857 fq9_11 rfl rfl (Nat.le_of_ble_eq_true rfl) rfl ?_
  refine n_aload_n (pc := 60) 0 dX9_init_60 rfl rfl ?_
  refine n_bipush (pc := 61) (v := 6) dX9_init_61 (by decide) ?_
  refine n_newaI (pc := 63) (k9 := 116) (N' := 6) rfl dX9_init_63 wa_int rfl rfl rfl (by decide +kernel) (by decide) rfl (by decide) (Nat.le_of_ble_eq_true rfl) (Nat.le_of_ble_eq_true rfl) (fun q116 => ?_)
  refine n_putF (pc := 65) (fs' := [.ref q109, .ref q110, .int 0, .int 0, .int 0, .ref q111, .int 0, .int 0, .ref q112, .ref q113, .ref q114, .ref q115, .ref q116, .null, .int 0, .int 0, .null, .null, .null, .null, .null, .null, .null, .null, .int 0, .int 0, .null, .null, .int 0, .null, .null, .int 0, .int 0, .null, .null, .int 0, .null, .null, .int 0, .null, .null, .null]) dX9_init_65 fl858 fq9_12 rfl rfl (Nat.le_of_ble_eq_true rfl) rfl ?_
  refine n_aload_n (pc := 68) 0 dX9_init_68 rfl rfl ?_
  refine n_bipush (pc := 69) (v := 60) dX9_init_69 (by decide) ?_
  refine n_newaI (pc := 71) (k9 := 117) (N' := 60) rfl dX9_init_71 wa_int rfl rfl rfl (by decide +kernel) (by decide) rfl (by decide) (Nat.le_of_ble_eq_true rfl) (Nat.le_of_ble_eq_true rfl) (fun q117 => ?_)
  refine n_putF (pc := 73) (fs' := [.ref q109, .ref q110, .int 0, .int 0, .int 0, .ref q111, .int 0, .int 0, .ref q112, .ref q113, .ref q114, .ref q115, .ref q116, .ref q117, .int 0, .int 0, .null, .null, .null, .null, .null, .null, .null, .null, .int 0, .int 0, .null, .null, .int 0, .null, .null, .int 0, .int 0, .null, .null, .int 0, .null, .null, .int 0, .null, .null, .null]) dX9_init_73 fl859 fq9_13 rfl rfl (Nat.le_of_ble_eq_true rfl) rfl ?_
  refine n_aload_n (pc := 76) 0 dX9_init_76 rfl rfl ?_
  refine n_bipush (pc := 77) (v := 6) dX9_init_77 (by decide) ?_
  refine n_newaL (pc := 79) (k9 := 118) (N' := 6) rfl dX9_init_79 wa_long rfl rfl rfl (by decide +kernel) (by decide) rfl (by decide) (Nat.le_of_ble_eq_true rfl) (Nat.le_of_ble_eq_true rfl) (fun q118 => ?_)
  refine n_putF (pc := 81) (fs' := [.ref q109, .ref q110, .int 0, .int 0, .int 0, .ref q111, .int 0, .int 0, .ref q112, .ref q113, .ref q114, .ref q115, .ref q116, .ref q117, .int 0, .int 0, .ref q118, .null, .null, .null, .null, .null, .null, .null, .int 0, .int 0, .null, .null, .int 0, .null, .null, .int 0, .int 0, .null, .null, .int 0, .null, .null, .int 0, .null, .null, .null]) dX9_init_81 fl862 fq9_16 rfl rfl (Nat.le_of_ble_eq_true rfl) rfl ?_
  refine n_aload_n (pc := 84) 0 dX9_init_84 rfl rfl ?_
  refine n_bipush (pc := 85) (v := 6) dX9_init_85 (by decide) ?_
  refine n_newaZ (pc := 87) (k9 := 119) (N' := 6) rfl dX9_init_87 wa_boolean rfl rfl rfl (by decide +kernel) (by decide) rfl (by decide) (Nat.le_of_ble_eq_true rfl) (Nat.le_of_ble_eq_true rfl) (fun q119 => ?_)
  refine n_putF (pc := 89) (fs' := [.ref q109, .ref q110, .int 0, .int 0, .int 0, .ref q111, .int 0, .int 0, .ref q112, .ref q113, .ref q114, .ref q115, .ref q116, .ref q117, .int 0, .int 0, .ref q118, .ref q119, .null, .null, .null, .null, .null, .null, .int 0, .int 0, .null, .null, .int 0, .null, .null, .int 0, .int 0, .null, .null, .int 0, .null, .null, .int 0, .null, .null, .null]) dX9_init_89 fl863 fq9_17 rfl rfl (Nat.le_of_ble_eq_true rfl) rfl ?_
  refine n_aload_n (pc := 92) 0 dX9_init_92 rfl rfl ?_
  refine n_bipush (pc := 93) (v := 6) dX9_init_93 (by decide) ?_
  refine n_newaZ (pc := 95) (k9 := 120) (N' := 6) rfl dX9_init_95 wa_boolean rfl rfl rfl (by decide +kernel) (by decide) rfl (by decide) (Nat.le_of_ble_eq_true rfl) (Nat.le_of_ble_eq_true rfl) (fun q120 => ?_)
  refine n_putF (pc := 97) (fs' := [.ref q109, .ref q110, .int 0, .int 0, .int 0, .ref q111, .int 0, .int 0, .ref q112, .ref q113, .ref q114, .ref q115, .ref q116, .ref q117, .int 0, .int 0, .ref q118, .ref q119, .ref q120, .null, .null, .null, .null, .null, .int 0, .int 0, .null, .null, .int 0, .null, .null, .int 0, .int 0, .null, .null, .int 0, .null, .null, .int 0, .null, .null, .null]) dX9_init_97 fl864 fq9_18 rfl rfl (Nat.le_of_ble_eq_true rfl) rfl ?_
  refine n_aload_n (pc := 100) 0 dX9_init_100 rfl rfl ?_
  refine n_bipush (pc := 101) (v := 6) dX9_init_101 (by decide) ?_
  refine n_newaI (pc := 103) (k9 := 121) (N' := 6) rfl dX9_init_103 wa_int rfl rfl rfl (by decide +kernel) (by decide) rfl (by decide) (Nat.le_of_ble_eq_true rfl) (Nat.le_of_ble_eq_true rfl) (fun q121 => ?_)
  refine n_putF (pc := 105) (fs' := [.ref q109, .ref q110, .int 0, .int 0, .int 0, .ref q111, .int 0, .int 0, .ref q112, .ref q113, .ref q114, .ref q115, .ref q116, .ref q117, .int 0, .int 0, .ref q118, .ref q119, .ref q120, .ref q121, .null, .null, .null, .null, .int 0, .int 0, .null, .null, .int 0, .null, .null, .int 0, .int 0, .null, .null, .int 0, .null, .null, .int 0, .null, .null, .null]) dX9_init_105 fl865 fq9_19 rfl rfl (Nat.le_of_ble_eq_true rfl) rfl ?_
  refine n_aload_n (pc := 108) 0 dX9_init_108 rfl rfl ?_
  refine n_bipush (pc := 109) (v := 6) dX9_init_109 (by decide) ?_
  refine n_newaI (pc := 111) (k9 := 122) (N' := 6) rfl dX9_init_111 wa_int rfl rfl rfl (by decide +kernel) (by decide) rfl (by decide) (Nat.le_of_ble_eq_true rfl) (Nat.le_of_ble_eq_true rfl) (fun q122 => ?_)
  refine n_putF (pc := 113) (fs' := [.ref q109, .ref q110, .int 0, .int 0, .int 0, .ref q111, .int 0, .int 0, .ref q112, .ref q113, .ref q114, .ref q115, .ref q116, .ref q117, .int 0, .int 0, .ref q118, .ref q119, .ref q120, .ref q121, .ref q122, .null, .null, .null, .int 0, .int 0, .null, .null, .int 0, .null, .null, .int 0, .int 0, .null, .null, .int 0, .null, .null, .int 0, .null, .null, .null]) dX9_init_113 fl866 fq9_20 rfl rfl (Nat.le_of_ble_eq_true rfl) rfl ?_
  refine n_aload_n (pc := 116) 0 dX9_init_116 rfl rfl ?_
  refine n_bipush (pc := 117) (v := 6) dX9_init_117 (by decide) ?_
  refine n_newaI (pc := 119) (k9 := 123) (N' := 6) rfl dX9_init_119 wa_int rfl rfl rfl (by decide +kernel) (by decide) rfl (by decide) (Nat.le_of_ble_eq_true rfl) (Nat.le_of_ble_eq_true rfl) (fun q123 => ?_)
  refine n_putF (pc := 121) (fs' := [.ref q109, .ref q110, .int 0, .int 0, .int 0, .ref q111, .int 0, .int 0, .ref q112, .ref q113, .ref q114, .ref q115, .ref q116, .ref q117, .int 0, .int 0, .ref q118, .ref q119, .ref q120, .ref q121, .ref q122, .ref q123, .null, .null, .int 0, .int 0, .null, .null, .int 0, .null, .null, .int 0, .int 0, .null, .null, .int 0, .null, .null, .int 0, .null, .null, .null]) dX9_init_121 fl867 fq9_21 rfl rfl (Nat.le_of_ble_eq_true rfl) rfl ?_
  refine n_aload_n (pc := 124) 0 dX9_init_124 rfl rfl ?_
  refine n_bipush (pc := 125) (v := 6) dX9_init_125 (by decide) ?_
  refine n_newaI (pc := 127) (k9 := 124) (N' := 6) rfl dX9_init_127 wa_int rfl rfl rfl (by decide +kernel) (by decide) rfl (by decide) (Nat.le_of_ble_eq_true rfl) (Nat.le_of_ble_eq_true rfl) (fun q124 => ?_)
  refine n_putF (pc := 129) (fs' := [.ref q109, .ref q110, .int 0, .int 0, .int 0, .ref q111, .int 0, .int 0, .ref q112, .ref q113, .ref q114, .ref q115, .ref q116, .ref q117, .int 0, .int 0, .ref q118, .ref q119, .ref q120, .ref q121, .ref q122, .ref q123, .ref q124, .null, .int 0, .int 0, .null, .null, .int 0, .null, .null, .int 0, .int 0, .null, .null, .int 0, .null, .null, .int 0, .null, .null, .null]) dX9_init_129 fl868 fq9_22 rfl rfl (Nat.le_of_ble_eq_true rfl) rfl ?_
  refine n_aload_n (pc := 132) 0 dX9_init_132 rfl rfl ?_
  refine n_bipush (pc := 133) (v := 60) dX9_init_133 (by decide) ?_
  refine n_newaI (pc := 135) (k9 := 125) (N' := 60) rfl dX9_init_135 wa_int rfl rfl rfl (by decide +kernel) (by decide) rfl (by decide) (Nat.le_of_ble_eq_true rfl) (Nat.le_of_ble_eq_true rfl) (fun q125 => ?_)
  refine n_putF (pc := 137) (fs' := [.ref q109, .ref q110, .int 0, .int 0, .int 0, .ref q111, .int 0, .int 0, .ref q112, .ref q113, .ref q114, .ref q115, .ref q116, .ref q117, .int 0, .int 0, .ref q118, .ref q119, .ref q120, .ref q121, .ref q122, .ref q123, .ref q124, .ref q125, .int 0, .int 0, .null, .null, .int 0, .null, .null, .int 0, .int 0, .null, .null, .int 0, .null, .null, .int 0, .null, .null, .null]) dX9_init_137 fl869 fq9_23 rfl rfl (Nat.le_of_ble_eq_true rfl) rfl ?_
  refine n_aload_n (pc := 140) 0 dX9_init_140 rfl rfl ?_
  refine n_bipush (pc := 141) (v := 6) dX9_init_141 (by decide) ?_
  refine n_newaI (pc := 143) (k9 := 126) (N' := 6) rfl dX9_init_143 wa_int rfl rfl rfl (by decide +kernel) (by decide) rfl (by decide) (Nat.le_of_ble_eq_true rfl) (Nat.le_of_ble_eq_true rfl) (fun q126 => ?_)
  refine n_putF (pc := 145) (fs' := [.ref q109, .ref q110, .int 0, .int 0, .int 0, .ref q111, .int 0, .int 0, .ref q112, .ref q113, .ref q114, .ref q115, .ref q116, .ref q117, .int 0, .int 0, .ref q118, .ref q119, .ref q120, .ref q121, .ref q122, .ref q123, .ref q124, .ref q125, .int 0, .int 0, .ref q126, .null, .int 0, .null, .null, .int 0, .int 0, .null, .null, .int 0, .null, .null, .int 0, .null, .null, .null]) dX9_init_145 fl872 fq9_26 rfl rfl (Nat.le_of_ble_eq_true rfl) rfl ?_
  refine n_aload_n (pc := 148) 0 dX9_init_148 rfl rfl ?_
  refine n_bipush (pc := 149) (v := 96) dX9_init_149 (by decide) ?_
  refine n_newaI (pc := 151) (k9 := 127) (N' := 96) rfl dX9_init_151 wa_int rfl rfl rfl (by decide +kernel) (by decide) rfl (by decide) (Nat.le_of_ble_eq_true rfl) (Nat.le_of_ble_eq_true rfl) (fun q127 => ?_)
  refine n_putF (pc := 153) (fs' := [.ref q109, .ref q110, .int 0, .int 0, .int 0, .ref q111, .int 0, .int 0, .ref q112, .ref q113, .ref q114, .ref q115, .ref q116, .ref q117, .int 0, .int 0, .ref q118, .ref q119, .ref q120, .ref q121, .ref q122, .ref q123, .ref q124, .ref q125, .int 0, .int 0, .ref q126, .ref q127, .int 0, .null, .null, .int 0, .int 0, .null, .null, .int 0, .null, .null, .int 0, .null, .null, .null]) dX9_init_153 fl873 fq9_27 rfl rfl (Nat.le_of_ble_eq_true rfl) rfl ?_
  refine n_aload_n (pc := 156) 0 dX9_init_156 rfl rfl ?_
  refine n_iconst (pc := 157) (v := 4) dX9_init_157 (by decide) ?_
  refine n_newaI (pc := 158) (k9 := 128) (N' := 4) rfl dX9_init_158 wa_int rfl rfl rfl (by decide +kernel) (by decide) rfl (by decide) (Nat.le_of_ble_eq_true rfl) (Nat.le_of_ble_eq_true rfl) (fun q128 => ?_)
  refine n_putF (pc := 160) (fs' := [.ref q109, .ref q110, .int 0, .int 0, .int 0, .ref q111, .int 0, .int 0, .ref q112, .ref q113, .ref q114, .ref q115, .ref q116, .ref q117, .int 0, .int 0, .ref q118, .ref q119, .ref q120, .ref q121, .ref q122, .ref q123, .ref q124, .ref q125, .int 0, .int 0, .ref q126, .ref q127, .int 0, .ref q128, .null, .int 0, .int 0, .null, .null, .int 0, .null, .null, .int 0, .null, .null, .null]) dX9_init_160 fl875 fq9_29 rfl rfl (Nat.le_of_ble_eq_true rfl) rfl ?_
  refine n_aload_n (pc := 163) 0 dX9_init_163 rfl rfl ?_
  refine n_bipush (pc := 164) (v := 6) dX9_init_164 (by decide) ?_
  refine n_newaI (pc := 166) (k9 := 129) (N' := 6) rfl dX9_init_166 wa_int rfl rfl rfl (by decide +kernel) (by decide) rfl (by decide) (Nat.le_of_ble_eq_true rfl) (Nat.le_of_ble_eq_true rfl) (fun q129 => ?_)
  refine n_putF (pc := 168) (fs' := [.ref q109, .ref q110, .int 0, .int 0, .int 0, .ref q111, .int 0, .int 0, .ref q112, .ref q113, .ref q114, .ref q115, .ref q116, .ref q117, .int 0, .int 0, .ref q118, .ref q119, .ref q120, .ref q121, .ref q122, .ref q123, .ref q124, .ref q125, .int 0, .int 0, .ref q126, .ref q127, .int 0, .ref q128, .ref q129, .int 0, .int 0, .null, .null, .int 0, .null, .null, .int 0, .null, .null, .null]) dX9_init_168 fl876 fq9_30 rfl rfl (Nat.le_of_ble_eq_true rfl) rfl ?_
  refine n_aload_n (pc := 171) 0 dX9_init_171 rfl rfl ?_
  refine n_bipush (pc := 172) (v := 6) dX9_init_172 (by decide) ?_
  refine n_newaI (pc := 174) (k9 := 130) (N' := 6) rfl dX9_init_174 wa_int rfl rfl rfl (by decide +kernel) (by decide) rfl (by decide) (Nat.le_of_ble_eq_true rfl) (Nat.le_of_ble_eq_true rfl) (fun q130 => ?_)
  refine n_putF (pc := 176) (fs' := [.ref q109, .ref q110, .int 0, .int 0, .int 0, .ref q111, .int 0, .int 0, .ref q112, .ref q113, .ref q114, .ref q115, .ref q116, .ref q117, .int 0, .int 0, .ref q118, .ref q119, .ref q120, .ref q121, .ref q122, .ref q123, .ref q124, .ref q125, .int 0, .int 0, .ref q126, .ref q127, .int 0, .ref q128, .ref q129, .int 0, .int 0, .ref q130, .null, .int 0, .null, .null, .int 0, .null, .null, .null]) dX9_init_176 fl879 fq9_33 rfl rfl (Nat.le_of_ble_eq_true rfl) rfl ?_
  refine n_aload_n (pc := 179) 0 dX9_init_179 rfl rfl ?_
  refine n_bipush (pc := 180) (v := 24) dX9_init_180 (by decide) ?_
  refine n_newaI (pc := 182) (k9 := 131) (N' := 24) rfl dX9_init_182 wa_int rfl rfl rfl (by decide +kernel) (by decide) rfl (by decide) (Nat.le_of_ble_eq_true rfl) (Nat.le_of_ble_eq_true rfl) (fun q131 => ?_)
  refine n_putF (pc := 184) (fs' := [.ref q109, .ref q110, .int 0, .int 0, .int 0, .ref q111, .int 0, .int 0, .ref q112, .ref q113, .ref q114, .ref q115, .ref q116, .ref q117, .int 0, .int 0, .ref q118, .ref q119, .ref q120, .ref q121, .ref q122, .ref q123, .ref q124, .ref q125, .int 0, .int 0, .ref q126, .ref q127, .int 0, .ref q128, .ref q129, .int 0, .int 0, .ref q130, .ref q131, .int 0, .null, .null, .int 0, .null, .null, .null]) dX9_init_184 fl880 fq9_34 rfl rfl (Nat.le_of_ble_eq_true rfl) rfl ?_
  refine n_aload_n (pc := 187) 0 dX9_init_187 rfl rfl ?_
  refine n_iconst (pc := 188) (v := 4) dX9_init_188 (by decide) ?_
  refine n_newaI (pc := 189) (k9 := 132) (N' := 4) rfl dX9_init_189 wa_int rfl rfl rfl (by decide +kernel) (by decide) rfl (by decide) (Nat.le_of_ble_eq_true rfl) (Nat.le_of_ble_eq_true rfl) (fun q132 => ?_)
  refine n_putF (pc := 191) (fs' := [.ref q109, .ref q110, .int 0, .int 0, .int 0, .ref q111, .int 0, .int 0, .ref q112, .ref q113, .ref q114, .ref q115, .ref q116, .ref q117, .int 0, .int 0, .ref q118, .ref q119, .ref q120, .ref q121, .ref q122, .ref q123, .ref q124, .ref q125, .int 0, .int 0, .ref q126, .ref q127, .int 0, .ref q128, .ref q129, .int 0, .int 0, .ref q130, .ref q131, .int 0, .ref q132, .null, .int 0, .null, .null, .null]) dX9_init_191 fl882 fq9_36 rfl rfl (Nat.le_of_ble_eq_true rfl) rfl ?_
  refine n_aload_n (pc := 194) 0 dX9_init_194 rfl rfl ?_
  refine n_iconst (pc := 195) (v := 4) dX9_init_195 (by decide) ?_
  refine n_newaI (pc := 196) (k9 := 133) (N' := 4) rfl dX9_init_196 wa_int rfl rfl rfl (by decide +kernel) (by decide) rfl (by decide) (Nat.le_of_ble_eq_true rfl) (Nat.le_of_ble_eq_true rfl) (fun q133 => ?_)
  refine n_putF (pc := 198) (fs' := [.ref q109, .ref q110, .int 0, .int 0, .int 0, .ref q111, .int 0, .int 0, .ref q112, .ref q113, .ref q114, .ref q115, .ref q116, .ref q117, .int 0, .int 0, .ref q118, .ref q119, .ref q120, .ref q121, .ref q122, .ref q123, .ref q124, .ref q125, .int 0, .int 0, .ref q126, .ref q127, .int 0, .ref q128, .ref q129, .int 0, .int 0, .ref q130, .ref q131, .int 0, .ref q132, .ref q133, .int 0, .null, .null, .null]) dX9_init_198 fl883 fq9_37 rfl rfl (Nat.le_of_ble_eq_true rfl) rfl ?_
  refine n_aload_n (pc := 201) 0 dX9_init_201 rfl rfl ?_
  refine n_sipush (pc := 202) (v := 160) dX9_init_202 (by decide) ?_
  refine n_newaI (pc := 205) (k9 := 134) (N' := 160) rfl dX9_init_205 wa_int rfl rfl rfl (by decide +kernel) (by decide) rfl (by decide) (Nat.le_of_ble_eq_true rfl) (Nat.le_of_ble_eq_true rfl) (fun q134 => ?_)
  refine n_putF (pc := 207) (fs' := [.ref q109, .ref q110, .int 0, .int 0, .int 0, .ref q111, .int 0, .int 0, .ref q112, .ref q113, .ref q114, .ref q115, .ref q116, .ref q117, .int 0, .int 0, .ref q118, .ref q119, .ref q120, .ref q121, .ref q122, .ref q123, .ref q124, .ref q125, .int 0, .int 0, .ref q126, .ref q127, .int 0, .ref q128, .ref q129, .int 0, .int 0, .ref q130, .ref q131, .int 0, .ref q132, .ref q133, .int 0, .ref q134, .null, .null]) dX9_init_207 fl885 fq9_39 rfl rfl (Nat.le_of_ble_eq_true rfl) rfl ?_
  refine n_aload_n (pc := 210) 0 dX9_init_210 rfl rfl ?_
  refine n_iconst (pc := 211) (v := 4) dX9_init_211 (by decide) ?_
  refine n_newaI (pc := 212) (k9 := 135) (N' := 4) rfl dX9_init_212 wa_int rfl rfl rfl (by decide +kernel) (by decide) rfl (by decide) (Nat.le_of_ble_eq_true rfl) (Nat.le_of_ble_eq_true rfl) (fun q135 => ?_)
  refine n_dup (pc := 214) dX9_init_214 rfl ?_
  refine n_iconst (pc := 215) (v := 0) dX9_init_215 (by decide) ?_
  refine n_iconst (pc := 216) (v := -1) dX9_init_216 (by decide) ?_
  refine n_iast (pc := 217) (k9 := 135) (i9 := 0) 26 (by decide) rfl dX9_init_217 rfl rfl (by decide) (by decide) ?_
  refine n_dup (pc := 218) dX9_init_218 rfl ?_
  refine n_iconst (pc := 219) (v := 1) dX9_init_219 (by decide) ?_
  refine n_iconst (pc := 220) (v := -1) dX9_init_220 (by decide) ?_
  refine n_iast (pc := 221) (k9 := 135) (i9 := 1) 26 (by decide) rfl dX9_init_221 rfl rfl (by decide) (by decide) ?_
  refine n_dup (pc := 222) dX9_init_222 rfl ?_
  refine n_iconst (pc := 223) (v := 2) dX9_init_223 (by decide) ?_
  refine n_iconst (pc := 224) (v := -1) dX9_init_224 (by decide) ?_
  refine n_iast (pc := 225) (k9 := 135) (i9 := 2) 26 (by decide) rfl dX9_init_225 rfl rfl (by decide) (by decide) ?_
  refine n_dup (pc := 226) dX9_init_226 rfl ?_
  refine n_iconst (pc := 227) (v := 3) dX9_init_227 (by decide) ?_
  refine n_iconst (pc := 228) (v := -1) dX9_init_228 (by decide) ?_
  refine n_iast (pc := 229) (k9 := 135) (i9 := 3) 26 (by decide) rfl dX9_init_229 rfl rfl (by decide) (by decide) ?_
  refine n_putF (pc := 230) (fs' := [.ref q109, .ref q110, .int 0, .int 0, .int 0, .ref q111, .int 0, .int 0, .ref q112, .ref q113, .ref q114, .ref q115, .ref q116, .ref q117, .int 0, .int 0, .ref q118, .ref q119, .ref q120, .ref q121, .ref q122, .ref q123, .ref q124, .ref q125, .int 0, .int 0, .ref q126, .ref q127, .int 0, .ref q128, .ref q129, .int 0, .int 0, .ref q130, .ref q131, .int 0, .ref q132, .ref q133, .int 0, .ref q134, .ref q135, .null]) dX9_init_230 fl886 fq9_40 rfl rfl (Nat.le_of_ble_eq_true rfl) rfl ?_
  refine n_aload_n (pc := 233) 0 dX9_init_233 rfl rfl ?_
  refine n_bipush (pc := 234) (v := 24) dX9_init_234 (by decide) ?_
  refine n_newaI (pc := 236) (k9 := 136) (N' := 24) rfl dX9_init_236 wa_int rfl rfl rfl (by decide +kernel) (by decide) rfl (by decide) (Nat.le_of_ble_eq_true rfl) (Nat.le_of_ble_eq_true rfl) (fun q136 => ?_)
  refine n_putF (pc := 238) (fs' := [.ref q109, .ref q110, .int 0, .int 0, .int 0, .ref q111, .int 0, .int 0, .ref q112, .ref q113, .ref q114, .ref q115, .ref q116, .ref q117, .int 0, .int 0, .ref q118, .ref q119, .ref q120, .ref q121, .ref q122, .ref q123, .ref q124, .ref q125, .int 0, .int 0, .ref q126, .ref q127, .int 0, .ref q128, .ref q129, .int 0, .int 0, .ref q130, .ref q131, .int 0, .ref q132, .ref q133, .int 0, .ref q134, .ref q135, .ref q136]) dX9_init_238 fl887 fq9_41 rfl rfl (Nat.le_of_ble_eq_true rfl) rfl ?_
  refine n_iconst (pc := 241) (v := 0) dX9_init_241 (by decide) ?_
  refine n_istore_n (pc := 242) (lv' := [(1, .int 0), (0, .ref a)]) dX9_init_242 rfl (by decide) rfl ?_
  refine n_iload_n (pc := 243) 0 dX9_init_243 rfl rfl ?_
  refine n_bipush (pc := 244) (v := 6) dX9_init_244 (by decide) ?_
  refine n_icmp_ge_f (pc := 246) (tgt := 265) dX9_init_246 (by decide) (by decide) ?_
  refine n_aload_n (pc := 249) 1 dX9_init_249 rfl rfl ?_
  refine n_getR (pc := 250) dX9_init_250 fl846 rfl ?_
  refine n_bipush (pc := 253) (v := 34) dX9_init_253 (by decide) ?_
  refine n_iload_n (pc := 255) 0 dX9_init_255 rfl rfl ?_
  refine n_iadd (pc := 256) (v := 34) dX9_init_256 (by decide) ?_
  refine n_iload_n (pc := 257) 0 dX9_init_257 rfl rfl ?_
  refine n_iast (pc := 258) (k9 := 109) (i9 := 34) 0 (by decide) rfl dX9_init_258 rfl rfl (by decide) (by decide) ?_
  refine n_iinc (pc := 259) 0 (v := 1) (lv' := [(1, .int 1), (0, .ref a)]) dX9_init_259 rfl (by decide) (by decide) rfl ?_
  refine n_goto (pc := 262) (tgt := 243) dX9_init_262 (by decide) ?_
  refine n_iload_n (pc := 243) 0 dX9_init_243 rfl rfl ?_
  refine n_bipush (pc := 244) (v := 6) dX9_init_244 (by decide) ?_
  refine n_icmp_ge_f (pc := 246) (tgt := 265) dX9_init_246 (by decide) (by decide) ?_
  refine n_aload_n (pc := 249) 1 dX9_init_249 rfl rfl ?_
  refine n_getR (pc := 250) dX9_init_250 fl846 rfl ?_
  refine n_bipush (pc := 253) (v := 34) dX9_init_253 (by decide) ?_
  refine n_iload_n (pc := 255) 0 dX9_init_255 rfl rfl ?_
  refine n_iadd (pc := 256) (v := 35) dX9_init_256 (by decide) ?_
  refine n_iload_n (pc := 257) 0 dX9_init_257 rfl rfl ?_
  refine n_iast (pc := 258) (k9 := 109) (i9 := 35) 0 (by decide) rfl dX9_init_258 rfl rfl (by decide) (by decide) ?_
  refine n_iinc (pc := 259) 0 (v := 2) (lv' := [(1, .int 2), (0, .ref a)]) dX9_init_259 rfl (by decide) (by decide) rfl ?_
  refine n_goto (pc := 262) (tgt := 243) dX9_init_262 (by decide) ?_
  refine n_iload_n (pc := 243) 0 dX9_init_243 rfl rfl ?_
  refine n_bipush (pc := 244) (v := 6) dX9_init_244 (by decide) ?_
  refine n_icmp_ge_f (pc := 246) (tgt := 265) dX9_init_246 (by decide) (by decide) ?_
  refine n_aload_n (pc := 249) 1 dX9_init_249 rfl rfl ?_
  refine n_getR (pc := 250) dX9_init_250 fl846 rfl ?_
  refine n_bipush (pc := 253) (v := 34) dX9_init_253 (by decide) ?_
  refine n_iload_n (pc := 255) 0 dX9_init_255 rfl rfl ?_
  refine n_iadd (pc := 256) (v := 36) dX9_init_256 (by decide) ?_
  refine n_iload_n (pc := 257) 0 dX9_init_257 rfl rfl ?_
  refine n_iast (pc := 258) (k9 := 109) (i9 := 36) 0 (by decide) rfl dX9_init_258 rfl rfl (by decide) (by decide) ?_
  refine n_iinc (pc := 259) 0 (v := 3) (lv' := [(1, .int 3), (0, .ref a)]) dX9_init_259 rfl (by decide) (by decide) rfl ?_
  refine n_goto (pc := 262) (tgt := 243) dX9_init_262 (by decide) ?_
  refine n_iload_n (pc := 243) 0 dX9_init_243 rfl rfl ?_
  refine n_bipush (pc := 244) (v := 6) dX9_init_244 (by decide) ?_
  refine n_icmp_ge_f (pc := 246) (tgt := 265) dX9_init_246 (by decide) (by decide) ?_
  refine n_aload_n (pc := 249) 1 dX9_init_249 rfl rfl ?_
  refine n_getR (pc := 250) dX9_init_250 fl846 rfl ?_
  refine n_bipush (pc := 253) (v := 34) dX9_init_253 (by decide) ?_
  refine n_iload_n (pc := 255) 0 dX9_init_255 rfl rfl ?_
  refine n_iadd (pc := 256) (v := 37) dX9_init_256 (by decide) ?_
  refine n_iload_n (pc := 257) 0 dX9_init_257 rfl rfl ?_
  refine n_iast (pc := 258) (k9 := 109) (i9 := 37) 0 (by decide) rfl dX9_init_258 rfl rfl (by decide) (by decide) ?_
  refine n_iinc (pc := 259) 0 (v := 4) (lv' := [(1, .int 4), (0, .ref a)]) dX9_init_259 rfl (by decide) (by decide) rfl ?_
  refine n_goto (pc := 262) (tgt := 243) dX9_init_262 (by decide) ?_
  refine n_iload_n (pc := 243) 0 dX9_init_243 rfl rfl ?_
  refine n_bipush (pc := 244) (v := 6) dX9_init_244 (by decide) ?_
  refine n_icmp_ge_f (pc := 246) (tgt := 265) dX9_init_246 (by decide) (by decide) ?_
  refine n_aload_n (pc := 249) 1 dX9_init_249 rfl rfl ?_
  refine n_getR (pc := 250) dX9_init_250 fl846 rfl ?_
  refine n_bipush (pc := 253) (v := 34) dX9_init_253 (by decide) ?_
  refine n_iload_n (pc := 255) 0 dX9_init_255 rfl rfl ?_
  refine n_iadd (pc := 256) (v := 38) dX9_init_256 (by decide) ?_
  refine n_iload_n (pc := 257) 0 dX9_init_257 rfl rfl ?_
  refine n_iast (pc := 258) (k9 := 109) (i9 := 38) 0 (by decide) rfl dX9_init_258 rfl rfl (by decide) (by decide) ?_
  refine n_iinc (pc := 259) 0 (v := 5) (lv' := [(1, .int 5), (0, .ref a)]) dX9_init_259 rfl (by decide) (by decide) rfl ?_
  refine n_goto (pc := 262) (tgt := 243) dX9_init_262 (by decide) ?_
  refine n_iload_n (pc := 243) 0 dX9_init_243 rfl rfl ?_
  refine n_bipush (pc := 244) (v := 6) dX9_init_244 (by decide) ?_
  refine n_icmp_ge_f (pc := 246) (tgt := 265) dX9_init_246 (by decide) (by decide) ?_
  refine n_aload_n (pc := 249) 1 dX9_init_249 rfl rfl ?_
  refine n_getR (pc := 250) dX9_init_250 fl846 rfl ?_
  refine n_bipush (pc := 253) (v := 34) dX9_init_253 (by decide) ?_
  refine n_iload_n (pc := 255) 0 dX9_init_255 rfl rfl ?_
  refine n_iadd (pc := 256) (v := 39) dX9_init_256 (by decide) ?_
  refine n_iload_n (pc := 257) 0 dX9_init_257 rfl rfl ?_
  refine n_iast (pc := 258) (k9 := 109) (i9 := 39) 0 (by decide) rfl dX9_init_258 rfl rfl (by decide) (by decide) ?_
  refine n_iinc (pc := 259) 0 (v := 6) (lv' := [(1, .int 6), (0, .ref a)]) dX9_init_259 rfl (by decide) (by decide) rfl ?_
  refine n_goto (pc := 262) (tgt := 243) dX9_init_262 (by decide) ?_
  refine n_iload_n (pc := 243) 0 dX9_init_243 rfl rfl ?_
  refine n_bipush (pc := 244) (v := 6) dX9_init_244 (by decide) ?_
  refine n_icmp_ge_t (pc := 246) (tgt := 265) dX9_init_246 (by decide) (by decide) ?_
  refine n_aload_n (pc := 265) 1 dX9_init_265 rfl rfl ?_
  refine n_getR (pc := 266) dX9_init_266 fl846 rfl ?_
  refine n_bipush (pc := 269) (v := 42) dX9_init_269 (by decide) ?_
  refine n_iconst (pc := 271) (v := 1) dX9_init_271 (by decide) ?_
  refine n_iast (pc := 272) (k9 := 109) (i9 := 42) 0 (by decide) rfl dX9_init_272 rfl rfl (by decide) (by decide) ?_
  refine n_aload_n (pc := 273) 1 dX9_init_273 rfl rfl ?_
  refine n_getR (pc := 274) dX9_init_274 fl846 rfl ?_
  refine n_bipush (pc := 277) (v := 43) dX9_init_277 (by decide) ?_
  refine n_iconst (pc := 279) (v := 2) dX9_init_279 (by decide) ?_
  refine n_iast (pc := 280) (k9 := 109) (i9 := 43) 0 (by decide) rfl dX9_init_280 rfl rfl (by decide) (by decide) ?_
  exact n_ret (d := d) (v := fun _ => 0) (pc := 281) dX9_init_281 (by rw [flds_9]; simp [va_up, h0, h0I]) rfl (by decide) rfl (by decide +kernel) (fun k h1 h2 => by rcases (show k = 109 ∨ k = 110 ∨ k = 111 ∨ k = 112 ∨ k = 113 ∨ k = 114 ∨ k = 115 ∨ k = 116 ∨ k = 117 ∨ k = 118 ∨ k = 119 ∨ k = 120 ∨ k = 121 ∨ k = 122 ∨ k = 123 ∨ k = 124 ∨ k = 125 ∨ k = 126 ∨ k = 127 ∨ k = 128 ∨ k = 129 ∨ k = 130 ∨ k = 131 ∨ k = 132 ∨ k = 133 ∨ k = 134 ∨ k = 135 ∨ k = 136 by omega) with rfl | rfl | rfl | rfl | rfl | rfl | rfl | rfl | rfl | rfl | rfl | rfl | rfl | rfl | rfl | rfl | rfl | rfl | rfl | rfl | rfl | rfl | rfl | rfl | rfl | rfl | rfl | rfl <;> rfl) (fun _ _ _ => rfl)
