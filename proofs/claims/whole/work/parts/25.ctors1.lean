def pollRow : Nat → Int32 := fun i => if i = 6 then 1 else if i = 7 then 2 else 0
def planRow : Nat → Int32 := fun i => if i = 4 then 1 else 0
def idRow : Nat → Int32 := (upd (upd (upd (upd (upd (upd (fun _ => 0) 0 (0)) 1 (1)) 2 (2)) 3 (3)) 4 (4)) 5 (5))
def nowRow : Nat → Int32 := (upd (upd (upd (upd (upd (upd (upd (upd (fun _ => 0) 34 (0)) 35 (1)) 36 (2)) 37 (3)) 38 (4)) 39 (5)) 42 (1)) 43 (2))
def h0I : Nat → Nat → Int32 := fun k => if k = 1 then pollRow else if k = 6 then pollRow else if k = 11 then pollRow else if k = 5 then idRow else if k = 10 then idRow else if k = 15 then idRow else if k = 56 then planRow else if k = 106 then row4 else if k = 109 then nowRow else if k = 135 then row4 else fun _ => 0
def h0 : Hp := (h0I, fun _ _ => 0)
theorem wo_i : Cond.instanceMethod Lib.objectInit ∈ GT := wg 90 (by decide +kernel) rfl
theorem wo_c : Cond.code Lib.objectInit ⟨#[0xb1]⟩ 1 none ∈ GT := wg 91 (by decide +kernel) rfl
theorem wa_int : Cond.arrayClass .int ∈ GT := wg 139 (by decide +kernel) rfl
theorem wa_long : Cond.arrayClass .long ∈ GT := wg 192 (by decide +kernel) rfl
theorem wa_boolean : Cond.arrayClass .boolean ∈ GT := wg 973 (by decide +kernel) rfl
theorem wom151 : Cond.methodLink RX0 3 Lib.objectInit ∈ GT := wg 151 (by decide +kernel) rfl
theorem fq0_0 : FQ RX0 0 0 true (.array .int) := ⟨_, tyX0, rfl, tyX0_ok, nmX0, rfl, by decide +kernel, rfl⟩
theorem fq0_1 : FQ RX0 0 1 true (.array .int) := ⟨_, tyX0, rfl, tyX0_ok, nmX0, rfl, by decide +kernel, rfl⟩
theorem fq0_5 : FQ RX0 0 5 true (.array .long) := ⟨_, tyX0, rfl, tyX0_ok, nmX0, rfl, by decide +kernel, rfl⟩
theorem fq0_6 : FQ RX0 0 6 true (.array .int) := ⟨_, tyX0, rfl, tyX0_ok, nmX0, rfl, by decide +kernel, rfl⟩
theorem fq0_7 : FQ RX0 0 7 true (.array .long) := ⟨_, tyX0, rfl, tyX0_ok, nmX0, rfl, by decide +kernel, rfl⟩
theorem fq0_8 : FQ RX0 0 8 true (.array .long) := ⟨_, tyX0, rfl, tyX0_ok, nmX0, rfl, by decide +kernel, rfl⟩
theorem fq0_9 : FQ RX0 0 9 true (.array .long) := ⟨_, tyX0, rfl, tyX0_ok, nmX0, rfl, by decide +kernel, rfl⟩
theorem fq0_10 : FQ RX0 0 10 true (.array .int) := ⟨_, tyX0, rfl, tyX0_ok, nmX0, rfl, by decide +kernel, rfl⟩
theorem wom97 : Cond.methodLink RX3 3 Lib.objectInit ∈ GT := wg 97 (by decide +kernel) rfl
theorem fq3_0 : FQ RX3 3 0 true (.array .int) := ⟨_, tyX3, rfl, tyX3_ok, nmX3, rfl, by decide +kernel, rfl⟩
theorem fq3_1 : FQ RX3 3 1 true (.array .int) := ⟨_, tyX3, rfl, tyX3_ok, nmX3, rfl, by decide +kernel, rfl⟩
theorem fq3_2 : FQ RX3 3 2 true (.array .int) := ⟨_, tyX3, rfl, tyX3_ok, nmX3, rfl, by decide +kernel, rfl⟩
theorem fq3_3 : FQ RX3 3 3 true (.array .int) := ⟨_, tyX3, rfl, tyX3_ok, nmX3, rfl, by decide +kernel, rfl⟩
theorem fq3_6 : FQ RX3 3 6 false (.int) := ⟨_, tyX3, rfl, tyX3_ok, nmX3, rfl, by decide +kernel, rfl⟩
theorem fq3_7 : FQ RX3 3 7 false (.int) := ⟨_, tyX3, rfl, tyX3_ok, nmX3, rfl, by decide +kernel, rfl⟩
theorem wom221 : Cond.methodLink RX4 3 Lib.objectInit ∈ GT := wg 221 (by decide +kernel) rfl
theorem fq4_3 : FQ RX4 4 3 true (.array .int) := ⟨_, tyX4, rfl, tyX4_ok, nmX4, rfl, by decide +kernel, rfl⟩
theorem fq4_4 : FQ RX4 4 4 true (.array .int) := ⟨_, tyX4, rfl, tyX4_ok, nmX4, rfl, by decide +kernel, rfl⟩
theorem fq4_5 : FQ RX4 4 5 true (.array .int) := ⟨_, tyX4, rfl, tyX4_ok, nmX4, rfl, by decide +kernel, rfl⟩
theorem fq4_6 : FQ RX4 4 6 true (.array .int) := ⟨_, tyX4, rfl, tyX4_ok, nmX4, rfl, by decide +kernel, rfl⟩
theorem fq4_7 : FQ RX4 4 7 true (.array .int) := ⟨_, tyX4, rfl, tyX4_ok, nmX4, rfl, by decide +kernel, rfl⟩
theorem fq4_8 : FQ RX4 4 8 true (.array .int) := ⟨_, tyX4, rfl, tyX4_ok, nmX4, rfl, by decide +kernel, rfl⟩
theorem fq4_9 : FQ RX4 4 9 true (.array .long) := ⟨_, tyX4, rfl, tyX4_ok, nmX4, rfl, by decide +kernel, rfl⟩
theorem fq4_10 : FQ RX4 4 10 true (.array .long) := ⟨_, tyX4, rfl, tyX4_ok, nmX4, rfl, by decide +kernel, rfl⟩
theorem wom303 : Cond.methodLink RX5 3 Lib.objectInit ∈ GT := wg 303 (by decide +kernel) rfl
theorem fq5_0 : FQ RX5 5 0 true (.array .int) := ⟨_, tyX5, rfl, tyX5_ok, nmX5, rfl, by decide +kernel, rfl⟩
theorem wom289 : Cond.methodLink RX7 3 Lib.objectInit ∈ GT := wg 289 (by decide +kernel) rfl
theorem fq7_0 : FQ RX7 7 0 true (.array .int) := ⟨_, tyX7, rfl, tyX7_ok, nmX7, rfl, by decide +kernel, rfl⟩
theorem wom318 : Cond.methodLink RX6 3 Lib.objectInit ∈ GT := wg 318 (by decide +kernel) rfl
theorem wcl319 : Cond.classLink RX6 9 "[[I" ∈ GT := wg 319 (by decide +kernel) rfl
theorem fq6_0 : FQ RX6 6 0 true (.array (.array .int)) := ⟨_, tyX6, rfl, tyX6_ok, nmX6, rfl, by decide +kernel, rfl⟩
theorem fq6_1 : FQ RX6 6 1 true (.array .int) := ⟨_, tyX6, rfl, tyX6_ok, nmX6, rfl, by decide +kernel, rfl⟩
theorem wom145 : Cond.methodLink RX1 3 Lib.objectInit ∈ GT := wg 145 (by decide +kernel) rfl
theorem cls146 : CLs RX1 9 0 := ⟨_, tyX0, rfl, inG0, tyX0_ok, wg 146 (by decide +kernel) rfl, wg 147 (by decide +kernel) rfl, wg 72 (by decide +kernel) rfl, by decide +kernel, rfl⟩
theorem siw148 : SIw RX1 11 yX0_init cX0_init 1 := ⟨Or.inr ⟨"SeatHouse", wn 148 (by decide +kernel) rfl⟩, wg 149 (by decide +kernel) rfl, wg 72 (by decide +kernel) rfl, wg 150 (by decide +kernel) rfl, rfl, ⟨by decide +kernel, by decide +kernel, by decide +kernel⟩⟩
theorem fq1_0 : FQ RX1 1 0 true (.object "SeatHouse$Giver") := ⟨_, tyX1, rfl, tyX1_ok, nmX1, rfl, by decide +kernel, rfl⟩
theorem fq1_1 : FQ RX1 1 1 true (.array .int) := ⟨_, tyX1, rfl, tyX1_ok, nmX1, rfl, by decide +kernel, rfl⟩
theorem fq1_3 : FQ RX1 1 3 true (.object "SeatHouse$Giver") := ⟨_, tyX1, rfl, tyX1_ok, nmX1, rfl, by decide +kernel, rfl⟩
theorem wom215 : Cond.methodLink RX2 3 Lib.objectInit ∈ GT := wg 215 (by decide +kernel) rfl
theorem fq2_0 : FQ RX2 2 0 true (.array .int) := ⟨_, tyX2, rfl, tyX2_ok, nmX2, rfl, by decide +kernel, rfl⟩
theorem cls216 : CLs RX2 15 4 := ⟨_, tyX4, rfl, inG4, tyX4_ok, wg 216 (by decide +kernel) rfl, wg 217 (by decide +kernel) rfl, wg 74 (by decide +kernel) rfl, by decide +kernel, rfl⟩
theorem siw218 : SIw RX2 17 yX4_init cX4_init 1 := ⟨Or.inr ⟨"SeatHouse", wn 218 (by decide +kernel) rfl⟩, wg 219 (by decide +kernel) rfl, wg 74 (by decide +kernel) rfl, wg 220 (by decide +kernel) rfl, rfl, ⟨by decide +kernel, by decide +kernel, by decide +kernel⟩⟩
theorem fq2_1 : FQ RX2 2 1 true (.object "SeatHouse$Rings") := ⟨_, tyX2, rfl, tyX2_ok, nmX2, rfl, by decide +kernel, rfl⟩
theorem cls259 : CLs RX2 22 1 := ⟨_, tyX1, rfl, inG1, tyX1_ok, wg 259 (by decide +kernel) rfl, wg 141 (by decide +kernel) rfl, wg 71 (by decide +kernel) rfl, by decide +kernel, rfl⟩
theorem siw260 : SIw RX2 24 yX1_init cX1_init 1 := ⟨Or.inr ⟨"SeatHouse", wn 260 (by decide +kernel) rfl⟩, wg 143 (by decide +kernel) rfl, wg 71 (by decide +kernel) rfl, wg 144 (by decide +kernel) rfl, rfl, ⟨by decide +kernel, by decide +kernel, by decide +kernel⟩⟩
theorem fq2_2 : FQ RX2 2 2 true (.object "SeatHouse$House") := ⟨_, tyX2, rfl, tyX2_ok, nmX2, rfl, by decide +kernel, rfl⟩
theorem cls261 : CLs RX2 29 0 := ⟨_, tyX0, rfl, inG0, tyX0_ok, wg 261 (by decide +kernel) rfl, wg 147 (by decide +kernel) rfl, wg 72 (by decide +kernel) rfl, by decide +kernel, rfl⟩
theorem siw262 : SIw RX2 31 yX0_init cX0_init 1 := ⟨Or.inr ⟨"SeatHouse", wn 262 (by decide +kernel) rfl⟩, wg 149 (by decide +kernel) rfl, wg 72 (by decide +kernel) rfl, wg 150 (by decide +kernel) rfl, rfl, ⟨by decide +kernel, by decide +kernel, by decide +kernel⟩⟩
theorem fq2_3 : FQ RX2 2 3 true (.object "SeatHouse$Giver") := ⟨_, tyX2, rfl, tyX2_ok, nmX2, rfl, by decide +kernel, rfl⟩
theorem fq2_4 : FQ RX2 2 4 false (.boolean) := ⟨_, tyX2, rfl, tyX2_ok, nmX2, rfl, by decide +kernel, rfl⟩
theorem wom89 : Cond.methodLink RX8 3 Lib.objectInit ∈ GT := wg 89 (by decide +kernel) rfl
theorem cls92 : CLs RX8 9 3 := ⟨_, tyX3, rfl, inG3, tyX3_ok, wg 92 (by decide +kernel) rfl, wg 93 (by decide +kernel) rfl, wg 70 (by decide +kernel) rfl, by decide +kernel, rfl⟩
theorem siw94 : SIw RX8 11 yX3_init cX3_init 2 := ⟨Or.inl (wg 94 (by decide +kernel) rfl), wg 95 (by decide +kernel) rfl, wg 70 (by decide +kernel) rfl, wg 96 (by decide +kernel) rfl, rfl, ⟨by decide +kernel, by decide +kernel, by decide +kernel⟩⟩
theorem fq8_0 : FQ RX8 8 0 true (.object "SeatHouse$Poll") := ⟨_, tyX8, rfl, tyX8_ok, nmX8, rfl, by decide +kernel, rfl⟩
theorem fq8_1 : FQ RX8 8 1 true (.object "SeatHouse$Poll") := ⟨_, tyX8, rfl, tyX8_ok, nmX8, rfl, by decide +kernel, rfl⟩
theorem fq8_2 : FQ RX8 8 2 true (.object "SeatHouse$Poll") := ⟨_, tyX8, rfl, tyX8_ok, nmX8, rfl, by decide +kernel, rfl⟩
theorem cls140 : CLs RX8 24 1 := ⟨_, tyX1, rfl, inG1, tyX1_ok, wg 140 (by decide +kernel) rfl, wg 141 (by decide +kernel) rfl, wg 71 (by decide +kernel) rfl, by decide +kernel, rfl⟩
theorem siw142 : SIw RX8 26 yX1_init cX1_init 1 := ⟨Or.inr ⟨"SeatHouse", wn 142 (by decide +kernel) rfl⟩, wg 143 (by decide +kernel) rfl, wg 71 (by decide +kernel) rfl, wg 144 (by decide +kernel) rfl, rfl, ⟨by decide +kernel, by decide +kernel, by decide +kernel⟩⟩
theorem fq8_3 : FQ RX8 8 3 true (.object "SeatHouse$House") := ⟨_, tyX8, rfl, tyX8_ok, nmX8, rfl, by decide +kernel, rfl⟩
theorem fq8_4 : FQ RX8 8 4 true (.object "SeatHouse$House") := ⟨_, tyX8, rfl, tyX8_ok, nmX8, rfl, by decide +kernel, rfl⟩
theorem cls210 : CLs RX8 34 2 := ⟨_, tyX2, rfl, inG2, tyX2_ok, wg 210 (by decide +kernel) rfl, wg 211 (by decide +kernel) rfl, wg 73 (by decide +kernel) rfl, by decide +kernel, rfl⟩
theorem siw212 : SIw RX8 36 yX2_init cX2_init 1 := ⟨Or.inr ⟨"SeatHouse", wn 212 (by decide +kernel) rfl⟩, wg 213 (by decide +kernel) rfl, wg 73 (by decide +kernel) rfl, wg 214 (by decide +kernel) rfl, rfl, ⟨by decide +kernel, by decide +kernel, by decide +kernel⟩⟩
theorem fq8_5 : FQ RX8 8 5 true (.object "SeatHouse$Plan") := ⟨_, tyX8, rfl, tyX8_ok, nmX8, rfl, by decide +kernel, rfl⟩
theorem cls284 : CLs RX8 41 7 := ⟨_, tyX7, rfl, inG7, tyX7_ok, wg 284 (by decide +kernel) rfl, wg 285 (by decide +kernel) rfl, wg 75 (by decide +kernel) rfl, by decide +kernel, rfl⟩
theorem siw286 : SIw RX8 43 yX7_init cX7_init 1 := ⟨Or.inr ⟨"SeatHouse", wn 286 (by decide +kernel) rfl⟩, wg 287 (by decide +kernel) rfl, wg 75 (by decide +kernel) rfl, wg 288 (by decide +kernel) rfl, rfl, ⟨by decide +kernel, by decide +kernel, by decide +kernel⟩⟩
theorem fq8_6 : FQ RX8 8 6 true (.object "SeatHouse$Tape") := ⟨_, tyX8, rfl, tyX8_ok, nmX8, rfl, by decide +kernel, rfl⟩
theorem cls298 : CLs RX8 48 5 := ⟨_, tyX5, rfl, inG5, tyX5_ok, wg 298 (by decide +kernel) rfl, wg 299 (by decide +kernel) rfl, wg 76 (by decide +kernel) rfl, by decide +kernel, rfl⟩
theorem siw300 : SIw RX8 50 yX5_init cX5_init 1 := ⟨Or.inr ⟨"SeatHouse", wn 300 (by decide +kernel) rfl⟩, wg 301 (by decide +kernel) rfl, wg 76 (by decide +kernel) rfl, wg 302 (by decide +kernel) rfl, rfl, ⟨by decide +kernel, by decide +kernel, by decide +kernel⟩⟩
theorem fq8_7 : FQ RX8 8 7 true (.object "SeatHouse$Sheet") := ⟨_, tyX8, rfl, tyX8_ok, nmX8, rfl, by decide +kernel, rfl⟩
theorem cls313 : CLs RX8 55 6 := ⟨_, tyX6, rfl, inG6, tyX6_ok, wg 313 (by decide +kernel) rfl, wg 314 (by decide +kernel) rfl, wg 77 (by decide +kernel) rfl, by decide +kernel, rfl⟩
theorem siw315 : SIw RX8 57 yX6_init cX6_init 1 := ⟨Or.inl (wg 315 (by decide +kernel) rfl), wg 316 (by decide +kernel) rfl, wg 77 (by decide +kernel) rfl, wg 317 (by decide +kernel) rfl, rfl, ⟨by decide +kernel, by decide +kernel, by decide +kernel⟩⟩
theorem fq8_8 : FQ RX8 8 8 true (.object "SeatHouse$Shelf") := ⟨_, tyX8, rfl, tyX8_ok, nmX8, rfl, by decide +kernel, rfl⟩
theorem fq8_9 : FQ RX8 8 9 true (.array .int) := ⟨_, tyX8, rfl, tyX8_ok, nmX8, rfl, by decide +kernel, rfl⟩
theorem fq8_10 : FQ RX8 8 10 false (.boolean) := ⟨_, tyX8, rfl, tyX8_ok, nmX8, rfl, by decide +kernel, rfl⟩
theorem wom845 : Cond.methodLink RX9 15 Lib.objectInit ∈ GT := wg 845 (by decide +kernel) rfl
theorem fq9_0 : FQ RX9 9 0 true (.array .int) := ⟨_, tyX9, rfl, tyX9_ok, nmX9, rfl, by decide +kernel, rfl⟩
theorem fq9_1 : FQ RX9 9 1 true (.array .int) := ⟨_, tyX9, rfl, tyX9_ok, nmX9, rfl, by decide +kernel, rfl⟩
theorem fq9_5 : FQ RX9 9 5 true (.array .int) := ⟨_, tyX9, rfl, tyX9_ok, nmX9, rfl, by decide +kernel, rfl⟩
theorem fq9_8 : FQ RX9 9 8 true (.array .int) := ⟨_, tyX9, rfl, tyX9_ok, nmX9, rfl, by decide +kernel, rfl⟩
theorem fq9_9 : FQ RX9 9 9 true (.array .boolean) := ⟨_, tyX9, rfl, tyX9_ok, nmX9, rfl, by decide +kernel, rfl⟩
theorem fq9_10 : FQ RX9 9 10 true (.array .int) := ⟨_, tyX9, rfl, tyX9_ok, nmX9, rfl, by decide +kernel, rfl⟩
theorem fq9_11 : FQ RX9 9 11 true (.array .int) := ⟨_, tyX9, rfl, tyX9_ok, nmX9, rfl, by decide +kernel, rfl⟩
theorem fq9_12 : FQ RX9 9 12 true (.array .int) := ⟨_, tyX9, rfl, tyX9_ok, nmX9, rfl, by decide +kernel, rfl⟩
theorem fq9_13 : FQ RX9 9 13 true (.array .int) := ⟨_, tyX9, rfl, tyX9_ok, nmX9, rfl, by decide +kernel, rfl⟩
theorem fq9_16 : FQ RX9 9 16 true (.array .long) := ⟨_, tyX9, rfl, tyX9_ok, nmX9, rfl, by decide +kernel, rfl⟩
theorem fq9_17 : FQ RX9 9 17 true (.array .boolean) := ⟨_, tyX9, rfl, tyX9_ok, nmX9, rfl, by decide +kernel, rfl⟩
theorem fq9_18 : FQ RX9 9 18 true (.array .boolean) := ⟨_, tyX9, rfl, tyX9_ok, nmX9, rfl, by decide +kernel, rfl⟩
theorem fq9_19 : FQ RX9 9 19 true (.array .int) := ⟨_, tyX9, rfl, tyX9_ok, nmX9, rfl, by decide +kernel, rfl⟩
theorem fq9_20 : FQ RX9 9 20 true (.array .int) := ⟨_, tyX9, rfl, tyX9_ok, nmX9, rfl, by decide +kernel, rfl⟩
theorem fq9_21 : FQ RX9 9 21 true (.array .int) := ⟨_, tyX9, rfl, tyX9_ok, nmX9, rfl, by decide +kernel, rfl⟩
theorem fq9_22 : FQ RX9 9 22 true (.array .int) := ⟨_, tyX9, rfl, tyX9_ok, nmX9, rfl, by decide +kernel, rfl⟩
theorem fq9_23 : FQ RX9 9 23 true (.array .int) := ⟨_, tyX9, rfl, tyX9_ok, nmX9, rfl, by decide +kernel, rfl⟩
theorem fq9_26 : FQ RX9 9 26 true (.array .int) := ⟨_, tyX9, rfl, tyX9_ok, nmX9, rfl, by decide +kernel, rfl⟩
theorem fq9_27 : FQ RX9 9 27 true (.array .int) := ⟨_, tyX9, rfl, tyX9_ok, nmX9, rfl, by decide +kernel, rfl⟩
theorem fq9_29 : FQ RX9 9 29 true (.array .int) := ⟨_, tyX9, rfl, tyX9_ok, nmX9, rfl, by decide +kernel, rfl⟩
theorem fq9_30 : FQ RX9 9 30 true (.array .int) := ⟨_, tyX9, rfl, tyX9_ok, nmX9, rfl, by decide +kernel, rfl⟩
theorem fq9_33 : FQ RX9 9 33 true (.array .int) := ⟨_, tyX9, rfl, tyX9_ok, nmX9, rfl, by decide +kernel, rfl⟩
theorem fq9_34 : FQ RX9 9 34 true (.array .int) := ⟨_, tyX9, rfl, tyX9_ok, nmX9, rfl, by decide +kernel, rfl⟩
theorem fq9_36 : FQ RX9 9 36 true (.array .int) := ⟨_, tyX9, rfl, tyX9_ok, nmX9, rfl, by decide +kernel, rfl⟩
theorem fq9_37 : FQ RX9 9 37 true (.array .int) := ⟨_, tyX9, rfl, tyX9_ok, nmX9, rfl, by decide +kernel, rfl⟩
theorem fq9_39 : FQ RX9 9 39 true (.array .int) := ⟨_, tyX9, rfl, tyX9_ok, nmX9, rfl, by decide +kernel, rfl⟩
theorem fq9_40 : FQ RX9 9 40 true (.array .int) := ⟨_, tyX9, rfl, tyX9_ok, nmX9, rfl, by decide +kernel, rfl⟩
theorem fq9_41 : FQ RX9 9 41 true (.array .int) := ⟨_, tyX9, rfl, tyX9_ok, nmX9, rfl, by decide +kernel, rfl⟩
theorem flds_9 (ad : Nat → Nat) (h : Hp) : flds ad h 108 (fkL.getD 9 []) = [.ref (ad 109), .ref (ad 110), .int (h.1 108 2), .int (h.1 108 3), .int (h.1 108 4), .ref (ad 111), .int (h.1 108 6), .int (h.1 108 7), .ref (ad 112), .ref (ad 113), .ref (ad 114), .ref (ad 115), .ref (ad 116), .ref (ad 117), .int (h.1 108 14), .int (h.1 108 15), .ref (ad 118), .ref (ad 119), .ref (ad 120), .ref (ad 121), .ref (ad 122), .ref (ad 123), .ref (ad 124), .ref (ad 125), .int (h.1 108 24), .int (h.1 108 25), .ref (ad 126), .ref (ad 127), .int (h.1 108 28), .ref (ad 128), .ref (ad 129), .int (h.1 108 31), .int (h.1 108 32), .ref (ad 130), .ref (ad 131), .int (h.1 108 35), .ref (ad 132), .ref (ad 133), .int (h.1 108 38), .ref (ad 134), .ref (ad 135), .ref (ad 136)] := by
  show List.mapIdx (fun s t => fv ad h 108 s t) [3, 4, 0, 0, 0, 5, 0, 0, 6, 7, 8, 9, 10, 11, 0, 0, 12, 13, 14, 15, 16, 17, 18, 19, 0, 0, 20, 21, 0, 22, 23, 0, 0, 24, 25, 0, 26, 27, 0, 28, 29, 30] = _
  simp only [List.mapIdx_cons, List.mapIdx_nil]
  rfl
set_option maxHeartbeats 4000000 in
set_option maxRecDepth 100000 in
theorem c_init_0_17 {l : Launch} {D : va_G} {cA : Nat → ClassId} {d : Nat} (a sz : Nat) : CI l D cA (d + 1) 8 102 yX0_init cX0_init 1 a sz 17 0 9 h0 := by
  refine CI_of (ad := fun _ => 0) (h := h0) (own := RX0) (by decide +kernel) rfl rfl (by decide) ?_
  refine n_aload_n (pc := 0) 0 dX0_init_0 rfl rfl ?_
  refine n_objInit (pc := 1) (d := d + 0) (mc := 8) (ms := 102) dX0_init_1 wom151 wo_i wo_c rfl (Nat.le_of_ble_eq_true rfl) ?_
  refine n_aload_n (pc := 4) 0 dX0_init_4 rfl rfl ?_
  refine n_bipush (pc := 5) (v := 6) dX0_init_5 (by decide) ?_
  refine n_newaI (pc := 7) (k9 := 18) (N' := 6) rfl dX0_init_7 wa_int rfl rfl rfl (by decide +kernel) (by decide) rfl (by decide) (Nat.le_of_ble_eq_true rfl) (Nat.le_of_ble_eq_true rfl) (fun q18 => ?_)
  refine n_putF (pc := 9) (fs' := [.ref q18, .null, .int 0, .int 0, .int 0, .null, .null, .null, .null, .null, .null]) dX0_init_9 fl152 fq0_0 rfl rfl (Nat.le_of_ble_eq_true rfl) rfl ?_
  refine n_aload_n (pc := 12) 0 dX0_init_12 rfl rfl ?_
  refine n_bipush (pc := 13) (v := 60) dX0_init_13 (by decide) ?_
  refine n_newaI (pc := 15) (k9 := 19) (N' := 60) rfl dX0_init_15 wa_int rfl rfl rfl (by decide +kernel) (by decide) rfl (by decide) (Nat.le_of_ble_eq_true rfl) (Nat.le_of_ble_eq_true rfl) (fun q19 => ?_)
  refine n_putF (pc := 17) (fs' := [.ref q18, .ref q19, .int 0, .int 0, .int 0, .null, .null, .null, .null, .null, .null]) dX0_init_17 fl156 fq0_1 rfl rfl (Nat.le_of_ble_eq_true rfl) rfl ?_
  refine n_aload_n (pc := 20) 0 dX0_init_20 rfl rfl ?_
  refine n_bipush (pc := 21) (v := 6) dX0_init_21 (by decide) ?_
  refine n_newaL (pc := 23) (k9 := 20) (N' := 6) rfl dX0_init_23 wa_long rfl rfl rfl (by decide +kernel) (by decide) rfl (by decide) (Nat.le_of_ble_eq_true rfl) (Nat.le_of_ble_eq_true rfl) (fun q20 => ?_)
  refine n_putF (pc := 25) (fs' := [.ref q18, .ref q19, .int 0, .int 0, .int 0, .ref q20, .null, .null, .null, .null, .null]) dX0_init_25 fl163 fq0_5 rfl rfl (Nat.le_of_ble_eq_true rfl) rfl ?_
  refine n_aload_n (pc := 28) 0 dX0_init_28 rfl rfl ?_
  refine n_bipush (pc := 29) (v := 6) dX0_init_29 (by decide) ?_
  refine n_newaI (pc := 31) (k9 := 21) (N' := 6) rfl dX0_init_31 wa_int rfl rfl rfl (by decide +kernel) (by decide) rfl (by decide) (Nat.le_of_ble_eq_true rfl) (Nat.le_of_ble_eq_true rfl) (fun q21 => ?_)
  refine n_putF (pc := 33) (fs' := [.ref q18, .ref q19, .int 0, .int 0, .int 0, .ref q20, .ref q21, .null, .null, .null, .null]) dX0_init_33 fl164 fq0_6 rfl rfl (Nat.le_of_ble_eq_true rfl) rfl ?_
  refine n_aload_n (pc := 36) 0 dX0_init_36 rfl rfl ?_
  refine n_bipush (pc := 37) (v := 6) dX0_init_37 (by decide) ?_
  refine n_newaL (pc := 39) (k9 := 22) (N' := 6) rfl dX0_init_39 wa_long rfl rfl rfl (by decide +kernel) (by decide) rfl (by decide) (Nat.le_of_ble_eq_true rfl) (Nat.le_of_ble_eq_true rfl) (fun q22 => ?_)
  refine n_putF (pc := 41) (fs' := [.ref q18, .ref q19, .int 0, .int 0, .int 0, .ref q20, .ref q21, .ref q22, .null, .null, .null]) dX0_init_41 fl165 fq0_7 rfl rfl (Nat.le_of_ble_eq_true rfl) rfl ?_
  refine n_aload_n (pc := 44) 0 dX0_init_44 rfl rfl ?_
  refine n_bipush (pc := 45) (v := 6) dX0_init_45 (by decide) ?_
  refine n_newaL (pc := 47) (k9 := 23) (N' := 6) rfl dX0_init_47 wa_long rfl rfl rfl (by decide +kernel) (by decide) rfl (by decide) (Nat.le_of_ble_eq_true rfl) (Nat.le_of_ble_eq_true rfl) (fun q23 => ?_)
  refine n_putF (pc := 49) (fs' := [.ref q18, .ref q19, .int 0, .int 0, .int 0, .ref q20, .ref q21, .ref q22, .ref q23, .null, .null]) dX0_init_49 fl166 fq0_8 rfl rfl (Nat.le_of_ble_eq_true rfl) rfl ?_
  refine n_aload_n (pc := 52) 0 dX0_init_52 rfl rfl ?_
  refine n_bipush (pc := 53) (v := 6) dX0_init_53 (by decide) ?_
  refine n_newaL (pc := 55) (k9 := 24) (N' := 6) rfl dX0_init_55 wa_long rfl rfl rfl (by decide +kernel) (by decide) rfl (by decide) (Nat.le_of_ble_eq_true rfl) (Nat.le_of_ble_eq_true rfl) (fun q24 => ?_)
  refine n_putF (pc := 57) (fs' := [.ref q18, .ref q19, .int 0, .int 0, .int 0, .ref q20, .ref q21, .ref q22, .ref q23, .ref q24, .null]) dX0_init_57 fl167 fq0_9 rfl rfl (Nat.le_of_ble_eq_true rfl) rfl ?_
  refine n_aload_n (pc := 60) 0 dX0_init_60 rfl rfl ?_
  refine n_bipush (pc := 61) (v := 6) dX0_init_61 (by decide) ?_
  refine n_newaI (pc := 63) (k9 := 25) (N' := 6) rfl dX0_init_63 wa_int rfl rfl rfl (by decide +kernel) (by decide) rfl (by decide) (Nat.le_of_ble_eq_true rfl) (Nat.le_of_ble_eq_true rfl) (fun q25 => ?_)
  refine n_putF (pc := 65) (fs' := [.ref q18, .ref q19, .int 0, .int 0, .int 0, .ref q20, .ref q21, .ref q22, .ref q23, .ref q24, .ref q25]) dX0_init_65 fl168 fq0_10 rfl rfl (Nat.le_of_ble_eq_true rfl) rfl ?_
  exact n_ret (d := d) (v := fun _ => 0) (pc := 68) dX0_init_68 rfl rfl (by decide) rfl (by decide +kernel) (fun _ _ _ => rfl) (fun _ _ _ => rfl)
set_option maxHeartbeats 4000000 in
set_option maxRecDepth 100000 in
theorem c_init_0_27 {l : Launch} {D : va_G} {cA : Nat → ClassId} {d : Nat} (a sz : Nat) : CI l D cA (d + 1) 8 102 yX0_init cX0_init 1 a sz 27 0 9 h0 := by
  refine CI_of (ad := fun _ => 0) (h := h0) (own := RX0) (by decide +kernel) rfl rfl (by decide) ?_
  refine n_aload_n (pc := 0) 0 dX0_init_0 rfl rfl ?_
  refine n_objInit (pc := 1) (d := d + 0) (mc := 8) (ms := 102) dX0_init_1 wom151 wo_i wo_c rfl (Nat.le_of_ble_eq_true rfl) ?_
  refine n_aload_n (pc := 4) 0 dX0_init_4 rfl rfl ?_
  refine n_bipush (pc := 5) (v := 6) dX0_init_5 (by decide) ?_
  refine n_newaI (pc := 7) (k9 := 28) (N' := 6) rfl dX0_init_7 wa_int rfl rfl rfl (by decide +kernel) (by decide) rfl (by decide) (Nat.le_of_ble_eq_true rfl) (Nat.le_of_ble_eq_true rfl) (fun q28 => ?_)
  refine n_putF (pc := 9) (fs' := [.ref q28, .null, .int 0, .int 0, .int 0, .null, .null, .null, .null, .null, .null]) dX0_init_9 fl152 fq0_0 rfl rfl (Nat.le_of_ble_eq_true rfl) rfl ?_
  refine n_aload_n (pc := 12) 0 dX0_init_12 rfl rfl ?_
  refine n_bipush (pc := 13) (v := 60) dX0_init_13 (by decide) ?_
  refine n_newaI (pc := 15) (k9 := 29) (N' := 60) rfl dX0_init_15 wa_int rfl rfl rfl (by decide +kernel) (by decide) rfl (by decide) (Nat.le_of_ble_eq_true rfl) (Nat.le_of_ble_eq_true rfl) (fun q29 => ?_)
  refine n_putF (pc := 17) (fs' := [.ref q28, .ref q29, .int 0, .int 0, .int 0, .null, .null, .null, .null, .null, .null]) dX0_init_17 fl156 fq0_1 rfl rfl (Nat.le_of_ble_eq_true rfl) rfl ?_
  refine n_aload_n (pc := 20) 0 dX0_init_20 rfl rfl ?_
  refine n_bipush (pc := 21) (v := 6) dX0_init_21 (by decide) ?_
  refine n_newaL (pc := 23) (k9 := 30) (N' := 6) rfl dX0_init_23 wa_long rfl rfl rfl (by decide +kernel) (by decide) rfl (by decide) (Nat.le_of_ble_eq_true rfl) (Nat.le_of_ble_eq_true rfl) (fun q30 => ?_)
  refine n_putF (pc := 25) (fs' := [.ref q28, .ref q29, .int 0, .int 0, .int 0, .ref q30, .null, .null, .null, .null, .null]) dX0_init_25 fl163 fq0_5 rfl rfl (Nat.le_of_ble_eq_true rfl) rfl ?_
  refine n_aload_n (pc := 28) 0 dX0_init_28 rfl rfl ?_
  refine n_bipush (pc := 29) (v := 6) dX0_init_29 (by decide) ?_
  refine n_newaI (pc := 31) (k9 := 31) (N' := 6) rfl dX0_init_31 wa_int rfl rfl rfl (by decide +kernel) (by decide) rfl (by decide) (Nat.le_of_ble_eq_true rfl) (Nat.le_of_ble_eq_true rfl) (fun q31 => ?_)
  refine n_putF (pc := 33) (fs' := [.ref q28, .ref q29, .int 0, .int 0, .int 0, .ref q30, .ref q31, .null, .null, .null, .null]) dX0_init_33 fl164 fq0_6 rfl rfl (Nat.le_of_ble_eq_true rfl) rfl ?_
  refine n_aload_n (pc := 36) 0 dX0_init_36 rfl rfl ?_
  refine n_bipush (pc := 37) (v := 6) dX0_init_37 (by decide) ?_
  refine n_newaL (pc := 39) (k9 := 32) (N' := 6) rfl dX0_init_39 wa_long rfl rfl rfl (by decide +kernel) (by decide) rfl (by decide) (Nat.le_of_ble_eq_true rfl) (Nat.le_of_ble_eq_true rfl) (fun q32 => ?_)
  refine n_putF (pc := 41) (fs' := [.ref q28, .ref q29, .int 0, .int 0, .int 0, .ref q30, .ref q31, .ref q32, .null, .null, .null]) dX0_init_41 fl165 fq0_7 rfl rfl (Nat.le_of_ble_eq_true rfl) rfl ?_
  refine n_aload_n (pc := 44) 0 dX0_init_44 rfl rfl ?_
  refine n_bipush (pc := 45) (v := 6) dX0_init_45 (by decide) ?_
  refine n_newaL (pc := 47) (k9 := 33) (N' := 6) rfl dX0_init_47 wa_long rfl rfl rfl (by decide +kernel) (by decide) rfl (by decide) (Nat.le_of_ble_eq_true rfl) (Nat.le_of_ble_eq_true rfl) (fun q33 => ?_)
  refine n_putF (pc := 49) (fs' := [.ref q28, .ref q29, .int 0, .int 0, .int 0, .ref q30, .ref q31, .ref q32, .ref q33, .null, .null]) dX0_init_49 fl166 fq0_8 rfl rfl (Nat.le_of_ble_eq_true rfl) rfl ?_
  refine n_aload_n (pc := 52) 0 dX0_init_52 rfl rfl ?_
  refine n_bipush (pc := 53) (v := 6) dX0_init_53 (by decide) ?_
  refine n_newaL (pc := 55) (k9 := 34) (N' := 6) rfl dX0_init_55 wa_long rfl rfl rfl (by decide +kernel) (by decide) rfl (by decide) (Nat.le_of_ble_eq_true rfl) (Nat.le_of_ble_eq_true rfl) (fun q34 => ?_)
  refine n_putF (pc := 57) (fs' := [.ref q28, .ref q29, .int 0, .int 0, .int 0, .ref q30, .ref q31, .ref q32, .ref q33, .ref q34, .null]) dX0_init_57 fl167 fq0_9 rfl rfl (Nat.le_of_ble_eq_true rfl) rfl ?_
  refine n_aload_n (pc := 60) 0 dX0_init_60 rfl rfl ?_
  refine n_bipush (pc := 61) (v := 6) dX0_init_61 (by decide) ?_
  refine n_newaI (pc := 63) (k9 := 35) (N' := 6) rfl dX0_init_63 wa_int rfl rfl rfl (by decide +kernel) (by decide) rfl (by decide) (Nat.le_of_ble_eq_true rfl) (Nat.le_of_ble_eq_true rfl) (fun q35 => ?_)
  refine n_putF (pc := 65) (fs' := [.ref q28, .ref q29, .int 0, .int 0, .int 0, .ref q30, .ref q31, .ref q32, .ref q33, .ref q34, .ref q35]) dX0_init_65 fl168 fq0_10 rfl rfl (Nat.le_of_ble_eq_true rfl) rfl ?_
  exact n_ret (d := d) (v := fun _ => 0) (pc := 68) dX0_init_68 rfl rfl (by decide) rfl (by decide +kernel) (fun _ _ _ => rfl) (fun _ _ _ => rfl)
set_option maxHeartbeats 4000000 in
set_option maxRecDepth 100000 in
theorem c_init_0_37 {l : Launch} {D : va_G} {cA : Nat → ClassId} {d : Nat} (a sz : Nat) : CI l D cA (d + 1) 8 102 yX0_init cX0_init 1 a sz 37 0 9 h0 := by
  refine CI_of (ad := fun _ => 0) (h := h0) (own := RX0) (by decide +kernel) rfl rfl (by decide) ?_
  refine n_aload_n (pc := 0) 0 dX0_init_0 rfl rfl ?_
  refine n_objInit (pc := 1) (d := d + 0) (mc := 8) (ms := 102) dX0_init_1 wom151 wo_i wo_c rfl (Nat.le_of_ble_eq_true rfl) ?_
  refine n_aload_n (pc := 4) 0 dX0_init_4 rfl rfl ?_
  refine n_bipush (pc := 5) (v := 6) dX0_init_5 (by decide) ?_
  refine n_newaI (pc := 7) (k9 := 38) (N' := 6) rfl dX0_init_7 wa_int rfl rfl rfl (by decide +kernel) (by decide) rfl (by decide) (Nat.le_of_ble_eq_true rfl) (Nat.le_of_ble_eq_true rfl) (fun q38 => ?_)
  refine n_putF (pc := 9) (fs' := [.ref q38, .null, .int 0, .int 0, .int 0, .null, .null, .null, .null, .null, .null]) dX0_init_9 fl152 fq0_0 rfl rfl (Nat.le_of_ble_eq_true rfl) rfl ?_
  refine n_aload_n (pc := 12) 0 dX0_init_12 rfl rfl ?_
  refine n_bipush (pc := 13) (v := 60) dX0_init_13 (by decide) ?_
  refine n_newaI (pc := 15) (k9 := 39) (N' := 60) rfl dX0_init_15 wa_int rfl rfl rfl (by decide +kernel) (by decide) rfl (by decide) (Nat.le_of_ble_eq_true rfl) (Nat.le_of_ble_eq_true rfl) (fun q39 => ?_)
  refine n_putF (pc := 17) (fs' := [.ref q38, .ref q39, .int 0, .int 0, .int 0, .null, .null, .null, .null, .null, .null]) dX0_init_17 fl156 fq0_1 rfl rfl (Nat.le_of_ble_eq_true rfl) rfl ?_
  refine n_aload_n (pc := 20) 0 dX0_init_20 rfl rfl ?_
  refine n_bipush (pc := 21) (v := 6) dX0_init_21 (by decide) ?_
  refine n_newaL (pc := 23) (k9 := 40) (N' := 6) rfl dX0_init_23 wa_long rfl rfl rfl (by decide +kernel) (by decide) rfl (by decide) (Nat.le_of_ble_eq_true rfl) (Nat.le_of_ble_eq_true rfl) (fun q40 => ?_)
  refine n_putF (pc := 25) (fs' := [.ref q38, .ref q39, .int 0, .int 0, .int 0, .ref q40, .null, .null, .null, .null, .null]) dX0_init_25 fl163 fq0_5 rfl rfl (Nat.le_of_ble_eq_true rfl) rfl ?_
  refine n_aload_n (pc := 28) 0 dX0_init_28 rfl rfl ?_
  refine n_bipush (pc := 29) (v := 6) dX0_init_29 (by decide) ?_
  refine n_newaI (pc := 31) (k9 := 41) (N' := 6) rfl dX0_init_31 wa_int rfl rfl rfl (by decide +kernel) (by decide) rfl (by decide) (Nat.le_of_ble_eq_true rfl) (Nat.le_of_ble_eq_true rfl) (fun q41 => ?_)
  refine n_putF (pc := 33) (fs' := [.ref q38, .ref q39, .int 0, .int 0, .int 0, .ref q40, .ref q41, .null, .null, .null, .null]) dX0_init_33 fl164 fq0_6 rfl rfl (Nat.le_of_ble_eq_true rfl) rfl ?_
  refine n_aload_n (pc := 36) 0 dX0_init_36 rfl rfl ?_
  refine n_bipush (pc := 37) (v := 6) dX0_init_37 (by decide) ?_
  refine n_newaL (pc := 39) (k9 := 42) (N' := 6) rfl dX0_init_39 wa_long rfl rfl rfl (by decide +kernel) (by decide) rfl (by decide) (Nat.le_of_ble_eq_true rfl) (Nat.le_of_ble_eq_true rfl) (fun q42 => ?_)
  refine n_putF (pc := 41) (fs' := [.ref q38, .ref q39, .int 0, .int 0, .int 0, .ref q40, .ref q41, .ref q42, .null, .null, .null]) dX0_init_41 fl165 fq0_7 rfl rfl (Nat.le_of_ble_eq_true rfl) rfl ?_
  refine n_aload_n (pc := 44) 0 dX0_init_44 rfl rfl ?_
  refine n_bipush (pc := 45) (v := 6) dX0_init_45 (by decide) ?_
  refine n_newaL (pc := 47) (k9 := 43) (N' := 6) rfl dX0_init_47 wa_long rfl rfl rfl (by decide +kernel) (by decide) rfl (by decide) (Nat.le_of_ble_eq_true rfl) (Nat.le_of_ble_eq_true rfl) (fun q43 => ?_)
  refine n_putF (pc := 49) (fs' := [.ref q38, .ref q39, .int 0, .int 0, .int 0, .ref q40, .ref q41, .ref q42, .ref q43, .null, .null]) dX0_init_49 fl166 fq0_8 rfl rfl (Nat.le_of_ble_eq_true rfl) rfl ?_
  refine n_aload_n (pc := 52) 0 dX0_init_52 rfl rfl ?_
  refine n_bipush (pc := 53) (v := 6) dX0_init_53 (by decide) ?_
  refine n_newaL (pc := 55) (k9 := 44) (N' := 6) rfl dX0_init_55 wa_long rfl rfl rfl (by decide +kernel) (by decide) rfl (by decide) (Nat.le_of_ble_eq_true rfl) (Nat.le_of_ble_eq_true rfl) (fun q44 => ?_)
  refine n_putF (pc := 57) (fs' := [.ref q38, .ref q39, .int 0, .int 0, .int 0, .ref q40, .ref q41, .ref q42, .ref q43, .ref q44, .null]) dX0_init_57 fl167 fq0_9 rfl rfl (Nat.le_of_ble_eq_true rfl) rfl ?_
  refine n_aload_n (pc := 60) 0 dX0_init_60 rfl rfl ?_
  refine n_bipush (pc := 61) (v := 6) dX0_init_61 (by decide) ?_
  refine n_newaI (pc := 63) (k9 := 45) (N' := 6) rfl dX0_init_63 wa_int rfl rfl rfl (by decide +kernel) (by decide) rfl (by decide) (Nat.le_of_ble_eq_true rfl) (Nat.le_of_ble_eq_true rfl) (fun q45 => ?_)
  refine n_putF (pc := 65) (fs' := [.ref q38, .ref q39, .int 0, .int 0, .int 0, .ref q40, .ref q41, .ref q42, .ref q43, .ref q44, .ref q45]) dX0_init_65 fl168 fq0_10 rfl rfl (Nat.le_of_ble_eq_true rfl) rfl ?_
  exact n_ret (d := d) (v := fun _ => 0) (pc := 68) dX0_init_68 rfl rfl (by decide) rfl (by decide +kernel) (fun _ _ _ => rfl) (fun _ _ _ => rfl)
set_option maxHeartbeats 4000000 in
set_option maxRecDepth 100000 in
theorem c_init_0_47 {l : Launch} {D : va_G} {cA : Nat → ClassId} {d : Nat} (a sz : Nat) : CI l D cA (d + 1) 8 102 yX0_init cX0_init 1 a sz 47 0 9 h0 := by
  refine CI_of (ad := fun _ => 0) (h := h0) (own := RX0) (by decide +kernel) rfl rfl (by decide) ?_
  refine n_aload_n (pc := 0) 0 dX0_init_0 rfl rfl ?_
  refine n_objInit (pc := 1) (d := d + 0) (mc := 8) (ms := 102) dX0_init_1 wom151 wo_i wo_c rfl (Nat.le_of_ble_eq_true rfl) ?_
  refine n_aload_n (pc := 4) 0 dX0_init_4 rfl rfl ?_
  refine n_bipush (pc := 5) (v := 6) dX0_init_5 (by decide) ?_
  refine n_newaI (pc := 7) (k9 := 48) (N' := 6) rfl dX0_init_7 wa_int rfl rfl rfl (by decide +kernel) (by decide) rfl (by decide) (Nat.le_of_ble_eq_true rfl) (Nat.le_of_ble_eq_true rfl) (fun q48 => ?_)
  refine n_putF (pc := 9) (fs' := [.ref q48, .null, .int 0, .int 0, .int 0, .null, .null, .null, .null, .null, .null]) dX0_init_9 fl152 fq0_0 rfl rfl (Nat.le_of_ble_eq_true rfl) rfl ?_
  refine n_aload_n (pc := 12) 0 dX0_init_12 rfl rfl ?_
  refine n_bipush (pc := 13) (v := 60) dX0_init_13 (by decide) ?_
  refine n_newaI (pc := 15) (k9 := 49) (N' := 60) rfl dX0_init_15 wa_int rfl rfl rfl (by decide +kernel) (by decide) rfl (by decide) (Nat.le_of_ble_eq_true rfl) (Nat.le_of_ble_eq_true rfl) (fun q49 => ?_)
  refine n_putF (pc := 17) (fs' := [.ref q48, .ref q49, .int 0, .int 0, .int 0, .null, .null, .null, .null, .null, .null]) dX0_init_17 fl156 fq0_1 rfl rfl (Nat.le_of_ble_eq_true rfl) rfl ?_
  refine n_aload_n (pc := 20) 0 dX0_init_20 rfl rfl ?_
  refine n_bipush (pc := 21) (v := 6) dX0_init_21 (by decide) ?_
  refine n_newaL (pc := 23) (k9 := 50) (N' := 6) rfl dX0_init_23 wa_long rfl rfl rfl (by decide +kernel) (by decide) rfl (by decide) (Nat.le_of_ble_eq_true rfl) (Nat.le_of_ble_eq_true rfl) (fun q50 => ?_)
  refine n_putF (pc := 25) (fs' := [.ref q48, .ref q49, .int 0, .int 0, .int 0, .ref q50, .null, .null, .null, .null, .null]) dX0_init_25 fl163 fq0_5 rfl rfl (Nat.le_of_ble_eq_true rfl) rfl ?_
  refine n_aload_n (pc := 28) 0 dX0_init_28 rfl rfl ?_
  refine n_bipush (pc := 29) (v := 6) dX0_init_29 (by decide) ?_
  refine n_newaI (pc := 31) (k9 := 51) (N' := 6) rfl dX0_init_31 wa_int rfl rfl rfl (by decide +kernel) (by decide) rfl (by decide) (Nat.le_of_ble_eq_true rfl) (Nat.le_of_ble_eq_true rfl) (fun q51 => ?_)
  refine n_putF (pc := 33) (fs' := [.ref q48, .ref q49, .int 0, .int 0, .int 0, .ref q50, .ref q51, .null, .null, .null, .null]) dX0_init_33 fl164 fq0_6 rfl rfl (Nat.le_of_ble_eq_true rfl) rfl ?_
  refine n_aload_n (pc := 36) 0 dX0_init_36 rfl rfl ?_
  refine n_bipush (pc := 37) (v := 6) dX0_init_37 (by decide) ?_
  refine n_newaL (pc := 39) (k9 := 52) (N' := 6) rfl dX0_init_39 wa_long rfl rfl rfl (by decide +kernel) (by decide) rfl (by decide) (Nat.le_of_ble_eq_true rfl) (Nat.le_of_ble_eq_true rfl) (fun q52 => ?_)
  refine n_putF (pc := 41) (fs' := [.ref q48, .ref q49, .int 0, .int 0, .int 0, .ref q50, .ref q51, .ref q52, .null, .null, .null]) dX0_init_41 fl165 fq0_7 rfl rfl (Nat.le_of_ble_eq_true rfl) rfl ?_
  refine n_aload_n (pc := 44) 0 dX0_init_44 rfl rfl ?_
  refine n_bipush (pc := 45) (v := 6) dX0_init_45 (by decide) ?_
  refine n_newaL (pc := 47) (k9 := 53) (N' := 6) rfl dX0_init_47 wa_long rfl rfl rfl (by decide +kernel) (by decide) rfl (by decide) (Nat.le_of_ble_eq_true rfl) (Nat.le_of_ble_eq_true rfl) (fun q53 => ?_)
  refine n_putF (pc := 49) (fs' := [.ref q48, .ref q49, .int 0, .int 0, .int 0, .ref q50, .ref q51, .ref q52, .ref q53, .null, .null]) dX0_init_49 fl166 fq0_8 rfl rfl (Nat.le_of_ble_eq_true rfl) rfl ?_
  refine n_aload_n (pc := 52) 0 dX0_init_52 rfl rfl ?_
  refine n_bipush (pc := 53) (v := 6) dX0_init_53 (by decide) ?_
  refine n_newaL (pc := 55) (k9 := 54) (N' := 6) rfl dX0_init_55 wa_long rfl rfl rfl (by decide +kernel) (by decide) rfl (by decide) (Nat.le_of_ble_eq_true rfl) (Nat.le_of_ble_eq_true rfl) (fun q54 => ?_)
  refine n_putF (pc := 57) (fs' := [.ref q48, .ref q49, .int 0, .int 0, .int 0, .ref q50, .ref q51, .ref q52, .ref q53, .ref q54, .null]) dX0_init_57 fl167 fq0_9 rfl rfl (Nat.le_of_ble_eq_true rfl) rfl ?_
  refine n_aload_n (pc := 60) 0 dX0_init_60 rfl rfl ?_
  refine n_bipush (pc := 61) (v := 6) dX0_init_61 (by decide) ?_
  refine n_newaI (pc := 63) (k9 := 55) (N' := 6) rfl dX0_init_63 wa_int rfl rfl rfl (by decide +kernel) (by decide) rfl (by decide) (Nat.le_of_ble_eq_true rfl) (Nat.le_of_ble_eq_true rfl) (fun q55 => ?_)
  refine n_putF (pc := 65) (fs' := [.ref q48, .ref q49, .int 0, .int 0, .int 0, .ref q50, .ref q51, .ref q52, .ref q53, .ref q54, .ref q55]) dX0_init_65 fl168 fq0_10 rfl rfl (Nat.le_of_ble_eq_true rfl) rfl ?_
  exact n_ret (d := d) (v := fun _ => 0) (pc := 68) dX0_init_68 rfl rfl (by decide) rfl (by decide +kernel) (fun _ _ _ => rfl) (fun _ _ _ => rfl)
set_option maxHeartbeats 4000000 in
set_option maxRecDepth 100000 in
theorem c_init_0_68 {l : Launch} {D : va_G} {cA : Nat → ClassId} {d : Nat} (a sz : Nat) : CI l D cA (d + 1) 8 102 yX0_init cX0_init 1 a sz 68 0 9 h0 := by
  refine CI_of (ad := fun _ => 0) (h := h0) (own := RX0) (by decide +kernel) rfl rfl (by decide) ?_
  refine n_aload_n (pc := 0) 0 dX0_init_0 rfl rfl ?_
  refine n_objInit (pc := 1) (d := d + 0) (mc := 8) (ms := 102) dX0_init_1 wom151 wo_i wo_c rfl (Nat.le_of_ble_eq_true rfl) ?_
  refine n_aload_n (pc := 4) 0 dX0_init_4 rfl rfl ?_
  refine n_bipush (pc := 5) (v := 6) dX0_init_5 (by decide) ?_
  refine n_newaI (pc := 7) (k9 := 69) (N' := 6) rfl dX0_init_7 wa_int rfl rfl rfl (by decide +kernel) (by decide) rfl (by decide) (Nat.le_of_ble_eq_true rfl) (Nat.le_of_ble_eq_true rfl) (fun q69 => ?_)
  refine n_putF (pc := 9) (fs' := [.ref q69, .null, .int 0, .int 0, .int 0, .null, .null, .null, .null, .null, .null]) dX0_init_9 fl152 fq0_0 rfl rfl (Nat.le_of_ble_eq_true rfl) rfl ?_
  refine n_aload_n (pc := 12) 0 dX0_init_12 rfl rfl ?_
  refine n_bipush (pc := 13) (v := 60) dX0_init_13 (by decide) ?_
  refine n_newaI (pc := 15) (k9 := 70) (N' := 60) rfl dX0_init_15 wa_int rfl rfl rfl (by decide +kernel) (by decide) rfl (by decide) (Nat.le_of_ble_eq_true rfl) (Nat.le_of_ble_eq_true rfl) (fun q70 => ?_)
  refine n_putF (pc := 17) (fs' := [.ref q69, .ref q70, .int 0, .int 0, .int 0, .null, .null, .null, .null, .null, .null]) dX0_init_17 fl156 fq0_1 rfl rfl (Nat.le_of_ble_eq_true rfl) rfl ?_
  refine n_aload_n (pc := 20) 0 dX0_init_20 rfl rfl ?_
  refine n_bipush (pc := 21) (v := 6) dX0_init_21 (by decide) ?_
  refine n_newaL (pc := 23) (k9 := 71) (N' := 6) rfl dX0_init_23 wa_long rfl rfl rfl (by decide +kernel) (by decide) rfl (by decide) (Nat.le_of_ble_eq_true rfl) (Nat.le_of_ble_eq_true rfl) (fun q71 => ?_)
  refine n_putF (pc := 25) (fs' := [.ref q69, .ref q70, .int 0, .int 0, .int 0, .ref q71, .null, .null, .null, .null, .null]) dX0_init_25 fl163 fq0_5 rfl rfl (Nat.le_of_ble_eq_true rfl) rfl ?_
  refine n_aload_n (pc := 28) 0 dX0_init_28 rfl rfl ?_
  refine n_bipush (pc := 29) (v := 6) dX0_init_29 (by decide) ?_
  refine n_newaI (pc := 31) (k9 := 72) (N' := 6) rfl dX0_init_31 wa_int rfl rfl rfl (by decide +kernel) (by decide) rfl (by decide) (Nat.le_of_ble_eq_true rfl) (Nat.le_of_ble_eq_true rfl) (fun q72 => ?_)
  refine n_putF (pc := 33) (fs' := [.ref q69, .ref q70, .int 0, .int 0, .int 0, .ref q71, .ref q72, .null, .null, .null, .null]) dX0_init_33 fl164 fq0_6 rfl rfl (Nat.le_of_ble_eq_true rfl) rfl ?_
  refine n_aload_n (pc := 36) 0 dX0_init_36 rfl rfl ?_
  refine n_bipush (pc := 37) (v := 6) dX0_init_37 (by decide) ?_
  refine n_newaL (pc := 39) (k9 := 73) (N' := 6) rfl dX0_init_39 wa_long rfl rfl rfl (by decide +kernel) (by decide) rfl (by decide) (Nat.le_of_ble_eq_true rfl) (Nat.le_of_ble_eq_true rfl) (fun q73 => ?_)
  refine n_putF (pc := 41) (fs' := [.ref q69, .ref q70, .int 0, .int 0, .int 0, .ref q71, .ref q72, .ref q73, .null, .null, .null]) dX0_init_41 fl165 fq0_7 rfl rfl (Nat.le_of_ble_eq_true rfl) rfl ?_
  refine n_aload_n (pc := 44) 0 dX0_init_44 rfl rfl ?_
  refine n_bipush (pc := 45) (v := 6) dX0_init_45 (by decide) ?_
  refine n_newaL (pc := 47) (k9 := 74) (N' := 6) rfl dX0_init_47 wa_long rfl rfl rfl (by decide +kernel) (by decide) rfl (by decide) (Nat.le_of_ble_eq_true rfl) (Nat.le_of_ble_eq_true rfl) (fun q74 => ?_)
  refine n_putF (pc := 49) (fs' := [.ref q69, .ref q70, .int 0, .int 0, .int 0, .ref q71, .ref q72, .ref q73, .ref q74, .null, .null]) dX0_init_49 fl166 fq0_8 rfl rfl (Nat.le_of_ble_eq_true rfl) rfl ?_
  refine n_aload_n (pc := 52) 0 dX0_init_52 rfl rfl ?_
  refine n_bipush (pc := 53) (v := 6) dX0_init_53 (by decide) ?_
  refine n_newaL (pc := 55) (k9 := 75) (N' := 6) rfl dX0_init_55 wa_long rfl rfl rfl (by decide +kernel) (by decide) rfl (by decide) (Nat.le_of_ble_eq_true rfl) (Nat.le_of_ble_eq_true rfl) (fun q75 => ?_)
  refine n_putF (pc := 57) (fs' := [.ref q69, .ref q70, .int 0, .int 0, .int 0, .ref q71, .ref q72, .ref q73, .ref q74, .ref q75, .null]) dX0_init_57 fl167 fq0_9 rfl rfl (Nat.le_of_ble_eq_true rfl) rfl ?_
  refine n_aload_n (pc := 60) 0 dX0_init_60 rfl rfl ?_
  refine n_bipush (pc := 61) (v := 6) dX0_init_61 (by decide) ?_
  refine n_newaI (pc := 63) (k9 := 76) (N' := 6) rfl dX0_init_63 wa_int rfl rfl rfl (by decide +kernel) (by decide) rfl (by decide) (Nat.le_of_ble_eq_true rfl) (Nat.le_of_ble_eq_true rfl) (fun q76 => ?_)
  refine n_putF (pc := 65) (fs' := [.ref q69, .ref q70, .int 0, .int 0, .int 0, .ref q71, .ref q72, .ref q73, .ref q74, .ref q75, .ref q76]) dX0_init_65 fl168 fq0_10 rfl rfl (Nat.le_of_ble_eq_true rfl) rfl ?_
  exact n_ret (d := d) (v := fun _ => 0) (pc := 68) dX0_init_68 rfl rfl (by decide) rfl (by decide +kernel) (fun _ _ _ => rfl) (fun _ _ _ => rfl)
set_option maxHeartbeats 4000000 in
set_option maxRecDepth 100000 in
theorem c_init_0_78 {l : Launch} {D : va_G} {cA : Nat → ClassId} {d : Nat} (a sz : Nat) : CI l D cA (d + 1) 8 102 yX0_init cX0_init 1 a sz 78 0 9 h0 := by
  refine CI_of (ad := fun _ => 0) (h := h0) (own := RX0) (by decide +kernel) rfl rfl (by decide) ?_
  refine n_aload_n (pc := 0) 0 dX0_init_0 rfl rfl ?_
  refine n_objInit (pc := 1) (d := d + 0) (mc := 8) (ms := 102) dX0_init_1 wom151 wo_i wo_c rfl (Nat.le_of_ble_eq_true rfl) ?_
  refine n_aload_n (pc := 4) 0 dX0_init_4 rfl rfl ?_
  refine n_bipush (pc := 5) (v := 6) dX0_init_5 (by decide) ?_
  refine n_newaI (pc := 7) (k9 := 79) (N' := 6) rfl dX0_init_7 wa_int rfl rfl rfl (by decide +kernel) (by decide) rfl (by decide) (Nat.le_of_ble_eq_true rfl) (Nat.le_of_ble_eq_true rfl) (fun q79 => ?_)
  refine n_putF (pc := 9) (fs' := [.ref q79, .null, .int 0, .int 0, .int 0, .null, .null, .null, .null, .null, .null]) dX0_init_9 fl152 fq0_0 rfl rfl (Nat.le_of_ble_eq_true rfl) rfl ?_
  refine n_aload_n (pc := 12) 0 dX0_init_12 rfl rfl ?_
  refine n_bipush (pc := 13) (v := 60) dX0_init_13 (by decide) ?_
  refine n_newaI (pc := 15) (k9 := 80) (N' := 60) rfl dX0_init_15 wa_int rfl rfl rfl (by decide +kernel) (by decide) rfl (by decide) (Nat.le_of_ble_eq_true rfl) (Nat.le_of_ble_eq_true rfl) (fun q80 => ?_)
  refine n_putF (pc := 17) (fs' := [.ref q79, .ref q80, .int 0, .int 0, .int 0, .null, .null, .null, .null, .null, .null]) dX0_init_17 fl156 fq0_1 rfl rfl (Nat.le_of_ble_eq_true rfl) rfl ?_
  refine n_aload_n (pc := 20) 0 dX0_init_20 rfl rfl ?_
  refine n_bipush (pc := 21) (v := 6) dX0_init_21 (by decide) ?_
  refine n_newaL (pc := 23) (k9 := 81) (N' := 6) rfl dX0_init_23 wa_long rfl rfl rfl (by decide +kernel) (by decide) rfl (by decide) (Nat.le_of_ble_eq_true rfl) (Nat.le_of_ble_eq_true rfl) (fun q81 => ?_)
  refine n_putF (pc := 25) (fs' := [.ref q79, .ref q80, .int 0, .int 0, .int 0, .ref q81, .null, .null, .null, .null, .null]) dX0_init_25 fl163 fq0_5 rfl rfl (Nat.le_of_ble_eq_true rfl) rfl ?_
  refine n_aload_n (pc := 28) 0 dX0_init_28 rfl rfl ?_
  refine n_bipush (pc := 29) (v := 6) dX0_init_29 (by decide) ?_
  refine n_newaI (pc := 31) (k9 := 82) (N' := 6) rfl dX0_init_31 wa_int rfl rfl rfl (by decide +kernel) (by decide) rfl (by decide) (Nat.le_of_ble_eq_true rfl) (Nat.le_of_ble_eq_true rfl) (fun q82 => ?_)
  refine n_putF (pc := 33) (fs' := [.ref q79, .ref q80, .int 0, .int 0, .int 0, .ref q81, .ref q82, .null, .null, .null, .null]) dX0_init_33 fl164 fq0_6 rfl rfl (Nat.le_of_ble_eq_true rfl) rfl ?_
  refine n_aload_n (pc := 36) 0 dX0_init_36 rfl rfl ?_
  refine n_bipush (pc := 37) (v := 6) dX0_init_37 (by decide) ?_
  refine n_newaL (pc := 39) (k9 := 83) (N' := 6) rfl dX0_init_39 wa_long rfl rfl rfl (by decide +kernel) (by decide) rfl (by decide) (Nat.le_of_ble_eq_true rfl) (Nat.le_of_ble_eq_true rfl) (fun q83 => ?_)
  refine n_putF (pc := 41) (fs' := [.ref q79, .ref q80, .int 0, .int 0, .int 0, .ref q81, .ref q82, .ref q83, .null, .null, .null]) dX0_init_41 fl165 fq0_7 rfl rfl (Nat.le_of_ble_eq_true rfl) rfl ?_
  refine n_aload_n (pc := 44) 0 dX0_init_44 rfl rfl ?_
  refine n_bipush (pc := 45) (v := 6) dX0_init_45 (by decide) ?_
  refine n_newaL (pc := 47) (k9 := 84) (N' := 6) rfl dX0_init_47 wa_long rfl rfl rfl (by decide +kernel) (by decide) rfl (by decide) (Nat.le_of_ble_eq_true rfl) (Nat.le_of_ble_eq_true rfl) (fun q84 => ?_)
  refine n_putF (pc := 49) (fs' := [.ref q79, .ref q80, .int 0, .int 0, .int 0, .ref q81, .ref q82, .ref q83, .ref q84, .null, .null]) dX0_init_49 fl166 fq0_8 rfl rfl (Nat.le_of_ble_eq_true rfl) rfl ?_
  refine n_aload_n (pc := 52) 0 dX0_init_52 rfl rfl ?_
  refine n_bipush (pc := 53) (v := 6) dX0_init_53 (by decide) ?_
  refine n_newaL (pc := 55) (k9 := 85) (N' := 6) rfl dX0_init_55 wa_long rfl rfl rfl (by decide +kernel) (by decide) rfl (by decide) (Nat.le_of_ble_eq_true rfl) (Nat.le_of_ble_eq_true rfl) (fun q85 => ?_)
  refine n_putF (pc := 57) (fs' := [.ref q79, .ref q80, .int 0, .int 0, .int 0, .ref q81, .ref q82, .ref q83, .ref q84, .ref q85, .null]) dX0_init_57 fl167 fq0_9 rfl rfl (Nat.le_of_ble_eq_true rfl) rfl ?_
  refine n_aload_n (pc := 60) 0 dX0_init_60 rfl rfl ?_
  refine n_bipush (pc := 61) (v := 6) dX0_init_61 (by decide) ?_
  refine n_newaI (pc := 63) (k9 := 86) (N' := 6) rfl dX0_init_63 wa_int rfl rfl rfl (by decide +kernel) (by decide) rfl (by decide) (Nat.le_of_ble_eq_true rfl) (Nat.le_of_ble_eq_true rfl) (fun q86 => ?_)
  refine n_putF (pc := 65) (fs' := [.ref q79, .ref q80, .int 0, .int 0, .int 0, .ref q81, .ref q82, .ref q83, .ref q84, .ref q85, .ref q86]) dX0_init_65 fl168 fq0_10 rfl rfl (Nat.le_of_ble_eq_true rfl) rfl ?_
  exact n_ret (d := d) (v := fun _ => 0) (pc := 68) dX0_init_68 rfl rfl (by decide) rfl (by decide +kernel) (fun _ _ _ => rfl) (fun _ _ _ => rfl)
set_option maxHeartbeats 4000000 in
set_option maxRecDepth 100000 in
theorem c_init_0_87 {l : Launch} {D : va_G} {cA : Nat → ClassId} {d : Nat} (a sz : Nat) : CI l D cA (d + 1) 8 102 yX0_init cX0_init 1 a sz 87 0 9 h0 := by
  refine CI_of (ad := fun _ => 0) (h := h0) (own := RX0) (by decide +kernel) rfl rfl (by decide) ?_
  refine n_aload_n (pc := 0) 0 dX0_init_0 rfl rfl ?_
  refine n_objInit (pc := 1) (d := d + 0) (mc := 8) (ms := 102) dX0_init_1 wom151 wo_i wo_c rfl (Nat.le_of_ble_eq_true rfl) ?_
  refine n_aload_n (pc := 4) 0 dX0_init_4 rfl rfl ?_
  refine n_bipush (pc := 5) (v := 6) dX0_init_5 (by decide) ?_
  refine n_newaI (pc := 7) (k9 := 88) (N' := 6) rfl dX0_init_7 wa_int rfl rfl rfl (by decide +kernel) (by decide) rfl (by decide) (Nat.le_of_ble_eq_true rfl) (Nat.le_of_ble_eq_true rfl) (fun q88 => ?_)
  refine n_putF (pc := 9) (fs' := [.ref q88, .null, .int 0, .int 0, .int 0, .null, .null, .null, .null, .null, .null]) dX0_init_9 fl152 fq0_0 rfl rfl (Nat.le_of_ble_eq_true rfl) rfl ?_
  refine n_aload_n (pc := 12) 0 dX0_init_12 rfl rfl ?_
  refine n_bipush (pc := 13) (v := 60) dX0_init_13 (by decide) ?_
  refine n_newaI (pc := 15) (k9 := 89) (N' := 60) rfl dX0_init_15 wa_int rfl rfl rfl (by decide +kernel) (by decide) rfl (by decide) (Nat.le_of_ble_eq_true rfl) (Nat.le_of_ble_eq_true rfl) (fun q89 => ?_)
  refine n_putF (pc := 17) (fs' := [.ref q88, .ref q89, .int 0, .int 0, .int 0, .null, .null, .null, .null, .null, .null]) dX0_init_17 fl156 fq0_1 rfl rfl (Nat.le_of_ble_eq_true rfl) rfl ?_
  refine n_aload_n (pc := 20) 0 dX0_init_20 rfl rfl ?_
  refine n_bipush (pc := 21) (v := 6) dX0_init_21 (by decide) ?_
  refine n_newaL (pc := 23) (k9 := 90) (N' := 6) rfl dX0_init_23 wa_long rfl rfl rfl (by decide +kernel) (by decide) rfl (by decide) (Nat.le_of_ble_eq_true rfl) (Nat.le_of_ble_eq_true rfl) (fun q90 => ?_)
  refine n_putF (pc := 25) (fs' := [.ref q88, .ref q89, .int 0, .int 0, .int 0, .ref q90, .null, .null, .null, .null, .null]) dX0_init_25 fl163 fq0_5 rfl rfl (Nat.le_of_ble_eq_true rfl) rfl ?_
  refine n_aload_n (pc := 28) 0 dX0_init_28 rfl rfl ?_
  refine n_bipush (pc := 29) (v := 6) dX0_init_29 (by decide) ?_
  refine n_newaI (pc := 31) (k9 := 91) (N' := 6) rfl dX0_init_31 wa_int rfl rfl rfl (by decide +kernel) (by decide) rfl (by decide) (Nat.le_of_ble_eq_true rfl) (Nat.le_of_ble_eq_true rfl) (fun q91 => ?_)
  refine n_putF (pc := 33) (fs' := [.ref q88, .ref q89, .int 0, .int 0, .int 0, .ref q90, .ref q91, .null, .null, .null, .null]) dX0_init_33 fl164 fq0_6 rfl rfl (Nat.le_of_ble_eq_true rfl) rfl ?_
  refine n_aload_n (pc := 36) 0 dX0_init_36 rfl rfl ?_
  refine n_bipush (pc := 37) (v := 6) dX0_init_37 (by decide) ?_
  refine n_newaL (pc := 39) (k9 := 92) (N' := 6) rfl dX0_init_39 wa_long rfl rfl rfl (by decide +kernel) (by decide) rfl (by decide) (Nat.le_of_ble_eq_true rfl) (Nat.le_of_ble_eq_true rfl) (fun q92 => ?_)
  refine n_putF (pc := 41) (fs' := [.ref q88, .ref q89, .int 0, .int 0, .int 0, .ref q90, .ref q91, .ref q92, .null, .null, .null]) dX0_init_41 fl165 fq0_7 rfl rfl (Nat.le_of_ble_eq_true rfl) rfl ?_
  refine n_aload_n (pc := 44) 0 dX0_init_44 rfl rfl ?_
  refine n_bipush (pc := 45) (v := 6) dX0_init_45 (by decide) ?_
  refine n_newaL (pc := 47) (k9 := 93) (N' := 6) rfl dX0_init_47 wa_long rfl rfl rfl (by decide +kernel) (by decide) rfl (by decide) (Nat.le_of_ble_eq_true rfl) (Nat.le_of_ble_eq_true rfl) (fun q93 => ?_)
  refine n_putF (pc := 49) (fs' := [.ref q88, .ref q89, .int 0, .int 0, .int 0, .ref q90, .ref q91, .ref q92, .ref q93, .null, .null]) dX0_init_49 fl166 fq0_8 rfl rfl (Nat.le_of_ble_eq_true rfl) rfl ?_
  refine n_aload_n (pc := 52) 0 dX0_init_52 rfl rfl ?_
  refine n_bipush (pc := 53) (v := 6) dX0_init_53 (by decide) ?_
  refine n_newaL (pc := 55) (k9 := 94) (N' := 6) rfl dX0_init_55 wa_long rfl rfl rfl (by decide +kernel) (by decide) rfl (by decide) (Nat.le_of_ble_eq_true rfl) (Nat.le_of_ble_eq_true rfl) (fun q94 => ?_)
  refine n_putF (pc := 57) (fs' := [.ref q88, .ref q89, .int 0, .int 0, .int 0, .ref q90, .ref q91, .ref q92, .ref q93, .ref q94, .null]) dX0_init_57 fl167 fq0_9 rfl rfl (Nat.le_of_ble_eq_true rfl) rfl ?_
  refine n_aload_n (pc := 60) 0 dX0_init_60 rfl rfl ?_
  refine n_bipush (pc := 61) (v := 6) dX0_init_61 (by decide) ?_
  refine n_newaI (pc := 63) (k9 := 95) (N' := 6) rfl dX0_init_63 wa_int rfl rfl rfl (by decide +kernel) (by decide) rfl (by decide) (Nat.le_of_ble_eq_true rfl) (Nat.le_of_ble_eq_true rfl) (fun q95 => ?_)
  refine n_putF (pc := 65) (fs' := [.ref q88, .ref q89, .int 0, .int 0, .int 0, .ref q90, .ref q91, .ref q92, .ref q93, .ref q94, .ref q95]) dX0_init_65 fl168 fq0_10 rfl rfl (Nat.le_of_ble_eq_true rfl) rfl ?_
  exact n_ret (d := d) (v := fun _ => 0) (pc := 68) dX0_init_68 rfl rfl (by decide) rfl (by decide +kernel) (fun _ _ _ => rfl) (fun _ _ _ => rfl)
set_option maxHeartbeats 4000000 in
set_option maxRecDepth 100000 in
theorem c_init_3_1 {l : Launch} {D : va_G} {cA : Nat → ClassId} {d : Nat} (a sz : Nat) : CI l D cA (d + 1) 4 40 yX3_init cX3_init 2 a sz 1 3 5 h0 := by
  refine CI_of (ad := fun _ => 0) (h := (rI h0 5 (fun _ => 0))) (own := RX3) (by decide +kernel) rfl rfl (by decide) ?_
  refine n_aload_n (pc := 0) 0 dX3_init_0 rfl rfl ?_
  refine n_objInit (pc := 1) (d := d + 0) (mc := 4) (ms := 40) dX3_init_1 wom97 wo_i wo_c rfl (Nat.le_of_ble_eq_true rfl) ?_
  refine n_aload_n (pc := 4) 0 dX3_init_4 rfl rfl ?_
  refine n_bipush (pc := 5) (v := 24) dX3_init_5 (by decide) ?_
  refine n_newaI (pc := 7) (k9 := 2) (N' := 24) rfl dX3_init_7 wa_int rfl rfl rfl (by decide +kernel) (by decide) rfl (by decide) (Nat.le_of_ble_eq_true rfl) (Nat.le_of_ble_eq_true rfl) (fun q2 => ?_)
  refine n_putF (pc := 9) (fs' := [.ref q2, .null, .null, .null, .int 0, .int 0, .int 0, .int 0]) dX3_init_9 fl98 fq3_0 rfl rfl (Nat.le_of_ble_eq_true rfl) rfl ?_
  refine n_aload_n (pc := 12) 0 dX3_init_12 rfl rfl ?_
  refine n_iconst (pc := 13) (v := 4) dX3_init_13 (by decide) ?_
  refine n_newaI (pc := 14) (k9 := 3) (N' := 4) rfl dX3_init_14 wa_int rfl rfl rfl (by decide +kernel) (by decide) rfl (by decide) (Nat.le_of_ble_eq_true rfl) (Nat.le_of_ble_eq_true rfl) (fun q3 => ?_)
  refine n_putF (pc := 16) (fs' := [.ref q2, .ref q3, .null, .null, .int 0, .int 0, .int 0, .int 0]) dX3_init_16 fl103 fq3_1 rfl rfl (Nat.le_of_ble_eq_true rfl) rfl ?_
  refine n_aload_n (pc := 19) 0 dX3_init_19 rfl rfl ?_
  refine n_bipush (pc := 20) (v := 6) dX3_init_20 (by decide) ?_
  refine n_newaI (pc := 22) (k9 := 4) (N' := 6) rfl dX3_init_22 wa_int rfl rfl rfl (by decide +kernel) (by decide) rfl (by decide) (Nat.le_of_ble_eq_true rfl) (Nat.le_of_ble_eq_true rfl) (fun q4 => ?_)
  refine n_putF (pc := 24) (fs' := [.ref q2, .ref q3, .ref q4, .null, .int 0, .int 0, .int 0, .int 0]) dX3_init_24 fl106 fq3_2 rfl rfl (Nat.le_of_ble_eq_true rfl) rfl ?_
  refine n_aload_n (pc := 27) 0 dX3_init_27 rfl rfl ?_
  refine n_bipush (pc := 28) (v := 6) dX3_init_28 (by decide) ?_
  refine n_newaI (pc := 30) (k9 := 5) (N' := 6) rfl dX3_init_30 wa_int rfl rfl rfl (by decide +kernel) (by decide) rfl (by decide) (Nat.le_of_ble_eq_true rfl) (Nat.le_of_ble_eq_true rfl) (fun q5 => ?_)
  refine n_putF (pc := 32) (fs' := [.ref q2, .ref q3, .ref q4, .ref q5, .int 0, .int 0, .int 0, .int 0]) dX3_init_32 fl109 fq3_3 rfl rfl (Nat.le_of_ble_eq_true rfl) rfl ?_
  refine n_aload_n (pc := 35) 0 dX3_init_35 rfl rfl ?_
  refine n_iconst (pc := 36) (v := 1) dX3_init_36 (by decide) ?_
  refine n_put (pc := 37) (fs' := [.ref q2, .ref q3, .ref q4, .ref q5, .int 0, .int 0, .int (1), .int 0]) dX3_init_37 fl118 fq3_6 rfl rfl (Nat.le_of_ble_eq_true rfl) rfl ?_
  refine n_aload_n (pc := 40) 0 dX3_init_40 rfl rfl ?_
  refine n_iconst (pc := 41) (v := 2) dX3_init_41 (by decide) ?_
  refine n_put (pc := 42) (fs' := [.ref q2, .ref q3, .ref q4, .ref q5, .int 0, .int 0, .int (1), .int (2)]) dX3_init_42 fl120 fq3_7 rfl rfl (Nat.le_of_ble_eq_true rfl) rfl ?_
  refine n_iconst (pc := 45) (v := 0) dX3_init_45 (by decide) ?_
  refine n_istore_n (pc := 46) (lv' := [(1, .int 0), (0, .ref a)]) dX3_init_46 rfl (by decide) rfl ?_
  refine n_iload_n (pc := 47) 0 dX3_init_47 rfl rfl ?_
  refine n_bipush (pc := 48) (v := 6) dX3_init_48 (by decide) ?_
  refine n_icmp_ge_f (pc := 50) (tgt := 66) dX3_init_50 (by decide) (by decide) ?_
  refine n_aload_n (pc := 53) 1 dX3_init_53 rfl rfl ?_
  refine n_getR (pc := 54) dX3_init_54 fl109 rfl ?_
  refine n_iload_n (pc := 57) 0 dX3_init_57 rfl rfl ?_
  refine n_iload_n (pc := 58) 0 dX3_init_58 rfl rfl ?_
  refine n_iast (pc := 59) (k9 := 5) (i9 := 0) 3 (by decide) rfl dX3_init_59 rfl rfl (by decide) (by decide) ?_
  refine n_iinc (pc := 60) 0 (v := 1) (lv' := [(1, .int 1), (0, .ref a)]) dX3_init_60 rfl (by decide) (by decide) rfl ?_
  refine n_goto (pc := 63) (tgt := 47) dX3_init_63 (by decide) ?_
  refine n_iload_n (pc := 47) 0 dX3_init_47 rfl rfl ?_
  refine n_bipush (pc := 48) (v := 6) dX3_init_48 (by decide) ?_
  refine n_icmp_ge_f (pc := 50) (tgt := 66) dX3_init_50 (by decide) (by decide) ?_
  refine n_aload_n (pc := 53) 1 dX3_init_53 rfl rfl ?_
  refine n_getR (pc := 54) dX3_init_54 fl109 rfl ?_
  refine n_iload_n (pc := 57) 0 dX3_init_57 rfl rfl ?_
  refine n_iload_n (pc := 58) 0 dX3_init_58 rfl rfl ?_
  refine n_iast (pc := 59) (k9 := 5) (i9 := 1) 3 (by decide) rfl dX3_init_59 rfl rfl (by decide) (by decide) ?_
  refine n_iinc (pc := 60) 0 (v := 2) (lv' := [(1, .int 2), (0, .ref a)]) dX3_init_60 rfl (by decide) (by decide) rfl ?_
  refine n_goto (pc := 63) (tgt := 47) dX3_init_63 (by decide) ?_
  refine n_iload_n (pc := 47) 0 dX3_init_47 rfl rfl ?_
  refine n_bipush (pc := 48) (v := 6) dX3_init_48 (by decide) ?_
  refine n_icmp_ge_f (pc := 50) (tgt := 66) dX3_init_50 (by decide) (by decide) ?_
  refine n_aload_n (pc := 53) 1 dX3_init_53 rfl rfl ?_
  refine n_getR (pc := 54) dX3_init_54 fl109 rfl ?_
  refine n_iload_n (pc := 57) 0 dX3_init_57 rfl rfl ?_
  refine n_iload_n (pc := 58) 0 dX3_init_58 rfl rfl ?_
  refine n_iast (pc := 59) (k9 := 5) (i9 := 2) 3 (by decide) rfl dX3_init_59 rfl rfl (by decide) (by decide) ?_
  refine n_iinc (pc := 60) 0 (v := 3) (lv' := [(1, .int 3), (0, .ref a)]) dX3_init_60 rfl (by decide) (by decide) rfl ?_
  refine n_goto (pc := 63) (tgt := 47) dX3_init_63 (by decide) ?_
  refine n_iload_n (pc := 47) 0 dX3_init_47 rfl rfl ?_
  refine n_bipush (pc := 48) (v := 6) dX3_init_48 (by decide) ?_
  refine n_icmp_ge_f (pc := 50) (tgt := 66) dX3_init_50 (by decide) (by decide) ?_
  refine n_aload_n (pc := 53) 1 dX3_init_53 rfl rfl ?_
  refine n_getR (pc := 54) dX3_init_54 fl109 rfl ?_
  refine n_iload_n (pc := 57) 0 dX3_init_57 rfl rfl ?_
  refine n_iload_n (pc := 58) 0 dX3_init_58 rfl rfl ?_
  refine n_iast (pc := 59) (k9 := 5) (i9 := 3) 3 (by decide) rfl dX3_init_59 rfl rfl (by decide) (by decide) ?_
  refine n_iinc (pc := 60) 0 (v := 4) (lv' := [(1, .int 4), (0, .ref a)]) dX3_init_60 rfl (by decide) (by decide) rfl ?_
  refine n_goto (pc := 63) (tgt := 47) dX3_init_63 (by decide) ?_
  refine n_iload_n (pc := 47) 0 dX3_init_47 rfl rfl ?_
  refine n_bipush (pc := 48) (v := 6) dX3_init_48 (by decide) ?_
  refine n_icmp_ge_f (pc := 50) (tgt := 66) dX3_init_50 (by decide) (by decide) ?_
  refine n_aload_n (pc := 53) 1 dX3_init_53 rfl rfl ?_
  refine n_getR (pc := 54) dX3_init_54 fl109 rfl ?_
  refine n_iload_n (pc := 57) 0 dX3_init_57 rfl rfl ?_
  refine n_iload_n (pc := 58) 0 dX3_init_58 rfl rfl ?_
  refine n_iast (pc := 59) (k9 := 5) (i9 := 4) 3 (by decide) rfl dX3_init_59 rfl rfl (by decide) (by decide) ?_
  refine n_iinc (pc := 60) 0 (v := 5) (lv' := [(1, .int 5), (0, .ref a)]) dX3_init_60 rfl (by decide) (by decide) rfl ?_
  refine n_goto (pc := 63) (tgt := 47) dX3_init_63 (by decide) ?_
  refine n_iload_n (pc := 47) 0 dX3_init_47 rfl rfl ?_
  refine n_bipush (pc := 48) (v := 6) dX3_init_48 (by decide) ?_
  refine n_icmp_ge_f (pc := 50) (tgt := 66) dX3_init_50 (by decide) (by decide) ?_
  refine n_aload_n (pc := 53) 1 dX3_init_53 rfl rfl ?_
  refine n_getR (pc := 54) dX3_init_54 fl109 rfl ?_
  refine n_iload_n (pc := 57) 0 dX3_init_57 rfl rfl ?_
  refine n_iload_n (pc := 58) 0 dX3_init_58 rfl rfl ?_
  refine n_iast (pc := 59) (k9 := 5) (i9 := 5) 3 (by decide) rfl dX3_init_59 rfl rfl (by decide) (by decide) ?_
  refine n_iinc (pc := 60) 0 (v := 6) (lv' := [(1, .int 6), (0, .ref a)]) dX3_init_60 rfl (by decide) (by decide) rfl ?_
  refine n_goto (pc := 63) (tgt := 47) dX3_init_63 (by decide) ?_
  refine n_iload_n (pc := 47) 0 dX3_init_47 rfl rfl ?_
  refine n_bipush (pc := 48) (v := 6) dX3_init_48 (by decide) ?_
  refine n_icmp_ge_t (pc := 50) (tgt := 66) dX3_init_50 (by decide) (by decide) ?_
  exact n_ret (d := d) (v := fun _ => 0) (pc := 66) dX3_init_66 rfl rfl (by decide) rfl (by decide +kernel) (fun k h1 h2 => by rcases (show k = 2 ∨ k = 3 ∨ k = 4 ∨ k = 5 by omega) with rfl | rfl | rfl | rfl <;> rfl) (fun _ _ _ => rfl)
set_option maxHeartbeats 4000000 in
set_option maxRecDepth 100000 in
theorem c_init_3_6 {l : Launch} {D : va_G} {cA : Nat → ClassId} {d : Nat} (a sz : Nat) : CI l D cA (d + 1) 4 40 yX3_init cX3_init 2 a sz 6 3 5 h0 := by
  refine CI_of (ad := fun _ => 0) (h := (rI h0 10 (fun _ => 0))) (own := RX3) (by decide +kernel) rfl rfl (by decide) ?_
  refine n_aload_n (pc := 0) 0 dX3_init_0 rfl rfl ?_
  refine n_objInit (pc := 1) (d := d + 0) (mc := 4) (ms := 40) dX3_init_1 wom97 wo_i wo_c rfl (Nat.le_of_ble_eq_true rfl) ?_
  refine n_aload_n (pc := 4) 0 dX3_init_4 rfl rfl ?_
  refine n_bipush (pc := 5) (v := 24) dX3_init_5 (by decide) ?_
  refine n_newaI (pc := 7) (k9 := 7) (N' := 24) rfl dX3_init_7 wa_int rfl rfl rfl (by decide +kernel) (by decide) rfl (by decide) (Nat.le_of_ble_eq_true rfl) (Nat.le_of_ble_eq_true rfl) (fun q7 => ?_)
  refine n_putF (pc := 9) (fs' := [.ref q7, .null, .null, .null, .int 0, .int 0, .int 0, .int 0]) dX3_init_9 fl98 fq3_0 rfl rfl (Nat.le_of_ble_eq_true rfl) rfl ?_
  refine n_aload_n (pc := 12) 0 dX3_init_12 rfl rfl ?_
  refine n_iconst (pc := 13) (v := 4) dX3_init_13 (by decide) ?_
  refine n_newaI (pc := 14) (k9 := 8) (N' := 4) rfl dX3_init_14 wa_int rfl rfl rfl (by decide +kernel) (by decide) rfl (by decide) (Nat.le_of_ble_eq_true rfl) (Nat.le_of_ble_eq_true rfl) (fun q8 => ?_)
  refine n_putF (pc := 16) (fs' := [.ref q7, .ref q8, .null, .null, .int 0, .int 0, .int 0, .int 0]) dX3_init_16 fl103 fq3_1 rfl rfl (Nat.le_of_ble_eq_true rfl) rfl ?_
  refine n_aload_n (pc := 19) 0 dX3_init_19 rfl rfl ?_
  refine n_bipush (pc := 20) (v := 6) dX3_init_20 (by decide) ?_
  refine n_newaI (pc := 22) (k9 := 9) (N' := 6) rfl dX3_init_22 wa_int rfl rfl rfl (by decide +kernel) (by decide) rfl (by decide) (Nat.le_of_ble_eq_true rfl) (Nat.le_of_ble_eq_true rfl) (fun q9 => ?_)
  refine n_putF (pc := 24) (fs' := [.ref q7, .ref q8, .ref q9, .null, .int 0, .int 0, .int 0, .int 0]) dX3_init_24 fl106 fq3_2 rfl rfl (Nat.le_of_ble_eq_true rfl) rfl ?_
  refine n_aload_n (pc := 27) 0 dX3_init_27 rfl rfl ?_
  refine n_bipush (pc := 28) (v := 6) dX3_init_28 (by decide) ?_
  refine n_newaI (pc := 30) (k9 := 10) (N' := 6) rfl dX3_init_30 wa_int rfl rfl rfl (by decide +kernel) (by decide) rfl (by decide) (Nat.le_of_ble_eq_true rfl) (Nat.le_of_ble_eq_true rfl) (fun q10 => ?_)
  refine n_putF (pc := 32) (fs' := [.ref q7, .ref q8, .ref q9, .ref q10, .int 0, .int 0, .int 0, .int 0]) dX3_init_32 fl109 fq3_3 rfl rfl (Nat.le_of_ble_eq_true rfl) rfl ?_
  refine n_aload_n (pc := 35) 0 dX3_init_35 rfl rfl ?_
  refine n_iconst (pc := 36) (v := 1) dX3_init_36 (by decide) ?_
  refine n_put (pc := 37) (fs' := [.ref q7, .ref q8, .ref q9, .ref q10, .int 0, .int 0, .int (1), .int 0]) dX3_init_37 fl118 fq3_6 rfl rfl (Nat.le_of_ble_eq_true rfl) rfl ?_
  refine n_aload_n (pc := 40) 0 dX3_init_40 rfl rfl ?_
  refine n_iconst (pc := 41) (v := 2) dX3_init_41 (by decide) ?_
  refine n_put (pc := 42) (fs' := [.ref q7, .ref q8, .ref q9, .ref q10, .int 0, .int 0, .int (1), .int (2)]) dX3_init_42 fl120 fq3_7 rfl rfl (Nat.le_of_ble_eq_true rfl) rfl ?_
  refine n_iconst (pc := 45) (v := 0) dX3_init_45 (by decide) ?_
  refine n_istore_n (pc := 46) (lv' := [(1, .int 0), (0, .ref a)]) dX3_init_46 rfl (by decide) rfl ?_
  refine n_iload_n (pc := 47) 0 dX3_init_47 rfl rfl ?_
  refine n_bipush (pc := 48) (v := 6) dX3_init_48 (by decide) ?_
  refine n_icmp_ge_f (pc := 50) (tgt := 66) dX3_init_50 (by decide) (by decide) ?_
  refine n_aload_n (pc := 53) 1 dX3_init_53 rfl rfl ?_
  refine n_getR (pc := 54) dX3_init_54 fl109 rfl ?_
  refine n_iload_n (pc := 57) 0 dX3_init_57 rfl rfl ?_
  refine n_iload_n (pc := 58) 0 dX3_init_58 rfl rfl ?_
  refine n_iast (pc := 59) (k9 := 10) (i9 := 0) 3 (by decide) rfl dX3_init_59 rfl rfl (by decide) (by decide) ?_
  refine n_iinc (pc := 60) 0 (v := 1) (lv' := [(1, .int 1), (0, .ref a)]) dX3_init_60 rfl (by decide) (by decide) rfl ?_
  refine n_goto (pc := 63) (tgt := 47) dX3_init_63 (by decide) ?_
  refine n_iload_n (pc := 47) 0 dX3_init_47 rfl rfl ?_
  refine n_bipush (pc := 48) (v := 6) dX3_init_48 (by decide) ?_
  refine n_icmp_ge_f (pc := 50) (tgt := 66) dX3_init_50 (by decide) (by decide) ?_
  refine n_aload_n (pc := 53) 1 dX3_init_53 rfl rfl ?_
  refine n_getR (pc := 54) dX3_init_54 fl109 rfl ?_
  refine n_iload_n (pc := 57) 0 dX3_init_57 rfl rfl ?_
  refine n_iload_n (pc := 58) 0 dX3_init_58 rfl rfl ?_
  refine n_iast (pc := 59) (k9 := 10) (i9 := 1) 3 (by decide) rfl dX3_init_59 rfl rfl (by decide) (by decide) ?_
  refine n_iinc (pc := 60) 0 (v := 2) (lv' := [(1, .int 2), (0, .ref a)]) dX3_init_60 rfl (by decide) (by decide) rfl ?_
  refine n_goto (pc := 63) (tgt := 47) dX3_init_63 (by decide) ?_
  refine n_iload_n (pc := 47) 0 dX3_init_47 rfl rfl ?_
  refine n_bipush (pc := 48) (v := 6) dX3_init_48 (by decide) ?_
  refine n_icmp_ge_f (pc := 50) (tgt := 66) dX3_init_50 (by decide) (by decide) ?_
  refine n_aload_n (pc := 53) 1 dX3_init_53 rfl rfl ?_
  refine n_getR (pc := 54) dX3_init_54 fl109 rfl ?_
  refine n_iload_n (pc := 57) 0 dX3_init_57 rfl rfl ?_
  refine n_iload_n (pc := 58) 0 dX3_init_58 rfl rfl ?_
  refine n_iast (pc := 59) (k9 := 10) (i9 := 2) 3 (by decide) rfl dX3_init_59 rfl rfl (by decide) (by decide) ?_
  refine n_iinc (pc := 60) 0 (v := 3) (lv' := [(1, .int 3), (0, .ref a)]) dX3_init_60 rfl (by decide) (by decide) rfl ?_
  refine n_goto (pc := 63) (tgt := 47) dX3_init_63 (by decide) ?_
  refine n_iload_n (pc := 47) 0 dX3_init_47 rfl rfl ?_
  refine n_bipush (pc := 48) (v := 6) dX3_init_48 (by decide) ?_
  refine n_icmp_ge_f (pc := 50) (tgt := 66) dX3_init_50 (by decide) (by decide) ?_
  refine n_aload_n (pc := 53) 1 dX3_init_53 rfl rfl ?_
  refine n_getR (pc := 54) dX3_init_54 fl109 rfl ?_
  refine n_iload_n (pc := 57) 0 dX3_init_57 rfl rfl ?_
  refine n_iload_n (pc := 58) 0 dX3_init_58 rfl rfl ?_
  refine n_iast (pc := 59) (k9 := 10) (i9 := 3) 3 (by decide) rfl dX3_init_59 rfl rfl (by decide) (by decide) ?_
  refine n_iinc (pc := 60) 0 (v := 4) (lv' := [(1, .int 4), (0, .ref a)]) dX3_init_60 rfl (by decide) (by decide) rfl ?_
  refine n_goto (pc := 63) (tgt := 47) dX3_init_63 (by decide) ?_
  refine n_iload_n (pc := 47) 0 dX3_init_47 rfl rfl ?_
  refine n_bipush (pc := 48) (v := 6) dX3_init_48 (by decide) ?_
  refine n_icmp_ge_f (pc := 50) (tgt := 66) dX3_init_50 (by decide) (by decide) ?_
  refine n_aload_n (pc := 53) 1 dX3_init_53 rfl rfl ?_
  refine n_getR (pc := 54) dX3_init_54 fl109 rfl ?_
  refine n_iload_n (pc := 57) 0 dX3_init_57 rfl rfl ?_
  refine n_iload_n (pc := 58) 0 dX3_init_58 rfl rfl ?_
  refine n_iast (pc := 59) (k9 := 10) (i9 := 4) 3 (by decide) rfl dX3_init_59 rfl rfl (by decide) (by decide) ?_
  refine n_iinc (pc := 60) 0 (v := 5) (lv' := [(1, .int 5), (0, .ref a)]) dX3_init_60 rfl (by decide) (by decide) rfl ?_
  refine n_goto (pc := 63) (tgt := 47) dX3_init_63 (by decide) ?_
  refine n_iload_n (pc := 47) 0 dX3_init_47 rfl rfl ?_
  refine n_bipush (pc := 48) (v := 6) dX3_init_48 (by decide) ?_
  refine n_icmp_ge_f (pc := 50) (tgt := 66) dX3_init_50 (by decide) (by decide) ?_
  refine n_aload_n (pc := 53) 1 dX3_init_53 rfl rfl ?_
  refine n_getR (pc := 54) dX3_init_54 fl109 rfl ?_
  refine n_iload_n (pc := 57) 0 dX3_init_57 rfl rfl ?_
  refine n_iload_n (pc := 58) 0 dX3_init_58 rfl rfl ?_
  refine n_iast (pc := 59) (k9 := 10) (i9 := 5) 3 (by decide) rfl dX3_init_59 rfl rfl (by decide) (by decide) ?_
  refine n_iinc (pc := 60) 0 (v := 6) (lv' := [(1, .int 6), (0, .ref a)]) dX3_init_60 rfl (by decide) (by decide) rfl ?_
  refine n_goto (pc := 63) (tgt := 47) dX3_init_63 (by decide) ?_
  refine n_iload_n (pc := 47) 0 dX3_init_47 rfl rfl ?_
  refine n_bipush (pc := 48) (v := 6) dX3_init_48 (by decide) ?_
  refine n_icmp_ge_t (pc := 50) (tgt := 66) dX3_init_50 (by decide) (by decide) ?_
  exact n_ret (d := d) (v := fun _ => 0) (pc := 66) dX3_init_66 rfl rfl (by decide) rfl (by decide +kernel) (fun k h1 h2 => by rcases (show k = 7 ∨ k = 8 ∨ k = 9 ∨ k = 10 by omega) with rfl | rfl | rfl | rfl <;> rfl) (fun _ _ _ => rfl)
set_option maxHeartbeats 4000000 in
set_option maxRecDepth 100000 in
theorem c_init_3_11 {l : Launch} {D : va_G} {cA : Nat → ClassId} {d : Nat} (a sz : Nat) : CI l D cA (d + 1) 4 40 yX3_init cX3_init 2 a sz 11 3 5 h0 := by
  refine CI_of (ad := fun _ => 0) (h := (rI h0 15 (fun _ => 0))) (own := RX3) (by decide +kernel) rfl rfl (by decide) ?_
  refine n_aload_n (pc := 0) 0 dX3_init_0 rfl rfl ?_
  refine n_objInit (pc := 1) (d := d + 0) (mc := 4) (ms := 40) dX3_init_1 wom97 wo_i wo_c rfl (Nat.le_of_ble_eq_true rfl) ?_
  refine n_aload_n (pc := 4) 0 dX3_init_4 rfl rfl ?_
  refine n_bipush (pc := 5) (v := 24) dX3_init_5 (by decide) ?_
  refine n_newaI (pc := 7) (k9 := 12) (N' := 24) rfl dX3_init_7 wa_int rfl rfl rfl (by decide +kernel) (by decide) rfl (by decide) (Nat.le_of_ble_eq_true rfl) (Nat.le_of_ble_eq_true rfl) (fun q12 => ?_)
  refine n_putF (pc := 9) (fs' := [.ref q12, .null, .null, .null, .int 0, .int 0, .int 0, .int 0]) dX3_init_9 fl98 fq3_0 rfl rfl (Nat.le_of_ble_eq_true rfl) rfl ?_
  refine n_aload_n (pc := 12) 0 dX3_init_12 rfl rfl ?_
  refine n_iconst (pc := 13) (v := 4) dX3_init_13 (by decide) ?_
  refine n_newaI (pc := 14) (k9 := 13) (N' := 4) rfl dX3_init_14 wa_int rfl rfl rfl (by decide +kernel) (by decide) rfl (by decide) (Nat.le_of_ble_eq_true rfl) (Nat.le_of_ble_eq_true rfl) (fun q13 => ?_)
  refine n_putF (pc := 16) (fs' := [.ref q12, .ref q13, .null, .null, .int 0, .int 0, .int 0, .int 0]) dX3_init_16 fl103 fq3_1 rfl rfl (Nat.le_of_ble_eq_true rfl) rfl ?_
  refine n_aload_n (pc := 19) 0 dX3_init_19 rfl rfl ?_
  refine n_bipush (pc := 20) (v := 6) dX3_init_20 (by decide) ?_
  refine n_newaI (pc := 22) (k9 := 14) (N' := 6) rfl dX3_init_22 wa_int rfl rfl rfl (by decide +kernel) (by decide) rfl (by decide) (Nat.le_of_ble_eq_true rfl) (Nat.le_of_ble_eq_true rfl) (fun q14 => ?_)
  refine n_putF (pc := 24) (fs' := [.ref q12, .ref q13, .ref q14, .null, .int 0, .int 0, .int 0, .int 0]) dX3_init_24 fl106 fq3_2 rfl rfl (Nat.le_of_ble_eq_true rfl) rfl ?_
  refine n_aload_n (pc := 27) 0 dX3_init_27 rfl rfl ?_
  refine n_bipush (pc := 28) (v := 6) dX3_init_28 (by decide) ?_
  refine n_newaI (pc := 30) (k9 := 15) (N' := 6) rfl dX3_init_30 wa_int rfl rfl rfl (by decide +kernel) (by decide) rfl (by decide) (Nat.le_of_ble_eq_true rfl) (Nat.le_of_ble_eq_true rfl) (fun q15 => ?_)
  refine n_putF (pc := 32) (fs' := [.ref q12, .ref q13, .ref q14, .ref q15, .int 0, .int 0, .int 0, .int 0]) dX3_init_32 fl109 fq3_3 rfl rfl (Nat.le_of_ble_eq_true rfl) rfl ?_
  refine n_aload_n (pc := 35) 0 dX3_init_35 rfl rfl ?_
  refine n_iconst (pc := 36) (v := 1) dX3_init_36 (by decide) ?_
  refine n_put (pc := 37) (fs' := [.ref q12, .ref q13, .ref q14, .ref q15, .int 0, .int 0, .int (1), .int 0]) dX3_init_37 fl118 fq3_6 rfl rfl (Nat.le_of_ble_eq_true rfl) rfl ?_
  refine n_aload_n (pc := 40) 0 dX3_init_40 rfl rfl ?_
  refine n_iconst (pc := 41) (v := 2) dX3_init_41 (by decide) ?_
  refine n_put (pc := 42) (fs' := [.ref q12, .ref q13, .ref q14, .ref q15, .int 0, .int 0, .int (1), .int (2)]) dX3_init_42 fl120 fq3_7 rfl rfl (Nat.le_of_ble_eq_true rfl) rfl ?_
  refine n_iconst (pc := 45) (v := 0) dX3_init_45 (by decide) ?_
  refine n_istore_n (pc := 46) (lv' := [(1, .int 0), (0, .ref a)]) dX3_init_46 rfl (by decide) rfl ?_
  refine n_iload_n (pc := 47) 0 dX3_init_47 rfl rfl ?_
  refine n_bipush (pc := 48) (v := 6) dX3_init_48 (by decide) ?_
  refine n_icmp_ge_f (pc := 50) (tgt := 66) dX3_init_50 (by decide) (by decide) ?_
  refine n_aload_n (pc := 53) 1 dX3_init_53 rfl rfl ?_
  refine n_getR (pc := 54) dX3_init_54 fl109 rfl ?_
  refine n_iload_n (pc := 57) 0 dX3_init_57 rfl rfl ?_
  refine n_iload_n (pc := 58) 0 dX3_init_58 rfl rfl ?_
  refine n_iast (pc := 59) (k9 := 15) (i9 := 0) 3 (by decide) rfl dX3_init_59 rfl rfl (by decide) (by decide) ?_
  refine n_iinc (pc := 60) 0 (v := 1) (lv' := [(1, .int 1), (0, .ref a)]) dX3_init_60 rfl (by decide) (by decide) rfl ?_
  refine n_goto (pc := 63) (tgt := 47) dX3_init_63 (by decide) ?_
  refine n_iload_n (pc := 47) 0 dX3_init_47 rfl rfl ?_
  refine n_bipush (pc := 48) (v := 6) dX3_init_48 (by decide) ?_
  refine n_icmp_ge_f (pc := 50) (tgt := 66) dX3_init_50 (by decide) (by decide) ?_
  refine n_aload_n (pc := 53) 1 dX3_init_53 rfl rfl ?_
  refine n_getR (pc := 54) dX3_init_54 fl109 rfl ?_
  refine n_iload_n (pc := 57) 0 dX3_init_57 rfl rfl ?_
  refine n_iload_n (pc := 58) 0 dX3_init_58 rfl rfl ?_
  refine n_iast (pc := 59) (k9 := 15) (i9 := 1) 3 (by decide) rfl dX3_init_59 rfl rfl (by decide) (by decide) ?_
  refine n_iinc (pc := 60) 0 (v := 2) (lv' := [(1, .int 2), (0, .ref a)]) dX3_init_60 rfl (by decide) (by decide) rfl ?_
  refine n_goto (pc := 63) (tgt := 47) dX3_init_63 (by decide) ?_
  refine n_iload_n (pc := 47) 0 dX3_init_47 rfl rfl ?_
  refine n_bipush (pc := 48) (v := 6) dX3_init_48 (by decide) ?_
  refine n_icmp_ge_f (pc := 50) (tgt := 66) dX3_init_50 (by decide) (by decide) ?_
  refine n_aload_n (pc := 53) 1 dX3_init_53 rfl rfl ?_
  refine n_getR (pc := 54) dX3_init_54 fl109 rfl ?_
  refine n_iload_n (pc := 57) 0 dX3_init_57 rfl rfl ?_
  refine n_iload_n (pc := 58) 0 dX3_init_58 rfl rfl ?_
  refine n_iast (pc := 59) (k9 := 15) (i9 := 2) 3 (by decide) rfl dX3_init_59 rfl rfl (by decide) (by decide) ?_
  refine n_iinc (pc := 60) 0 (v := 3) (lv' := [(1, .int 3), (0, .ref a)]) dX3_init_60 rfl (by decide) (by decide) rfl ?_
  refine n_goto (pc := 63) (tgt := 47) dX3_init_63 (by decide) ?_
  refine n_iload_n (pc := 47) 0 dX3_init_47 rfl rfl ?_
  refine n_bipush (pc := 48) (v := 6) dX3_init_48 (by decide) ?_
  refine n_icmp_ge_f (pc := 50) (tgt := 66) dX3_init_50 (by decide) (by decide) ?_
  refine n_aload_n (pc := 53) 1 dX3_init_53 rfl rfl ?_
  refine n_getR (pc := 54) dX3_init_54 fl109 rfl ?_
  refine n_iload_n (pc := 57) 0 dX3_init_57 rfl rfl ?_
  refine n_iload_n (pc := 58) 0 dX3_init_58 rfl rfl ?_
  refine n_iast (pc := 59) (k9 := 15) (i9 := 3) 3 (by decide) rfl dX3_init_59 rfl rfl (by decide) (by decide) ?_
  refine n_iinc (pc := 60) 0 (v := 4) (lv' := [(1, .int 4), (0, .ref a)]) dX3_init_60 rfl (by decide) (by decide) rfl ?_
  refine n_goto (pc := 63) (tgt := 47) dX3_init_63 (by decide) ?_
  refine n_iload_n (pc := 47) 0 dX3_init_47 rfl rfl ?_
  refine n_bipush (pc := 48) (v := 6) dX3_init_48 (by decide) ?_
  refine n_icmp_ge_f (pc := 50) (tgt := 66) dX3_init_50 (by decide) (by decide) ?_
  refine n_aload_n (pc := 53) 1 dX3_init_53 rfl rfl ?_
  refine n_getR (pc := 54) dX3_init_54 fl109 rfl ?_
  refine n_iload_n (pc := 57) 0 dX3_init_57 rfl rfl ?_
  refine n_iload_n (pc := 58) 0 dX3_init_58 rfl rfl ?_
  refine n_iast (pc := 59) (k9 := 15) (i9 := 4) 3 (by decide) rfl dX3_init_59 rfl rfl (by decide) (by decide) ?_
  refine n_iinc (pc := 60) 0 (v := 5) (lv' := [(1, .int 5), (0, .ref a)]) dX3_init_60 rfl (by decide) (by decide) rfl ?_
  refine n_goto (pc := 63) (tgt := 47) dX3_init_63 (by decide) ?_
  refine n_iload_n (pc := 47) 0 dX3_init_47 rfl rfl ?_
  refine n_bipush (pc := 48) (v := 6) dX3_init_48 (by decide) ?_
  refine n_icmp_ge_f (pc := 50) (tgt := 66) dX3_init_50 (by decide) (by decide) ?_
  refine n_aload_n (pc := 53) 1 dX3_init_53 rfl rfl ?_
  refine n_getR (pc := 54) dX3_init_54 fl109 rfl ?_
  refine n_iload_n (pc := 57) 0 dX3_init_57 rfl rfl ?_
  refine n_iload_n (pc := 58) 0 dX3_init_58 rfl rfl ?_
  refine n_iast (pc := 59) (k9 := 15) (i9 := 5) 3 (by decide) rfl dX3_init_59 rfl rfl (by decide) (by decide) ?_
  refine n_iinc (pc := 60) 0 (v := 6) (lv' := [(1, .int 6), (0, .ref a)]) dX3_init_60 rfl (by decide) (by decide) rfl ?_
  refine n_goto (pc := 63) (tgt := 47) dX3_init_63 (by decide) ?_
  refine n_iload_n (pc := 47) 0 dX3_init_47 rfl rfl ?_
  refine n_bipush (pc := 48) (v := 6) dX3_init_48 (by decide) ?_
  refine n_icmp_ge_t (pc := 50) (tgt := 66) dX3_init_50 (by decide) (by decide) ?_
  exact n_ret (d := d) (v := fun _ => 0) (pc := 66) dX3_init_66 rfl rfl (by decide) rfl (by decide +kernel) (fun k h1 h2 => by rcases (show k = 12 ∨ k = 13 ∨ k = 14 ∨ k = 15 by omega) with rfl | rfl | rfl | rfl <;> rfl) (fun _ _ _ => rfl)
set_option maxHeartbeats 4000000 in
set_option maxRecDepth 100000 in
theorem c_init_4_58 {l : Launch} {D : va_G} {cA : Nat → ClassId} {d : Nat} (a sz : Nat) : CI l D cA (d + 1) 8 112 yX4_init cX4_init 1 a sz 58 4 9 h0 := by
  refine CI_of (ad := fun _ => 0) (h := h0) (own := RX4) (by decide +kernel) rfl rfl (by decide) ?_
  refine n_aload_n (pc := 0) 0 dX4_init_0 rfl rfl ?_
  refine n_objInit (pc := 1) (d := d + 0) (mc := 8) (ms := 112) dX4_init_1 wom221 wo_i wo_c rfl (Nat.le_of_ble_eq_true rfl) ?_
  refine n_aload_n (pc := 4) 0 dX4_init_4 rfl rfl ?_
  refine n_iconst (pc := 5) (v := 4) dX4_init_5 (by decide) ?_
  refine n_newaI (pc := 6) (k9 := 59) (N' := 4) rfl dX4_init_6 wa_int rfl rfl rfl (by decide +kernel) (by decide) rfl (by decide) (Nat.le_of_ble_eq_true rfl) (Nat.le_of_ble_eq_true rfl) (fun q59 => ?_)
  refine n_putF (pc := 8) (fs' := [.int 0, .int 0, .int 0, .ref q59, .null, .null, .null, .null, .null, .null, .null, .long 0]) dX4_init_8 fl225 fq4_3 rfl rfl (Nat.le_of_ble_eq_true rfl) rfl ?_
  refine n_aload_n (pc := 11) 0 dX4_init_11 rfl rfl ?_
  refine n_iconst (pc := 12) (v := 4) dX4_init_12 (by decide) ?_
  refine n_newaI (pc := 13) (k9 := 60) (N' := 4) rfl dX4_init_13 wa_int rfl rfl rfl (by decide +kernel) (by decide) rfl (by decide) (Nat.le_of_ble_eq_true rfl) (Nat.le_of_ble_eq_true rfl) (fun q60 => ?_)
  refine n_putF (pc := 15) (fs' := [.int 0, .int 0, .int 0, .ref q59, .ref q60, .null, .null, .null, .null, .null, .null, .long 0]) dX4_init_15 fl226 fq4_4 rfl rfl (Nat.le_of_ble_eq_true rfl) rfl ?_
  refine n_aload_n (pc := 18) 0 dX4_init_18 rfl rfl ?_
  refine n_iconst (pc := 19) (v := 4) dX4_init_19 (by decide) ?_
  refine n_newaI (pc := 20) (k9 := 61) (N' := 4) rfl dX4_init_20 wa_int rfl rfl rfl (by decide +kernel) (by decide) rfl (by decide) (Nat.le_of_ble_eq_true rfl) (Nat.le_of_ble_eq_true rfl) (fun q61 => ?_)
  refine n_putF (pc := 22) (fs' := [.int 0, .int 0, .int 0, .ref q59, .ref q60, .ref q61, .null, .null, .null, .null, .null, .long 0]) dX4_init_22 fl227 fq4_5 rfl rfl (Nat.le_of_ble_eq_true rfl) rfl ?_
  refine n_aload_n (pc := 25) 0 dX4_init_25 rfl rfl ?_
  refine n_iconst (pc := 26) (v := 4) dX4_init_26 (by decide) ?_
  refine n_newaI (pc := 27) (k9 := 62) (N' := 4) rfl dX4_init_27 wa_int rfl rfl rfl (by decide +kernel) (by decide) rfl (by decide) (Nat.le_of_ble_eq_true rfl) (Nat.le_of_ble_eq_true rfl) (fun q62 => ?_)
  refine n_putF (pc := 29) (fs' := [.int 0, .int 0, .int 0, .ref q59, .ref q60, .ref q61, .ref q62, .null, .null, .null, .null, .long 0]) dX4_init_29 fl228 fq4_6 rfl rfl (Nat.le_of_ble_eq_true rfl) rfl ?_
  refine n_aload_n (pc := 32) 0 dX4_init_32 rfl rfl ?_
  refine n_bipush (pc := 33) (v := 24) dX4_init_33 (by decide) ?_
  refine n_newaI (pc := 35) (k9 := 63) (N' := 24) rfl dX4_init_35 wa_int rfl rfl rfl (by decide +kernel) (by decide) rfl (by decide) (Nat.le_of_ble_eq_true rfl) (Nat.le_of_ble_eq_true rfl) (fun q63 => ?_)
  refine n_putF (pc := 37) (fs' := [.int 0, .int 0, .int 0, .ref q59, .ref q60, .ref q61, .ref q62, .ref q63, .null, .null, .null, .long 0]) dX4_init_37 fl229 fq4_7 rfl rfl (Nat.le_of_ble_eq_true rfl) rfl ?_
  refine n_aload_n (pc := 40) 0 dX4_init_40 rfl rfl ?_
  refine n_bipush (pc := 41) (v := 24) dX4_init_41 (by decide) ?_
  refine n_newaI (pc := 43) (k9 := 64) (N' := 24) rfl dX4_init_43 wa_int rfl rfl rfl (by decide +kernel) (by decide) rfl (by decide) (Nat.le_of_ble_eq_true rfl) (Nat.le_of_ble_eq_true rfl) (fun q64 => ?_)
  refine n_putF (pc := 45) (fs' := [.int 0, .int 0, .int 0, .ref q59, .ref q60, .ref q61, .ref q62, .ref q63, .ref q64, .null, .null, .long 0]) dX4_init_45 fl230 fq4_8 rfl rfl (Nat.le_of_ble_eq_true rfl) rfl ?_
  refine n_aload_n (pc := 48) 0 dX4_init_48 rfl rfl ?_
  refine n_bipush (pc := 49) (v := 24) dX4_init_49 (by decide) ?_
  refine n_newaL (pc := 51) (k9 := 65) (N' := 24) rfl dX4_init_51 wa_long rfl rfl rfl (by decide +kernel) (by decide) rfl (by decide) (Nat.le_of_ble_eq_true rfl) (Nat.le_of_ble_eq_true rfl) (fun q65 => ?_)
  refine n_putF (pc := 53) (fs' := [.int 0, .int 0, .int 0, .ref q59, .ref q60, .ref q61, .ref q62, .ref q63, .ref q64, .ref q65, .null, .long 0]) dX4_init_53 fl231 fq4_9 rfl rfl (Nat.le_of_ble_eq_true rfl) rfl ?_
  refine n_aload_n (pc := 56) 0 dX4_init_56 rfl rfl ?_
  refine n_bipush (pc := 57) (v := 24) dX4_init_57 (by decide) ?_
  refine n_newaL (pc := 59) (k9 := 66) (N' := 24) rfl dX4_init_59 wa_long rfl rfl rfl (by decide +kernel) (by decide) rfl (by decide) (Nat.le_of_ble_eq_true rfl) (Nat.le_of_ble_eq_true rfl) (fun q66 => ?_)
  refine n_putF (pc := 61) (fs' := [.int 0, .int 0, .int 0, .ref q59, .ref q60, .ref q61, .ref q62, .ref q63, .ref q64, .ref q65, .ref q66, .long 0]) dX4_init_61 fl232 fq4_10 rfl rfl (Nat.le_of_ble_eq_true rfl) rfl ?_
  exact n_ret (d := d) (v := fun _ => 0) (pc := 64) dX4_init_64 rfl rfl (by decide) rfl (by decide +kernel) (fun _ _ _ => rfl) (fun _ _ _ => rfl)
set_option maxHeartbeats 4000000 in
set_option maxRecDepth 100000 in
theorem c_init_5_98 {l : Launch} {D : va_G} {cA : Nat → ClassId} {d : Nat} (a sz : Nat) : CI l D cA (d + 1) 1 120 yX5_init cX5_init 1 a sz 98 5 2 h0 := by
  refine CI_of (ad := fun _ => 0) (h := h0) (own := RX5) (by decide +kernel) rfl rfl (by decide) ?_
  refine n_aload_n (pc := 0) 0 dX5_init_0 rfl rfl ?_
  refine n_objInit (pc := 1) (d := d + 0) (mc := 1) (ms := 120) dX5_init_1 wom303 wo_i wo_c rfl (Nat.le_of_ble_eq_true rfl) ?_
  refine n_aload_n (pc := 4) 0 dX5_init_4 rfl rfl ?_
  refine n_bipush (pc := 5) (v := 120) dX5_init_5 (by decide) ?_
  refine n_newaI (pc := 7) (k9 := 99) (N' := 120) rfl dX5_init_7 wa_int rfl rfl rfl (by decide +kernel) (by decide) rfl (by decide) (Nat.le_of_ble_eq_true rfl) (Nat.le_of_ble_eq_true rfl) (fun q99 => ?_)
  refine n_putF (pc := 9) (fs' := [.ref q99, .int 0]) dX5_init_9 fl304 fq5_0 rfl rfl (Nat.le_of_ble_eq_true rfl) rfl ?_
  exact n_ret (d := d) (v := fun _ => 0) (pc := 12) dX5_init_12 rfl rfl (by decide) rfl (by decide +kernel) (fun _ _ _ => rfl) (fun _ _ _ => rfl)
set_option maxHeartbeats 4000000 in
set_option maxRecDepth 100000 in
theorem c_init_7_96 {l : Launch} {D : va_G} {cA : Nat → ClassId} {d : Nat} (a sz : Nat) : CI l D cA (d + 1) 1 120 yX7_init cX7_init 1 a sz 96 7 2 h0 := by
  refine CI_of (ad := fun _ => 0) (h := h0) (own := RX7) (by decide +kernel) rfl rfl (by decide) ?_
  refine n_aload_n (pc := 0) 0 dX7_init_0 rfl rfl ?_
  refine n_objInit (pc := 1) (d := d + 0) (mc := 1) (ms := 120) dX7_init_1 wom289 wo_i wo_c rfl (Nat.le_of_ble_eq_true rfl) ?_
  refine n_aload_n (pc := 4) 0 dX7_init_4 rfl rfl ?_
  refine n_bipush (pc := 5) (v := 120) dX7_init_5 (by decide) ?_
  refine n_newaI (pc := 7) (k9 := 97) (N' := 120) rfl dX7_init_7 wa_int rfl rfl rfl (by decide +kernel) (by decide) rfl (by decide) (Nat.le_of_ble_eq_true rfl) (Nat.le_of_ble_eq_true rfl) (fun q97 => ?_)
  refine n_putF (pc := 9) (fs' := [.ref q97, .int 0]) dX7_init_9 fl290 fq7_0 rfl rfl (Nat.le_of_ble_eq_true rfl) rfl ?_
  exact n_ret (d := d) (v := fun _ => 0) (pc := 12) dX7_init_12 rfl rfl (by decide) rfl (by decide +kernel) (fun _ _ _ => rfl) (fun _ _ _ => rfl)
set_option maxHeartbeats 4000000 in
set_option maxRecDepth 100000 in
theorem c_init_6_100 {l : Launch} {D : va_G} {cA : Nat → ClassId} {d : Nat} (a sz : Nat) : CI l D cA (d + 1) 6 168 yX6_init cX6_init 1 a sz 100 6 7 h0 := by
  refine CI_of (ad := fun _ => 0) (h := (rI h0 106 (fun _ => 0))) (own := RX6) (by decide +kernel) rfl rfl (by decide) ?_
  refine n_aload_n (pc := 0) 0 dX6_init_0 rfl rfl ?_
  refine n_objInit (pc := 1) (d := d + 0) (mc := 6) (ms := 168) dX6_init_1 wom318 wo_i wo_c rfl (Nat.le_of_ble_eq_true rfl) ?_
  refine n_aload_n (pc := 4) 0 dX6_init_4 rfl rfl ?_
  refine n_iconst (pc := 5) (v := 4) dX6_init_5 (by decide) ?_
  refine n_bipush (pc := 6) (v := 40) dX6_init_6 (by decide) ?_
  refine n_multi (pc := 8) (k9 := 101) rfl dX6_init_8 wcl319 wa_int rfl (by decide +kernel) (fun i hi => by rcases (show i = 0 ∨ i = 1 ∨ i = 2 ∨ i = 3 by omega) with rfl | rfl | rfl | rfl <;> rfl) (Nat.le_of_ble_eq_true rfl) (Nat.le_of_ble_eq_true rfl) (fun q101 r101 => ?_)
  refine n_putF (pc := 12) (fs' := [.ref q101, .null]) dX6_init_12 fl324 fq6_0 rfl rfl (Nat.le_of_ble_eq_true rfl) rfl ?_
  refine n_aload_n (pc := 15) 0 dX6_init_15 rfl rfl ?_
  refine n_iconst (pc := 16) (v := 4) dX6_init_16 (by decide) ?_
  refine n_newaI (pc := 17) (k9 := 106) (N' := 4) rfl dX6_init_17 wa_int rfl rfl rfl (by decide +kernel) (by decide) rfl (by decide) (Nat.le_of_ble_eq_true rfl) (Nat.le_of_ble_eq_true rfl) (fun q106 => ?_)
  refine n_putF (pc := 19) (fs' := [.ref q101, .ref q106]) dX6_init_19 fl326 fq6_1 rfl rfl (Nat.le_of_ble_eq_true rfl) rfl ?_
  refine n_aload_n (pc := 22) 0 dX6_init_22 rfl rfl ?_
  refine n_getR (pc := 23) dX6_init_23 fl326 rfl ?_
  refine n_iconst (pc := 26) (v := -1) dX6_init_26 (by decide) ?_
  refine n_fill (pc := 27) (k9 := 106) (d := d + 0) (MC := 6) (MS := 168) 5 (by decide) rfl dX6_init_27 s321 rfl rfl rfl rfl (Nat.le_of_ble_eq_true rfl) (Nat.le_of_ble_eq_true rfl) (Nat.le_of_ble_eq_true rfl) ?_
  exact n_ret (d := d) (v := fun _ => 0) (pc := 30) dX6_init_30 rfl rfl (by decide) rfl (by decide +kernel) (fun k h1 h2 => by rcases (show k = 101 ∨ k = 102 ∨ k = 103 ∨ k = 104 ∨ k = 105 ∨ k = 106 by omega) with rfl | rfl | rfl | rfl | rfl | rfl <;> rfl) (fun _ _ _ => rfl)
set_option maxHeartbeats 4000000 in
set_option maxRecDepth 100000 in
theorem c_init_1_16 {l : Launch} {D : va_G} {cA : Nat → ClassId} {d : Nat} (a sz : Nat) : CI l D cA (d + 2) 19 232 yX1_init cX1_init 1 a sz 16 1 20 h0 := by
  refine CI_of (ad := fun _ => 0) (h := h0) (own := RX1) (by decide +kernel) rfl rfl (by decide) ?_
  refine n_aload_n (pc := 0) 0 dX1_init_0 rfl rfl ?_
  refine n_objInit (pc := 1) (d := d + 1) (mc := 19) (ms := 232) dX1_init_1 wom145 wo_i wo_c rfl (Nat.le_of_ble_eq_true rfl) ?_
  refine n_aload_n (pc := 4) 0 dX1_init_4 rfl rfl ?_
  refine n_new3 (pc := 5) (d := d + 1) (MC := 19) (MS := 232) (b' := 17) rfl dX1_init_5 dX1_init_8 dX1_init_9 cls146 rfl siw148 (c_init_0_17 (d := d)) rfl (by decide) (Nat.le_of_ble_eq_true rfl) (Nat.le_of_ble_eq_true rfl) (Nat.le_of_ble_eq_true rfl) (by decide +kernel) (by decide +kernel) (fun ad17 => ?_)
  refine n_putF (pc := 12) (fs' := [.ref (ad17 17), .null, .int 0, .null]) dX1_init_12 fl193 fq1_0 rfl rfl (Nat.le_of_ble_eq_true rfl) rfl ?_
  refine n_aload_n (pc := 15) 0 dX1_init_15 rfl rfl ?_
  refine n_bipush (pc := 16) (v := 6) dX1_init_16 (by decide) ?_
  refine n_newaI (pc := 18) (k9 := 26) (N' := 6) rfl dX1_init_18 wa_int rfl rfl rfl (by decide +kernel) (by decide) rfl (by decide) (Nat.le_of_ble_eq_true rfl) (Nat.le_of_ble_eq_true rfl) (fun q26 => ?_)
  refine n_putF (pc := 20) (fs' := [.ref (ad17 17), .ref q26, .int 0, .null]) dX1_init_20 fl195 fq1_1 rfl rfl (Nat.le_of_ble_eq_true rfl) rfl ?_
  refine n_aload_n (pc := 23) 0 dX1_init_23 rfl rfl ?_
  refine n_new3 (pc := 24) (d := d + 1) (MC := 19) (MS := 232) (b' := 27) rfl dX1_init_24 dX1_init_27 dX1_init_28 cls146 rfl siw148 (c_init_0_27 (d := d)) rfl (by decide) (Nat.le_of_ble_eq_true rfl) (Nat.le_of_ble_eq_true rfl) (Nat.le_of_ble_eq_true rfl) (by decide +kernel) (by decide +kernel) (fun ad27 => ?_)
  refine n_putF (pc := 31) (fs' := [.ref (ad17 17), .ref q26, .int 0, .ref (ad27 27)]) dX1_init_31 fl200 fq1_3 rfl rfl (Nat.le_of_ble_eq_true rfl) rfl ?_
  exact n_ret (d := d) (v := fun _ => 0) (pc := 34) dX1_init_34 rfl rfl (by decide) rfl (by decide +kernel) (fun _ _ _ => rfl) (fun _ _ _ => rfl)
set_option maxHeartbeats 4000000 in
set_option maxRecDepth 100000 in
theorem c_init_1_36 {l : Launch} {D : va_G} {cA : Nat → ClassId} {d : Nat} (a sz : Nat) : CI l D cA (d + 2) 19 232 yX1_init cX1_init 1 a sz 36 1 20 h0 := by
  refine CI_of (ad := fun _ => 0) (h := h0) (own := RX1) (by decide +kernel) rfl rfl (by decide) ?_
  refine n_aload_n (pc := 0) 0 dX1_init_0 rfl rfl ?_
  refine n_objInit (pc := 1) (d := d + 1) (mc := 19) (ms := 232) dX1_init_1 wom145 wo_i wo_c rfl (Nat.le_of_ble_eq_true rfl) ?_
  refine n_aload_n (pc := 4) 0 dX1_init_4 rfl rfl ?_
  refine n_new3 (pc := 5) (d := d + 1) (MC := 19) (MS := 232) (b' := 37) rfl dX1_init_5 dX1_init_8 dX1_init_9 cls146 rfl siw148 (c_init_0_37 (d := d)) rfl (by decide) (Nat.le_of_ble_eq_true rfl) (Nat.le_of_ble_eq_true rfl) (Nat.le_of_ble_eq_true rfl) (by decide +kernel) (by decide +kernel) (fun ad37 => ?_)
  refine n_putF (pc := 12) (fs' := [.ref (ad37 37), .null, .int 0, .null]) dX1_init_12 fl193 fq1_0 rfl rfl (Nat.le_of_ble_eq_true rfl) rfl ?_
  refine n_aload_n (pc := 15) 0 dX1_init_15 rfl rfl ?_
  refine n_bipush (pc := 16) (v := 6) dX1_init_16 (by decide) ?_
  refine n_newaI (pc := 18) (k9 := 46) (N' := 6) rfl dX1_init_18 wa_int rfl rfl rfl (by decide +kernel) (by decide) rfl (by decide) (Nat.le_of_ble_eq_true rfl) (Nat.le_of_ble_eq_true rfl) (fun q46 => ?_)
  refine n_putF (pc := 20) (fs' := [.ref (ad37 37), .ref q46, .int 0, .null]) dX1_init_20 fl195 fq1_1 rfl rfl (Nat.le_of_ble_eq_true rfl) rfl ?_
  refine n_aload_n (pc := 23) 0 dX1_init_23 rfl rfl ?_
  refine n_new3 (pc := 24) (d := d + 1) (MC := 19) (MS := 232) (b' := 47) rfl dX1_init_24 dX1_init_27 dX1_init_28 cls146 rfl siw148 (c_init_0_47 (d := d)) rfl (by decide) (Nat.le_of_ble_eq_true rfl) (Nat.le_of_ble_eq_true rfl) (Nat.le_of_ble_eq_true rfl) (by decide +kernel) (by decide +kernel) (fun ad47 => ?_)
  refine n_putF (pc := 31) (fs' := [.ref (ad37 37), .ref q46, .int 0, .ref (ad47 47)]) dX1_init_31 fl200 fq1_3 rfl rfl (Nat.le_of_ble_eq_true rfl) rfl ?_
  exact n_ret (d := d) (v := fun _ => 0) (pc := 34) dX1_init_34 rfl rfl (by decide) rfl (by decide +kernel) (fun _ _ _ => rfl) (fun _ _ _ => rfl)
set_option maxHeartbeats 4000000 in
set_option maxRecDepth 100000 in
theorem c_init_1_67 {l : Launch} {D : va_G} {cA : Nat → ClassId} {d : Nat} (a sz : Nat) : CI l D cA (d + 2) 19 232 yX1_init cX1_init 1 a sz 67 1 20 h0 := by
  refine CI_of (ad := fun _ => 0) (h := h0) (own := RX1) (by decide +kernel) rfl rfl (by decide) ?_
  refine n_aload_n (pc := 0) 0 dX1_init_0 rfl rfl ?_
  refine n_objInit (pc := 1) (d := d + 1) (mc := 19) (ms := 232) dX1_init_1 wom145 wo_i wo_c rfl (Nat.le_of_ble_eq_true rfl) ?_
  refine n_aload_n (pc := 4) 0 dX1_init_4 rfl rfl ?_
  refine n_new3 (pc := 5) (d := d + 1) (MC := 19) (MS := 232) (b' := 68) rfl dX1_init_5 dX1_init_8 dX1_init_9 cls146 rfl siw148 (c_init_0_68 (d := d)) rfl (by decide) (Nat.le_of_ble_eq_true rfl) (Nat.le_of_ble_eq_true rfl) (Nat.le_of_ble_eq_true rfl) (by decide +kernel) (by decide +kernel) (fun ad68 => ?_)
  refine n_putF (pc := 12) (fs' := [.ref (ad68 68), .null, .int 0, .null]) dX1_init_12 fl193 fq1_0 rfl rfl (Nat.le_of_ble_eq_true rfl) rfl ?_
  refine n_aload_n (pc := 15) 0 dX1_init_15 rfl rfl ?_
  refine n_bipush (pc := 16) (v := 6) dX1_init_16 (by decide) ?_
  refine n_newaI (pc := 18) (k9 := 77) (N' := 6) rfl dX1_init_18 wa_int rfl rfl rfl (by decide +kernel) (by decide) rfl (by decide) (Nat.le_of_ble_eq_true rfl) (Nat.le_of_ble_eq_true rfl) (fun q77 => ?_)
  refine n_putF (pc := 20) (fs' := [.ref (ad68 68), .ref q77, .int 0, .null]) dX1_init_20 fl195 fq1_1 rfl rfl (Nat.le_of_ble_eq_true rfl) rfl ?_
  refine n_aload_n (pc := 23) 0 dX1_init_23 rfl rfl ?_
  refine n_new3 (pc := 24) (d := d + 1) (MC := 19) (MS := 232) (b' := 78) rfl dX1_init_24 dX1_init_27 dX1_init_28 cls146 rfl siw148 (c_init_0_78 (d := d)) rfl (by decide) (Nat.le_of_ble_eq_true rfl) (Nat.le_of_ble_eq_true rfl) (Nat.le_of_ble_eq_true rfl) (by decide +kernel) (by decide +kernel) (fun ad78 => ?_)
  refine n_putF (pc := 31) (fs' := [.ref (ad68 68), .ref q77, .int 0, .ref (ad78 78)]) dX1_init_31 fl200 fq1_3 rfl rfl (Nat.le_of_ble_eq_true rfl) rfl ?_
  exact n_ret (d := d) (v := fun _ => 0) (pc := 34) dX1_init_34 rfl rfl (by decide) rfl (by decide +kernel) (fun _ _ _ => rfl) (fun _ _ _ => rfl)
set_option maxHeartbeats 4000000 in
set_option maxRecDepth 100000 in
theorem c_init_2_56 {l : Launch} {D : va_G} {cA : Nat → ClassId} {d : Nat} (a sz : Nat) : CI l D cA (d + 3) 39 497 yX2_init cX2_init 1 a sz 56 2 40 h0 := by
  refine CI_of (ad := fun _ => 0) (h := h0) (own := RX2) (by decide +kernel) rfl rfl (by decide) ?_
  refine n_aload_n (pc := 0) 0 dX2_init_0 rfl rfl ?_
  refine n_objInit (pc := 1) (d := d + 2) (mc := 39) (ms := 497) dX2_init_1 wom215 wo_i wo_c rfl (Nat.le_of_ble_eq_true rfl) ?_
  refine n_aload_n (pc := 4) 0 dX2_init_4 rfl rfl ?_
  refine n_bipush (pc := 5) (v := 24) dX2_init_5 (by decide) ?_
  refine n_newaI (pc := 7) (k9 := 57) (N' := 24) rfl dX2_init_7 wa_int rfl rfl rfl (by decide +kernel) (by decide) rfl (by decide) (Nat.le_of_ble_eq_true rfl) (Nat.le_of_ble_eq_true rfl) (fun q57 => ?_)
  refine n_putF (pc := 9) (fs' := [.ref q57, .null, .null, .null, .int 0, .int 0]) dX2_init_9 fl263 fq2_0 rfl rfl (Nat.le_of_ble_eq_true rfl) rfl ?_
  refine n_aload_n (pc := 12) 0 dX2_init_12 rfl rfl ?_
  refine n_new3 (pc := 13) (d := d + 2) (MC := 39) (MS := 497) (b' := 58) rfl dX2_init_13 dX2_init_16 dX2_init_17 cls216 rfl siw218 (c_init_4_58 (d := d + 1)) rfl (by decide) (Nat.le_of_ble_eq_true rfl) (Nat.le_of_ble_eq_true rfl) (Nat.le_of_ble_eq_true rfl) (by decide +kernel) (by decide +kernel) (fun ad58 => ?_)
  refine n_putF (pc := 20) (fs' := [.ref q57, .ref (ad58 58), .null, .null, .int 0, .int 0]) dX2_init_20 fl265 fq2_1 rfl rfl (Nat.le_of_ble_eq_true rfl) rfl ?_
  refine n_aload_n (pc := 23) 0 dX2_init_23 rfl rfl ?_
  refine n_new3 (pc := 24) (d := d + 2) (MC := 39) (MS := 497) (b' := 67) rfl dX2_init_24 dX2_init_27 dX2_init_28 cls259 rfl siw260 (c_init_1_67 (d := d)) rfl (by decide) (Nat.le_of_ble_eq_true rfl) (Nat.le_of_ble_eq_true rfl) (Nat.le_of_ble_eq_true rfl) (by decide +kernel) (by decide +kernel) (fun ad67 => ?_)
  refine n_putF (pc := 31) (fs' := [.ref q57, .ref (ad58 58), .ref (ad67 67), .null, .int 0, .int 0]) dX2_init_31 fl267 fq2_2 rfl rfl (Nat.le_of_ble_eq_true rfl) rfl ?_
  refine n_aload_n (pc := 34) 0 dX2_init_34 rfl rfl ?_
  refine n_new3 (pc := 35) (d := d + 2) (MC := 39) (MS := 497) (b' := 87) rfl dX2_init_35 dX2_init_38 dX2_init_39 cls261 rfl siw262 (c_init_0_87 (d := d + 1)) rfl (by decide) (Nat.le_of_ble_eq_true rfl) (Nat.le_of_ble_eq_true rfl) (Nat.le_of_ble_eq_true rfl) (by decide +kernel) (by decide +kernel) (fun ad87 => ?_)
  refine n_putF (pc := 42) (fs' := [.ref q57, .ref (ad58 58), .ref (ad67 67), .ref (ad87 87), .int 0, .int 0]) dX2_init_42 fl268 fq2_3 rfl rfl (Nat.le_of_ble_eq_true rfl) rfl ?_
  refine n_aload_n (pc := 45) 0 dX2_init_45 rfl rfl ?_
  refine n_iconst (pc := 46) (v := 1) dX2_init_46 (by decide) ?_
  refine n_put (pc := 47) (fs' := [.ref q57, .ref (ad58 58), .ref (ad67 67), .ref (ad87 87), .int (1), .int 0]) dX2_init_47 fl269 fq2_4 rfl rfl (Nat.le_of_ble_eq_true rfl) rfl ?_
  exact n_ret (d := d) (v := fun _ => 0) (pc := 50) dX2_init_50 rfl rfl (by decide) rfl (by decide +kernel) (fun _ _ _ => rfl) (fun _ _ _ => rfl)
