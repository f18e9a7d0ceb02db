theorem cr_in {ws : List Cond} (h : ws.all (fun w => decide (w ∈ lw_tbl) && goodWord w) = true) : ∀ w ∈ ws, w ∈ cr_T := fun w hw => by
  have h1 := List.all_eq_true.mp h w hw
  simp only [Bool.and_eq_true, decide_eq_true_eq] at h1
  exact cr_T_mem h1.1 h1.2
theorem mi_L : Cond.initialized RL ∈ cr_T := cr_T_mem (List.mem_of_getElem? (i := 55) (by decide +kernel)) (by decide +kernel)
theorem mi_X10 : Cond.initialized RX10 ∈ cr_T := cr_T_mem (List.mem_of_getElem? (i := 56) (by decide +kernel)) (by decide +kernel)
theorem mi_X9 : Cond.initialized RX9 ∈ cr_T := cr_T_mem (List.mem_of_getElem? (i := 57) (by decide +kernel)) (by decide +kernel)
theorem mi_X8 : Cond.initialized RX8 ∈ cr_T := cr_T_mem (List.mem_of_getElem? (i := 58) (by decide +kernel)) (by decide +kernel)
theorem mi_X2 : Cond.initialized RX2 ∈ cr_T := cr_T_mem (List.mem_of_getElem? (i := 59) (by decide +kernel)) (by decide +kernel)
theorem mi_X3 : Cond.initialized RX3 ∈ cr_T := cr_T_mem (List.mem_of_getElem? (i := 60) (by decide +kernel)) (by decide +kernel)
theorem mi_X6 : Cond.initialized RX6 ∈ cr_T := cr_T_mem (List.mem_of_getElem? (i := 61) (by decide +kernel)) (by decide +kernel)
theorem mi_X7 : Cond.initialized RX7 ∈ cr_T := cr_T_mem (List.mem_of_getElem? (i := 62) (by decide +kernel)) (by decide +kernel)
theorem mi_X0 : Cond.initialized RX0 ∈ cr_T := cr_T_mem (List.mem_of_getElem? (i := 63) (by decide +kernel)) (by decide +kernel)
theorem mi_X5 : Cond.initialized RX5 ∈ cr_T := cr_T_mem (List.mem_of_getElem? (i := 64) (by decide +kernel)) (by decide +kernel)
theorem mi_X1 : Cond.initialized RX1 ∈ cr_T := cr_T_mem (List.mem_of_getElem? (i := 65) (by decide +kernel)) (by decide +kernel)
theorem mi_X4 : Cond.initialized RX4 ∈ cr_T := cr_T_mem (List.mem_of_getElem? (i := 66) (by decide +kernel)) (by decide +kernel)
theorem mi_X11 : Cond.initialized RX11 ∈ cr_T := cr_T_mem (List.mem_of_getElem? (i := 67) (by decide +kernel)) (by decide +kernel)
theorem mi_J0 : Cond.initialized RJ0 ∈ cr_T := cr_T_mem (List.mem_of_getElem? (i := 68) (by decide +kernel)) (by decide +kernel)
theorem mi_J1 : Cond.initialized RJ1 ∈ cr_T := cr_T_mem (List.mem_of_getElem? (i := 69) (by decide +kernel)) (by decide +kernel)
theorem mi_J9 : Cond.initialized RJ9 ∈ cr_T := cr_T_mem (List.mem_of_getElem? (i := 70) (by decide +kernel)) (by decide +kernel)
theorem mi_J2 : Cond.initialized RJ2 ∈ cr_T := cr_T_mem (List.mem_of_getElem? (i := 71) (by decide +kernel)) (by decide +kernel)
theorem mi_J3 : Cond.initialized RJ3 ∈ cr_T := cr_T_mem (List.mem_of_getElem? (i := 72) (by decide +kernel)) (by decide +kernel)
theorem mi_J11 : Cond.initialized RJ11 ∈ cr_T := cr_T_mem (List.mem_of_getElem? (i := 73) (by decide +kernel)) (by decide +kernel)
theorem mi_J7 : Cond.initialized RJ7 ∈ cr_T := cr_T_mem (List.mem_of_getElem? (i := 74) (by decide +kernel)) (by decide +kernel)
theorem mi_J6 : Cond.initialized RJ6 ∈ cr_T := cr_T_mem (List.mem_of_getElem? (i := 75) (by decide +kernel)) (by decide +kernel)
theorem mi_J10 : Cond.initialized RJ10 ∈ cr_T := cr_T_mem (List.mem_of_getElem? (i := 76) (by decide +kernel)) (by decide +kernel)
theorem iX0 : ∀ w ∈ u_ws RX0 TX0 6, w ∈ cr_T := cr_in (by decide +kernel)
theorem iX1 : ∀ w ∈ u_ws RX1 TX1 6, w ∈ cr_T := cr_in (by decide +kernel)
theorem iX2 : ∀ w ∈ u_ws RX2 TX2 3, w ∈ cr_T := cr_in (by decide +kernel)
theorem iX3 : ∀ w ∈ u_ws RX3 TX3 5, w ∈ cr_T := cr_in (by decide +kernel)
theorem iX4 : ∀ w ∈ u_ws RX4 TX4 4, w ∈ cr_T := cr_in (by decide +kernel)
theorem iX5 : ∀ w ∈ u_ws RX5 TX5 5, w ∈ cr_T := cr_in (by decide +kernel)
theorem iX6 : ∀ w ∈ u_ws RX6 TX6 3, w ∈ cr_T := cr_in (by decide +kernel)
theorem iX7 : ∀ w ∈ u_ws RX7 TX7 7, w ∈ cr_T := cr_in (by decide +kernel)
theorem iX8 : ∀ w ∈ u_ws RX8 TX8 4, w ∈ cr_T := cr_in (by decide +kernel)
theorem iX9 : ∀ w ∈ u_ws RX9 TX9 9, w ∈ cr_T := cr_in (by decide +kernel)
theorem iX10 : ∀ w ∈ u_ws RX10 TX10 8, w ∈ cr_T := cr_in (by decide +kernel)
theorem iX11 : ∀ w ∈ u_ws RX11 TX11 34, w ∈ cr_T := cr_in (by decide +kernel)
theorem mf_X8_15 : Cond.fieldLink RX8 15 "ClashRocks$Voyage" "clock" "I" ∈ cr_T := cr_T_mem (List.mem_of_getElem? (i := 101) (by decide +kernel)) (by decide +kernel)
theorem mf_X10_153 : Cond.fieldLink RX10 153 "ClashRocks$Voyage" "clock" "I" ∈ cr_T := cr_T_mem (List.mem_of_getElem? (i := 102) (by decide +kernel)) (by decide +kernel)
theorem mf_X8_9 : Cond.fieldLink RX8 9 "ClashRocks$Voyage" "out" "I" ∈ cr_T := cr_T_mem (List.mem_of_getElem? (i := 103) (by decide +kernel)) (by decide +kernel)
theorem mf_X10_158 : Cond.fieldLink RX10 158 "ClashRocks$Voyage" "out" "I" ∈ cr_T := cr_T_mem (List.mem_of_getElem? (i := 104) (by decide +kernel)) (by decide +kernel)
theorem mf_X8_18 : Cond.fieldLink RX8 18 "ClashRocks$Voyage" "passed" "I" ∈ cr_T := cr_T_mem (List.mem_of_getElem? (i := 105) (by decide +kernel)) (by decide +kernel)
theorem mf_X10_161 : Cond.fieldLink RX10 161 "ClashRocks$Voyage" "passed" "I" ∈ cr_T := cr_T_mem (List.mem_of_getElem? (i := 106) (by decide +kernel)) (by decide +kernel)
theorem mf_X8_21 : Cond.fieldLink RX8 21 "ClashRocks$Voyage" "scrapes" "I" ∈ cr_T := cr_T_mem (List.mem_of_getElem? (i := 107) (by decide +kernel)) (by decide +kernel)
theorem mf_X10_164 : Cond.fieldLink RX10 164 "ClashRocks$Voyage" "scrapes" "I" ∈ cr_T := cr_T_mem (List.mem_of_getElem? (i := 108) (by decide +kernel)) (by decide +kernel)
theorem mf_X2_9 : Cond.fieldLink RX2 9 "ClashRocks$Looks" "seconds" "[I" ∈ cr_T := cr_T_mem (List.mem_of_getElem? (i := 125) (by decide +kernel)) (by decide +kernel)
theorem mf_X1_50 : Cond.fieldLink RX1 50 "ClashRocks$Looks" "seconds" "[I" ∈ cr_T := cr_T_mem (List.mem_of_getElem? (i := 126) (by decide +kernel)) (by decide +kernel)
theorem mf_X2_15 : Cond.fieldLink RX2 15 "ClashRocks$Looks" "seen" "[I" ∈ cr_T := cr_T_mem (List.mem_of_getElem? (i := 127) (by decide +kernel)) (by decide +kernel)
theorem mf_X1_53 : Cond.fieldLink RX1 53 "ClashRocks$Looks" "seen" "[I" ∈ cr_T := cr_T_mem (List.mem_of_getElem? (i := 128) (by decide +kernel)) (by decide +kernel)
theorem mf_X2_18 : Cond.fieldLink RX2 18 "ClashRocks$Looks" "size" "I" ∈ cr_T := cr_T_mem (List.mem_of_getElem? (i := 129) (by decide +kernel)) (by decide +kernel)
theorem mf_X1_45 : Cond.fieldLink RX1 45 "ClashRocks$Looks" "size" "I" ∈ cr_T := cr_T_mem (List.mem_of_getElem? (i := 130) (by decide +kernel)) (by decide +kernel)
theorem mf_X10_174 : Cond.fieldLink RX10 174 "ClashRocks$Looks" "size" "I" ∈ cr_T := cr_T_mem (List.mem_of_getElem? (i := 131) (by decide +kernel)) (by decide +kernel)
theorem mf_X3_21 : Cond.fieldLink RX3 21 "ClashRocks$Pair" "kind" "I" ∈ cr_T := cr_T_mem (List.mem_of_getElem? (i := 145) (by decide +kernel)) (by decide +kernel)
theorem mf_X10_94 : Cond.fieldLink RX10 94 "ClashRocks$Pair" "kind" "I" ∈ cr_T := cr_T_mem (List.mem_of_getElem? (i := 146) (by decide +kernel)) (by decide +kernel)
theorem mf_X3_9 : Cond.fieldLink RX3 9 "ClashRocks$Pair" "reach" "I" ∈ cr_T := cr_T_mem (List.mem_of_getElem? (i := 147) (by decide +kernel)) (by decide +kernel)
theorem mf_X0_25 : Cond.fieldLink RX0 25 "ClashRocks$Pair" "reach" "I" ∈ cr_T := cr_T_mem (List.mem_of_getElem? (i := 148) (by decide +kernel)) (by decide +kernel)
theorem mf_X5_58 : Cond.fieldLink RX5 58 "ClashRocks$Pair" "reach" "I" ∈ cr_T := cr_T_mem (List.mem_of_getElem? (i := 149) (by decide +kernel)) (by decide +kernel)
theorem mf_X10_97 : Cond.fieldLink RX10 97 "ClashRocks$Pair" "reach" "I" ∈ cr_T := cr_T_mem (List.mem_of_getElem? (i := 150) (by decide +kernel)) (by decide +kernel)
theorem mf_X3_15 : Cond.fieldLink RX3 15 "ClashRocks$Pair" "beat" "I" ∈ cr_T := cr_T_mem (List.mem_of_getElem? (i := 151) (by decide +kernel)) (by decide +kernel)
theorem mf_X10_76 : Cond.fieldLink RX10 76 "ClashRocks$Pair" "beat" "I" ∈ cr_T := cr_T_mem (List.mem_of_getElem? (i := 152) (by decide +kernel)) (by decide +kernel)
theorem mf_X0_85 : Cond.fieldLink RX0 85 "ClashRocks$Pair" "beat" "I" ∈ cr_T := cr_T_mem (List.mem_of_getElem? (i := 153) (by decide +kernel)) (by decide +kernel)
theorem mf_X3_18 : Cond.fieldLink RX3 18 "ClashRocks$Pair" "opening" "I" ∈ cr_T := cr_T_mem (List.mem_of_getElem? (i := 154) (by decide +kernel)) (by decide +kernel)
theorem mf_X10_100 : Cond.fieldLink RX10 100 "ClashRocks$Pair" "opening" "I" ∈ cr_T := cr_T_mem (List.mem_of_getElem? (i := 155) (by decide +kernel)) (by decide +kernel)
theorem mf_X3_24 : Cond.fieldLink RX3 24 "ClashRocks$Pair" "phase" "I" ∈ cr_T := cr_T_mem (List.mem_of_getElem? (i := 156) (by decide +kernel)) (by decide +kernel)
theorem mf_X0_40 : Cond.fieldLink RX0 40 "ClashRocks$Pair" "phase" "I" ∈ cr_T := cr_T_mem (List.mem_of_getElem? (i := 157) (by decide +kernel)) (by decide +kernel)
theorem mf_X10_79 : Cond.fieldLink RX10 79 "ClashRocks$Pair" "phase" "I" ∈ cr_T := cr_T_mem (List.mem_of_getElem? (i := 158) (by decide +kernel)) (by decide +kernel)
theorem mf_X7_76 : Cond.fieldLink RX7 76 "ClashRocks$Pair" "phase" "I" ∈ cr_T := cr_T_mem (List.mem_of_getElem? (i := 159) (by decide +kernel)) (by decide +kernel)
theorem mf_X6_16 : Cond.fieldLink RX6 16 "ClashRocks$Ship" "kind" "I" ∈ cr_T := cr_T_mem (List.mem_of_getElem? (i := 176) (by decide +kernel)) (by decide +kernel)
theorem mf_X10_106 : Cond.fieldLink RX10 106 "ClashRocks$Ship" "kind" "I" ∈ cr_T := cr_T_mem (List.mem_of_getElem? (i := 177) (by decide +kernel)) (by decide +kernel)
theorem mf_X6_7 : Cond.fieldLink RX6 7 "ClashRocks$Ship" "length" "I" ∈ cr_T := cr_T_mem (List.mem_of_getElem? (i := 178) (by decide +kernel)) (by decide +kernel)
theorem mf_X10_107 : Cond.fieldLink RX10 107 "ClashRocks$Ship" "length" "I" ∈ cr_T := cr_T_mem (List.mem_of_getElem? (i := 179) (by decide +kernel)) (by decide +kernel)
theorem mf_X6_13 : Cond.fieldLink RX6 13 "ClashRocks$Ship" "speed" "I" ∈ cr_T := cr_T_mem (List.mem_of_getElem? (i := 180) (by decide +kernel)) (by decide +kernel)
theorem mf_X10_110 : Cond.fieldLink RX10 110 "ClashRocks$Ship" "speed" "I" ∈ cr_T := cr_T_mem (List.mem_of_getElem? (i := 181) (by decide +kernel)) (by decide +kernel)
theorem mf_X9_11 : Cond.fieldLink RX9 11 "ClashRocks$Waters" "pairs" "[LClashRocks$Pair;" ∈ cr_T := cr_T_mem (List.mem_of_getElem? (i := 189) (by decide +kernel)) (by decide +kernel)
theorem mf_X5_29 : Cond.fieldLink RX5 29 "ClashRocks$Waters" "pairs" "[LClashRocks$Pair;" ∈ cr_T := cr_T_mem (List.mem_of_getElem? (i := 190) (by decide +kernel)) (by decide +kernel)
theorem mf_X10_62 : Cond.fieldLink RX10 62 "ClashRocks$Waters" "pairs" "[LClashRocks$Pair;" ∈ cr_T := cr_T_mem (List.mem_of_getElem? (i := 191) (by decide +kernel)) (by decide +kernel)
theorem mf_X0_58 : Cond.fieldLink RX0 58 "ClashRocks$Waters" "pairs" "[LClashRocks$Pair;" ∈ cr_T := cr_T_mem (List.mem_of_getElem? (i := 192) (by decide +kernel)) (by decide +kernel)
theorem mf_X9_19 : Cond.fieldLink RX9 19 "ClashRocks$Waters" "ships" "[LClashRocks$Ship;" ∈ cr_T := cr_T_mem (List.mem_of_getElem? (i := 193) (by decide +kernel)) (by decide +kernel)
theorem mf_X10_85 : Cond.fieldLink RX10 85 "ClashRocks$Waters" "ships" "[LClashRocks$Ship;" ∈ cr_T := cr_T_mem (List.mem_of_getElem? (i := 194) (by decide +kernel)) (by decide +kernel)
theorem mf_X9_26 : Cond.fieldLink RX9 26 "ClashRocks$Waters" "now" "LClashRocks$Voyage;" ∈ cr_T := cr_T_mem (List.mem_of_getElem? (i := 195) (by decide +kernel)) (by decide +kernel)
theorem mf_X10_149 : Cond.fieldLink RX10 149 "ClashRocks$Waters" "now" "LClashRocks$Voyage;" ∈ cr_T := cr_T_mem (List.mem_of_getElem? (i := 196) (by decide +kernel)) (by decide +kernel)
theorem mf_X9_30 : Cond.fieldLink RX9 30 "ClashRocks$Waters" "past" "[LClashRocks$Voyage;" ∈ cr_T := cr_T_mem (List.mem_of_getElem? (i := 197) (by decide +kernel)) (by decide +kernel)
theorem mf_X9_37 : Cond.fieldLink RX9 37 "ClashRocks$Waters" "looks" "LClashRocks$Looks;" ∈ cr_T := cr_T_mem (List.mem_of_getElem? (i := 198) (by decide +kernel)) (by decide +kernel)
theorem mf_X10_170 : Cond.fieldLink RX10 170 "ClashRocks$Waters" "looks" "LClashRocks$Looks;" ∈ cr_T := cr_T_mem (List.mem_of_getElem? (i := 199) (by decide +kernel)) (by decide +kernel)
theorem mf_X5_23 : Cond.fieldLink RX5 23 "ClashRocks$Waters" "pairCount" "I" ∈ cr_T := cr_T_mem (List.mem_of_getElem? (i := 200) (by decide +kernel)) (by decide +kernel)
theorem mf_X9_47 : Cond.fieldLink RX9 47 "ClashRocks$Waters" "pairCount" "I" ∈ cr_T := cr_T_mem (List.mem_of_getElem? (i := 201) (by decide +kernel)) (by decide +kernel)
theorem mf_X10_58 : Cond.fieldLink RX10 58 "ClashRocks$Waters" "pairCount" "I" ∈ cr_T := cr_T_mem (List.mem_of_getElem? (i := 202) (by decide +kernel)) (by decide +kernel)
theorem mf_X0_53 : Cond.fieldLink RX0 53 "ClashRocks$Waters" "pairCount" "I" ∈ cr_T := cr_T_mem (List.mem_of_getElem? (i := 203) (by decide +kernel)) (by decide +kernel)
theorem mf_X9_50 : Cond.fieldLink RX9 50 "ClashRocks$Waters" "shipCount" "I" ∈ cr_T := cr_T_mem (List.mem_of_getElem? (i := 204) (by decide +kernel)) (by decide +kernel)
theorem mf_X10_82 : Cond.fieldLink RX10 82 "ClashRocks$Waters" "shipCount" "I" ∈ cr_T := cr_T_mem (List.mem_of_getElem? (i := 205) (by decide +kernel)) (by decide +kernel)
theorem mf_X9_61 : Cond.fieldLink RX9 61 "ClashRocks$Waters" "pastCount" "I" ∈ cr_T := cr_T_mem (List.mem_of_getElem? (i := 206) (by decide +kernel)) (by decide +kernel)
theorem mf_X10_167 : Cond.fieldLink RX10 167 "ClashRocks$Waters" "pastCount" "I" ∈ cr_T := cr_T_mem (List.mem_of_getElem? (i := 207) (by decide +kernel)) (by decide +kernel)
theorem mf_X9_41 : Cond.fieldLink RX9 41 "ClashRocks$Waters" "draw" "I" ∈ cr_T := cr_T_mem (List.mem_of_getElem? (i := 208) (by decide +kernel)) (by decide +kernel)
theorem mf_X10_194 : Cond.fieldLink RX10 194 "ClashRocks$Waters" "draw" "I" ∈ cr_T := cr_T_mem (List.mem_of_getElem? (i := 209) (by decide +kernel)) (by decide +kernel)
theorem mf_X7_9 : Cond.fieldLink RX7 9 "ClashRocks$Tape" "letters" "[C" ∈ cr_T := cr_T_mem (List.mem_of_getElem? (i := 239) (by decide +kernel)) (by decide +kernel)
theorem mf_X7_17 : Cond.fieldLink RX7 17 "ClashRocks$Tape" "pairs" "[LClashRocks$Pair;" ∈ cr_T := cr_T_mem (List.mem_of_getElem? (i := 240) (by decide +kernel)) (by decide +kernel)
theorem mf_X9_67 : Cond.fieldLink RX9 67 "ClashRocks$Tape" "pairs" "[LClashRocks$Pair;" ∈ cr_T := cr_T_mem (List.mem_of_getElem? (i := 241) (by decide +kernel)) (by decide +kernel)
theorem mf_X7_23 : Cond.fieldLink RX7 23 "ClashRocks$Tape" "ships" "[LClashRocks$Ship;" ∈ cr_T := cr_T_mem (List.mem_of_getElem? (i := 242) (by decide +kernel)) (by decide +kernel)
theorem mf_X9_71 : Cond.fieldLink RX9 71 "ClashRocks$Tape" "ships" "[LClashRocks$Ship;" ∈ cr_T := cr_T_mem (List.mem_of_getElem? (i := 243) (by decide +kernel)) (by decide +kernel)
theorem mf_X7_29 : Cond.fieldLink RX7 29 "ClashRocks$Tape" "size" "I" ∈ cr_T := cr_T_mem (List.mem_of_getElem? (i := 244) (by decide +kernel)) (by decide +kernel)
theorem mf_X10_135 : Cond.fieldLink RX10 135 "ClashRocks$Tape" "size" "I" ∈ cr_T := cr_T_mem (List.mem_of_getElem? (i := 245) (by decide +kernel)) (by decide +kernel)
theorem mf_X9_70 : Cond.fieldLink RX9 70 "ClashRocks$Tape" "pairCount" "I" ∈ cr_T := cr_T_mem (List.mem_of_getElem? (i := 246) (by decide +kernel)) (by decide +kernel)
theorem mf_X7_36 : Cond.fieldLink RX7 36 "ClashRocks$Tape" "pairCount" "I" ∈ cr_T := cr_T_mem (List.mem_of_getElem? (i := 247) (by decide +kernel)) (by decide +kernel)
theorem mf_X7_39 : Cond.fieldLink RX7 39 "ClashRocks$Tape" "shipCount" "I" ∈ cr_T := cr_T_mem (List.mem_of_getElem? (i := 248) (by decide +kernel)) (by decide +kernel)
theorem mf_X9_72 : Cond.fieldLink RX9 72 "ClashRocks$Tape" "shipCount" "I" ∈ cr_T := cr_T_mem (List.mem_of_getElem? (i := 249) (by decide +kernel)) (by decide +kernel)
theorem mf_X7_33 : Cond.fieldLink RX7 33 "ClashRocks$Tape" "place" "I" ∈ cr_T := cr_T_mem (List.mem_of_getElem? (i := 250) (by decide +kernel)) (by decide +kernel)
theorem mf_X10_142 : Cond.fieldLink RX10 142 "ClashRocks$Tape" "place" "I" ∈ cr_T := cr_T_mem (List.mem_of_getElem? (i := 251) (by decide +kernel)) (by decide +kernel)
theorem mf_X0_9 : Cond.fieldLink RX0 9 "ClashRocks$Course" "paces" "[I" ∈ cr_T := cr_T_mem (List.mem_of_getElem? (i := 274) (by decide +kernel)) (by decide +kernel)
theorem mf_X10_299 : Cond.fieldLink RX10 299 "ClashRocks$Course" "paces" "[I" ∈ cr_T := cr_T_mem (List.mem_of_getElem? (i := 275) (by decide +kernel)) (by decide +kernel)
theorem mf_X0_15 : Cond.fieldLink RX0 15 "ClashRocks$Course" "comes" "[I" ∈ cr_T := cr_T_mem (List.mem_of_getElem? (i := 276) (by decide +kernel)) (by decide +kernel)
theorem mf_X0_18 : Cond.fieldLink RX0 18 "ClashRocks$Course" "leaves" "[I" ∈ cr_T := cr_T_mem (List.mem_of_getElem? (i := 277) (by decide +kernel)) (by decide +kernel)
theorem mf_X0_21 : Cond.fieldLink RX0 21 "ClashRocks$Course" "crusher" "I" ∈ cr_T := cr_T_mem (List.mem_of_getElem? (i := 278) (by decide +kernel)) (by decide +kernel)
theorem mf_X10_207 : Cond.fieldLink RX10 207 "ClashRocks$Course" "crusher" "I" ∈ cr_T := cr_T_mem (List.mem_of_getElem? (i := 279) (by decide +kernel)) (by decide +kernel)
theorem mf_X0_50 : Cond.fieldLink RX0 50 "ClashRocks$Course" "scrapes" "I" ∈ cr_T := cr_T_mem (List.mem_of_getElem? (i := 280) (by decide +kernel)) (by decide +kernel)
theorem mf_X10_255 : Cond.fieldLink RX10 255 "ClashRocks$Course" "scrapes" "I" ∈ cr_T := cr_T_mem (List.mem_of_getElem? (i := 281) (by decide +kernel)) (by decide +kernel)
theorem mf_X0_47 : Cond.fieldLink RX0 47 "ClashRocks$Course" "second" "I" ∈ cr_T := cr_T_mem (List.mem_of_getElem? (i := 282) (by decide +kernel)) (by decide +kernel)
theorem mf_X10_188 : Cond.fieldLink RX10 188 "ClashRocks$Course" "second" "I" ∈ cr_T := cr_T_mem (List.mem_of_getElem? (i := 283) (by decide +kernel)) (by decide +kernel)
theorem mf_X5_11 : Cond.fieldLink RX5 11 "ClashRocks$Search" "ends" "[[I" ∈ cr_T := cr_T_mem (List.mem_of_getElem? (i := 305) (by decide +kernel)) (by decide +kernel)
theorem mf_X5_16 : Cond.fieldLink RX5 16 "ClashRocks$Search" "openFor" "[I" ∈ cr_T := cr_T_mem (List.mem_of_getElem? (i := 306) (by decide +kernel)) (by decide +kernel)
theorem mf_X5_20 : Cond.fieldLink RX5 20 "ClashRocks$Search" "paces" "[I" ∈ cr_T := cr_T_mem (List.mem_of_getElem? (i := 307) (by decide +kernel)) (by decide +kernel)
theorem mf_X10_224 : Cond.fieldLink RX10 224 "ClashRocks$Search" "paces" "[I" ∈ cr_T := cr_T_mem (List.mem_of_getElem? (i := 308) (by decide +kernel)) (by decide +kernel)
theorem mf_X5_45 : Cond.fieldLink RX5 45 "ClashRocks$Search" "begin" "I" ∈ cr_T := cr_T_mem (List.mem_of_getElem? (i := 309) (by decide +kernel)) (by decide +kernel)
theorem mf_X10_222 : Cond.fieldLink RX10 222 "ClashRocks$Search" "begin" "I" ∈ cr_T := cr_T_mem (List.mem_of_getElem? (i := 310) (by decide +kernel)) (by decide +kernel)
theorem mf_X5_42 : Cond.fieldLink RX5 42 "ClashRocks$Search" "end" "I" ∈ cr_T := cr_T_mem (List.mem_of_getElem? (i := 311) (by decide +kernel)) (by decide +kernel)
theorem mf_X10_218 : Cond.fieldLink RX10 218 "ClashRocks$Search" "end" "I" ∈ cr_T := cr_T_mem (List.mem_of_getElem? (i := 312) (by decide +kernel)) (by decide +kernel)
theorem mf_X1_9 : Cond.fieldLink RX1 9 "ClashRocks$Guess" "openBy" "[I" ∈ cr_T := cr_T_mem (List.mem_of_getElem? (i := 330) (by decide +kernel)) (by decide +kernel)
theorem mf_X1_15 : Cond.fieldLink RX1 15 "ClashRocks$Guess" "openIn" "[I" ∈ cr_T := cr_T_mem (List.mem_of_getElem? (i := 331) (by decide +kernel)) (by decide +kernel)
theorem mf_X10_275 : Cond.fieldLink RX10 275 "ClashRocks$Guess" "openIn" "[I" ∈ cr_T := cr_T_mem (List.mem_of_getElem? (i := 332) (by decide +kernel)) (by decide +kernel)
theorem mf_X1_18 : Cond.fieldLink RX1 18 "ClashRocks$Guess" "total" "I" ∈ cr_T := cr_T_mem (List.mem_of_getElem? (i := 333) (by decide +kernel)) (by decide +kernel)
theorem mf_X10_269 : Cond.fieldLink RX10 269 "ClashRocks$Guess" "total" "I" ∈ cr_T := cr_T_mem (List.mem_of_getElem? (i := 334) (by decide +kernel)) (by decide +kernel)
theorem mf_X1_22 : Cond.fieldLink RX1 22 "ClashRocks$Guess" "first" "I" ∈ cr_T := cr_T_mem (List.mem_of_getElem? (i := 335) (by decide +kernel)) (by decide +kernel)
theorem mf_X10_272 : Cond.fieldLink RX10 272 "ClashRocks$Guess" "first" "I" ∈ cr_T := cr_T_mem (List.mem_of_getElem? (i := 336) (by decide +kernel)) (by decide +kernel)
theorem mf_X1_39 : Cond.fieldLink RX1 39 "ClashRocks$Guess" "seenOpen" "I" ∈ cr_T := cr_T_mem (List.mem_of_getElem? (i := 337) (by decide +kernel)) (by decide +kernel)
theorem mf_X1_42 : Cond.fieldLink RX1 42 "ClashRocks$Guess" "seenShut" "I" ∈ cr_T := cr_T_mem (List.mem_of_getElem? (i := 338) (by decide +kernel)) (by decide +kernel)
theorem mf_X4_9 : Cond.fieldLink RX4 9 "ClashRocks$Row" "items" "[J" ∈ cr_T := cr_T_mem (List.mem_of_getElem? (i := 359) (by decide +kernel)) (by decide +kernel)
theorem mf_X10_295 : Cond.fieldLink RX10 295 "ClashRocks$Row" "items" "[J" ∈ cr_T := cr_T_mem (List.mem_of_getElem? (i := 360) (by decide +kernel)) (by decide +kernel)
theorem mf_X4_15 : Cond.fieldLink RX4 15 "ClashRocks$Row" "isHeld" "Z" ∈ cr_T := cr_T_mem (List.mem_of_getElem? (i := 361) (by decide +kernel)) (by decide +kernel)
theorem mf_X10_305 : Cond.fieldLink RX10 305 "ClashRocks$Row" "isHeld" "Z" ∈ cr_T := cr_T_mem (List.mem_of_getElem? (i := 362) (by decide +kernel)) (by decide +kernel)
theorem mf_X4_19 : Cond.fieldLink RX4 19 "ClashRocks$Row" "lane" "I" ∈ cr_T := cr_T_mem (List.mem_of_getElem? (i := 363) (by decide +kernel)) (by decide +kernel)
theorem mf_X10_313 : Cond.fieldLink RX10 313 "ClashRocks$Row" "lane" "I" ∈ cr_T := cr_T_mem (List.mem_of_getElem? (i := 364) (by decide +kernel)) (by decide +kernel)
theorem mf_X4_23 : Cond.fieldLink RX4 23 "ClashRocks$Row" "length" "I" ∈ cr_T := cr_T_mem (List.mem_of_getElem? (i := 365) (by decide +kernel)) (by decide +kernel)
theorem mf_X10_308 : Cond.fieldLink RX10 308 "ClashRocks$Row" "length" "I" ∈ cr_T := cr_T_mem (List.mem_of_getElem? (i := 366) (by decide +kernel)) (by decide +kernel)
theorem mf_X10_12 : Cond.fieldLink RX10 12 "ClashRocks" "waters" "LClashRocks$Waters;" ∈ cr_T := cr_T_mem (List.mem_of_getElem? (i := 377) (by decide +kernel)) (by decide +kernel)
theorem mf_X10_16 : Cond.fieldLink RX10 16 "ClashRocks" "kept" "LClashRocks$Waters;" ∈ cr_T := cr_T_mem (List.mem_of_getElem? (i := 378) (by decide +kernel)) (by decide +kernel)
theorem mf_X10_285 : Cond.fieldLink RX10 285 "ClashRocks" "isKept" "Z" ∈ cr_T := cr_T_mem (List.mem_of_getElem? (i := 379) (by decide +kernel)) (by decide +kernel)
theorem mf_X10_22 : Cond.fieldLink RX10 22 "ClashRocks" "tape" "LClashRocks$Tape;" ∈ cr_T := cr_T_mem (List.mem_of_getElem? (i := 380) (by decide +kernel)) (by decide +kernel)
theorem mf_X10_29 : Cond.fieldLink RX10 29 "ClashRocks" "course" "LClashRocks$Course;" ∈ cr_T := cr_T_mem (List.mem_of_getElem? (i := 381) (by decide +kernel)) (by decide +kernel)
theorem mf_X10_36 : Cond.fieldLink RX10 36 "ClashRocks" "search" "LClashRocks$Search;" ∈ cr_T := cr_T_mem (List.mem_of_getElem? (i := 382) (by decide +kernel)) (by decide +kernel)
theorem mf_X10_43 : Cond.fieldLink RX10 43 "ClashRocks" "guess" "LClashRocks$Guess;" ∈ cr_T := cr_T_mem (List.mem_of_getElem? (i := 383) (by decide +kernel)) (by decide +kernel)
theorem mf_X10_49 : Cond.fieldLink RX10 49 "ClashRocks" "rows" "[LClashRocks$Row;" ∈ cr_T := cr_T_mem (List.mem_of_getElem? (i := 384) (by decide +kernel)) (by decide +kernel)
theorem mf_J0_38 : Cond.fieldLink RJ0 38 "java/lang/String" "COMPACT_STRINGS" "Z" ∈ cr_T := cr_T_mem (List.mem_of_getElem? (i := 515) (by decide +kernel)) (by decide +kernel)
theorem mf_J0_1053 : Cond.fieldLink RJ0 1053 "jdk/internal/util/Preconditions" "SIOOBE_FORMATTER" "Ljava/util/function/BiFunction;" ∈ cr_T := cr_T_mem (List.mem_of_getElem? (i := 558) (by decide +kernel)) (by decide +kernel)
theorem mf_J2_44 : Cond.fieldLink RJ2 44 "java/lang/StringUTF16" "$assertionsDisabled" "Z" ∈ cr_T := cr_T_mem (List.mem_of_getElem? (i := 569) (by decide +kernel)) (by decide +kernel)
theorem mf_J2_59 : Cond.fieldLink RJ2 59 "java/lang/StringUTF16" "HI_BYTE_SHIFT" "I" ∈ cr_T := cr_T_mem (List.mem_of_getElem? (i := 571) (by decide +kernel)) (by decide +kernel)
theorem mf_J2_63 : Cond.fieldLink RJ2 63 "java/lang/StringUTF16" "LO_BYTE_SHIFT" "I" ∈ cr_T := cr_T_mem (List.mem_of_getElem? (i := 573) (by decide +kernel)) (by decide +kernel)
theorem mf_X11_63 : Cond.fieldLink RX11 63 "ClashRocksModel" "pairs" "I" ∈ cr_T := cr_T_mem (List.mem_of_getElem? (i := 942) (by decide +kernel)) (by decide +kernel)
theorem mf_X11_70 : Cond.fieldLink RX11 70 "ClashRocksModel" "ships" "I" ∈ cr_T := cr_T_mem (List.mem_of_getElem? (i := 943) (by decide +kernel)) (by decide +kernel)
theorem mf_X11_7 : Cond.fieldLink RX11 7 "ClashRocksModel" "pair" "[I" ∈ cr_T := cr_T_mem (List.mem_of_getElem? (i := 944) (by decide +kernel)) (by decide +kernel)
theorem mf_X11_13 : Cond.fieldLink RX11 13 "ClashRocksModel" "ship" "[I" ∈ cr_T := cr_T_mem (List.mem_of_getElem? (i := 945) (by decide +kernel)) (by decide +kernel)
theorem mf_X11_16 : Cond.fieldLink RX11 16 "ClashRocksModel" "state" "[I" ∈ cr_T := cr_T_mem (List.mem_of_getElem? (i := 946) (by decide +kernel)) (by decide +kernel)
theorem mf_X11_19 : Cond.fieldLink RX11 19 "ClashRocksModel" "draw" "I" ∈ cr_T := cr_T_mem (List.mem_of_getElem? (i := 947) (by decide +kernel)) (by decide +kernel)
theorem mf_X11_127 : Cond.fieldLink RX11 127 "ClashRocksModel" "how" "I" ∈ cr_T := cr_T_mem (List.mem_of_getElem? (i := 948) (by decide +kernel)) (by decide +kernel)
theorem mf_X11_130 : Cond.fieldLink RX11 130 "ClashRocksModel" "behind" "I" ∈ cr_T := cr_T_mem (List.mem_of_getElem? (i := 949) (by decide +kernel)) (by decide +kernel)
theorem mf_X11_133 : Cond.fieldLink RX11 133 "ClashRocksModel" "crushes" "I" ∈ cr_T := cr_T_mem (List.mem_of_getElem? (i := 950) (by decide +kernel)) (by decide +kernel)
theorem mf_X11_136 : Cond.fieldLink RX11 136 "ClashRocksModel" "scraped" "I" ∈ cr_T := cr_T_mem (List.mem_of_getElem? (i := 951) (by decide +kernel)) (by decide +kernel)
theorem mf_X11_23 : Cond.fieldLink RX11 23 "ClashRocksModel" "paces" "[I" ∈ cr_T := cr_T_mem (List.mem_of_getElem? (i := 952) (by decide +kernel)) (by decide +kernel)
theorem mf_X11_26 : Cond.fieldLink RX11 26 "ClashRocksModel" "tape" "[I" ∈ cr_T := cr_T_mem (List.mem_of_getElem? (i := 953) (by decide +kernel)) (by decide +kernel)
theorem mf_X11_150 : Cond.fieldLink RX11 150 "ClashRocksModel" "taped" "I" ∈ cr_T := cr_T_mem (List.mem_of_getElem? (i := 954) (by decide +kernel)) (by decide +kernel)
theorem mf_X11_153 : Cond.fieldLink RX11 153 "ClashRocksModel" "at" "I" ∈ cr_T := cr_T_mem (List.mem_of_getElem? (i := 955) (by decide +kernel)) (by decide +kernel)
theorem mf_X11_156 : Cond.fieldLink RX11 156 "ClashRocksModel" "wrong" "Z" ∈ cr_T := cr_T_mem (List.mem_of_getElem? (i := 956) (by decide +kernel)) (by decide +kernel)
theorem mf_X11_29 : Cond.fieldLink RX11 29 "ClashRocksModel" "readPairs" "[I" ∈ cr_T := cr_T_mem (List.mem_of_getElem? (i := 957) (by decide +kernel)) (by decide +kernel)
theorem mf_X11_32 : Cond.fieldLink RX11 32 "ClashRocksModel" "readShips" "[I" ∈ cr_T := cr_T_mem (List.mem_of_getElem? (i := 958) (by decide +kernel)) (by decide +kernel)
theorem mf_X11_171 : Cond.fieldLink RX11 171 "ClashRocksModel" "manyPairs" "I" ∈ cr_T := cr_T_mem (List.mem_of_getElem? (i := 959) (by decide +kernel)) (by decide +kernel)
theorem mf_X11_185 : Cond.fieldLink RX11 185 "ClashRocksModel" "manyShips" "I" ∈ cr_T := cr_T_mem (List.mem_of_getElem? (i := 960) (by decide +kernel)) (by decide +kernel)
theorem mf_X11_35 : Cond.fieldLink RX11 35 "ClashRocksModel" "undone" "[I" ∈ cr_T := cr_T_mem (List.mem_of_getElem? (i := 961) (by decide +kernel)) (by decide +kernel)
theorem mf_X11_197 : Cond.fieldLink RX11 197 "ClashRocksModel" "undos" "I" ∈ cr_T := cr_T_mem (List.mem_of_getElem? (i := 962) (by decide +kernel)) (by decide +kernel)
theorem mf_X11_38 : Cond.fieldLink RX11 38 "ClashRocksModel" "ends" "[I" ∈ cr_T := cr_T_mem (List.mem_of_getElem? (i := 963) (by decide +kernel)) (by decide +kernel)
theorem mf_X11_200 : Cond.fieldLink RX11 200 "ClashRocksModel" "looks" "I" ∈ cr_T := cr_T_mem (List.mem_of_getElem? (i := 964) (by decide +kernel)) (by decide +kernel)
theorem mf_X11_41 : Cond.fieldLink RX11 41 "ClashRocksModel" "when" "[I" ∈ cr_T := cr_T_mem (List.mem_of_getElem? (i := 965) (by decide +kernel)) (by decide +kernel)
theorem mf_X11_44 : Cond.fieldLink RX11 44 "ClashRocksModel" "seen" "[I" ∈ cr_T := cr_T_mem (List.mem_of_getElem? (i := 966) (by decide +kernel)) (by decide +kernel)
theorem mf_X11_247 : Cond.fieldLink RX11 247 "ClashRocksModel" "fits" "I" ∈ cr_T := cr_T_mem (List.mem_of_getElem? (i := 967) (by decide +kernel)) (by decide +kernel)
theorem mf_X11_250 : Cond.fieldLink RX11 250 "ClashRocksModel" "first" "I" ∈ cr_T := cr_T_mem (List.mem_of_getElem? (i := 968) (by decide +kernel)) (by decide +kernel)
theorem mf_X11_253 : Cond.fieldLink RX11 253 "ClashRocksModel" "opens" "I" ∈ cr_T := cr_T_mem (List.mem_of_getElem? (i := 969) (by decide +kernel)) (by decide +kernel)
theorem mf_X11_47 : Cond.fieldLink RX11 47 "ClashRocksModel" "image" "[I" ∈ cr_T := cr_T_mem (List.mem_of_getElem? (i := 970) (by decide +kernel)) (by decide +kernel)
theorem mf_X11_266 : Cond.fieldLink RX11 266 "ClashRocksModel" "isImage" "Z" ∈ cr_T := cr_T_mem (List.mem_of_getElem? (i := 971) (by decide +kernel)) (by decide +kernel)
theorem mf_X11_50 : Cond.fieldLink RX11 50 "ClashRocksModel" "lanes" "[I" ∈ cr_T := cr_T_mem (List.mem_of_getElem? (i := 972) (by decide +kernel)) (by decide +kernel)
theorem mf_X11_53 : Cond.fieldLink RX11 53 "ClashRocksModel" "sizes" "[I" ∈ cr_T := cr_T_mem (List.mem_of_getElem? (i := 973) (by decide +kernel)) (by decide +kernel)
theorem mf_X11_56 : Cond.fieldLink RX11 56 "ClashRocksModel" "items" "[J" ∈ cr_T := cr_T_mem (List.mem_of_getElem? (i := 974) (by decide +kernel)) (by decide +kernel)
theorem mf_X11_60 : Cond.fieldLink RX11 60 "ClashRocksModel" "moved" "[J" ∈ cr_T := cr_T_mem (List.mem_of_getElem? (i := 975) (by decide +kernel)) (by decide +kernel)
theorem mf_J0_15 : Cond.fieldLink RJ0 15 "java/lang/String" "coder" "B" ∈ cr_T := cr_T_mem (List.mem_of_getElem? (i := 1360) (by decide +kernel)) (by decide +kernel)
theorem mf_J0_9 : Cond.fieldLink RJ0 9 "java/lang/String" "value" "[B" ∈ cr_T := cr_T_mem (List.mem_of_getElem? (i := 1361) (by decide +kernel)) (by decide +kernel)
theorem mm_L_9 : Cond.methodLink RL 9 yX10_init ∈ cr_T := cr_T_mem (List.mem_of_getElem? (i := 79) (by decide +kernel)) (by decide +kernel)
theorem mm_X10_11 : Cond.methodLink RX10 11 yX9_init ∈ cr_T := cr_T_mem (List.mem_of_getElem? (i := 87) (by decide +kernel)) (by decide +kernel)
theorem mm_X10_21 : Cond.methodLink RX10 21 yX7_init ∈ cr_T := cr_T_mem (List.mem_of_getElem? (i := 231) (by decide +kernel)) (by decide +kernel)
theorem mm_L_13 : Cond.methodLink RL 13 yX10_pair ∈ cr_T := cr_T_mem (List.mem_of_getElem? (i := 402) (by decide +kernel)) (by decide +kernel)
theorem mm_X10_54 : Cond.methodLink RX10 54 yX10_isWithin ∈ cr_T := cr_T_mem (List.mem_of_getElem? (i := 406) (by decide +kernel)) (by decide +kernel)
theorem mm_X10_66 : Cond.methodLink RX10 66 yX3_become ∈ cr_T := cr_T_mem (List.mem_of_getElem? (i := 409) (by decide +kernel)) (by decide +kernel)
theorem mm_L_18 : Cond.methodLink RL 18 yX10_phase ∈ cr_T := cr_T_mem (List.mem_of_getElem? (i := 413) (by decide +kernel)) (by decide +kernel)
theorem mm_X10_72 : Cond.methodLink RX10 72 yX10_isPair ∈ cr_T := cr_T_mem (List.mem_of_getElem? (i := 417) (by decide +kernel)) (by decide +kernel)
theorem mm_L_23 : Cond.methodLink RL 23 yX10_ship ∈ cr_T := cr_T_mem (List.mem_of_getElem? (i := 421) (by decide +kernel)) (by decide +kernel)
theorem mm_X10_89 : Cond.methodLink RX10 89 yX6_become ∈ cr_T := cr_T_mem (List.mem_of_getElem? (i := 425) (by decide +kernel)) (by decide +kernel)
theorem mm_L_28 : Cond.methodLink RL 28 yX10_of ∈ cr_T := cr_T_mem (List.mem_of_getElem? (i := 429) (by decide +kernel)) (by decide +kernel)
theorem mm_L_32 : Cond.methodLink RL 32 yX10_told ∈ cr_T := cr_T_mem (List.mem_of_getElem? (i := 433) (by decide +kernel)) (by decide +kernel)
theorem mm_X10_103 : Cond.methodLink RX10 103 yX10_isShip ∈ cr_T := cr_T_mem (List.mem_of_getElem? (i := 437) (by decide +kernel)) (by decide +kernel)
theorem mm_X10_113 : Cond.methodLink RX10 113 yX6_low ∈ cr_T := cr_T_mem (List.mem_of_getElem? (i := 441) (by decide +kernel)) (by decide +kernel)
theorem mm_X6_23 : Cond.methodLink RX6 23 yX6_high ∈ cr_T := cr_T_mem (List.mem_of_getElem? (i := 445) (by decide +kernel)) (by decide +kernel)
theorem mm_X10_117 : Cond.methodLink RX10 117 yX6_high ∈ cr_T := cr_T_mem (List.mem_of_getElem? (i := 449) (by decide +kernel)) (by decide +kernel)
theorem mm_X10_120 : Cond.methodLink RX10 120 yX6_span ∈ cr_T := cr_T_mem (List.mem_of_getElem? (i := 450) (by decide +kernel)) (by decide +kernel)
theorem mm_L_36 : Cond.methodLink RL 36 yX10_open ∈ cr_T := cr_T_mem (List.mem_of_getElem? (i := 454) (by decide +kernel)) (by decide +kernel)
theorem mm_X10_124 : Cond.methodLink RX10 124 yX3_isOpenNow ∈ cr_T := cr_T_mem (List.mem_of_getElem? (i := 459) (by decide +kernel)) (by decide +kernel)
theorem mm_X3_31 : Cond.methodLink RX3 31 yX3_isOpenAt ∈ cr_T := cr_T_mem (List.mem_of_getElem? (i := 463) (by decide +kernel)) (by decide +kernel)
theorem mm_X3_35 : Cond.methodLink RX3 35 yX3_isPlainOpen ∈ cr_T := cr_T_mem (List.mem_of_getElem? (i := 467) (by decide +kernel)) (by decide +kernel)
theorem mm_X10_127 : Cond.methodLink RX10 127 yX10_oneIf ∈ cr_T := cr_T_mem (List.mem_of_getElem? (i := 471) (by decide +kernel)) (by decide +kernel)
theorem mm_L_40 : Cond.methodLink RL 40 yX10_type ∈ cr_T := cr_T_mem (List.mem_of_getElem? (i := 474) (by decide +kernel)) (by decide +kernel)
theorem mm_X10_131 : Cond.methodLink RX10 131 yX7_add ∈ cr_T := cr_T_mem (List.mem_of_getElem? (i := 478) (by decide +kernel)) (by decide +kernel)
theorem mm_L_45 : Cond.methodLink RL 45 yX10_strait ∈ cr_T := cr_T_mem (List.mem_of_getElem? (i := 482) (by decide +kernel)) (by decide +kernel)
theorem mm_X10_138 : Cond.methodLink RX10 138 yX7_isStrait ∈ cr_T := cr_T_mem (List.mem_of_getElem? (i := 486) (by decide +kernel)) (by decide +kernel)
theorem mm_X7_42 : Cond.methodLink RX7 42 yX7_isPairRead ∈ cr_T := cr_T_mem (List.mem_of_getElem? (i := 490) (by decide +kernel)) (by decide +kernel)
theorem mm_X7_64 : Cond.methodLink RX7 64 yX7_kindRead ∈ cr_T := cr_T_mem (List.mem_of_getElem? (i := 495) (by decide +kernel)) (by decide +kernel)
theorem mm_X7_54 : Cond.methodLink RX7 54 yX7_letterHere ∈ cr_T := cr_T_mem (List.mem_of_getElem? (i := 499) (by decide +kernel)) (by decide +kernel)
theorem mm_X7_88 : Cond.methodLink RX7 88 yJ0_indexOf_0f7a4 ∈ cr_T := cr_T_mem (List.mem_of_getElem? (i := 503) (by decide +kernel)) (by decide +kernel)
theorem mm_J0_633 : Cond.methodLink RJ0 633 yJ0_indexOf_7cf53 ∈ cr_T := cr_T_mem (List.mem_of_getElem? (i := 507) (by decide +kernel)) (by decide +kernel)
theorem mm_J0_492 : Cond.methodLink RJ0 492 yJ0_isLatin1_aae02 ∈ cr_T := cr_T_mem (List.mem_of_getElem? (i := 511) (by decide +kernel)) (by decide +kernel)
theorem mm_J0_505 : Cond.methodLink RJ0 505 yJ0_length_8abf5 ∈ cr_T := cr_T_mem (List.mem_of_getElem? (i := 517) (by decide +kernel)) (by decide +kernel)
theorem mm_J0_335 : Cond.methodLink RJ0 335 yJ0_coder_7d493 ∈ cr_T := cr_T_mem (List.mem_of_getElem? (i := 521) (by decide +kernel)) (by decide +kernel)
theorem mm_J0_637 : Cond.methodLink RJ0 637 yJ1_indexOf_4cfef ∈ cr_T := cr_T_mem (List.mem_of_getElem? (i := 525) (by decide +kernel)) (by decide +kernel)
theorem mm_J1_88 : Cond.methodLink RJ1 88 yJ1_canEncode_9a6ad ∈ cr_T := cr_T_mem (List.mem_of_getElem? (i := 528) (by decide +kernel)) (by decide +kernel)
theorem mm_J1_92 : Cond.methodLink RJ1 92 yJ9_max_7cf53 ∈ cr_T := cr_T_mem (List.mem_of_getElem? (i := 531) (by decide +kernel)) (by decide +kernel)
theorem mm_J1_38 : Cond.methodLink RJ1 38 yJ9_min_7cf53 ∈ cr_T := cr_T_mem (List.mem_of_getElem? (i := 534) (by decide +kernel)) (by decide +kernel)
theorem mm_J1_95 : Cond.methodLink RJ1 95 yJ1_indexOfChar_4cfef ∈ cr_T := cr_T_mem (List.mem_of_getElem? (i := 537) (by decide +kernel)) (by decide +kernel)
theorem mm_J0_640 : Cond.methodLink RJ0 640 yJ2_indexOf_4cfef ∈ cr_T := cr_T_mem (List.mem_of_getElem? (i := 540) (by decide +kernel)) (by decide +kernel)
theorem mm_J2_224 : Cond.methodLink RJ2 224 yJ9_max_7cf53 ∈ cr_T := cr_T_mem (List.mem_of_getElem? (i := 543) (by decide +kernel)) (by decide +kernel)
theorem mm_J2_183 : Cond.methodLink RJ2 183 yJ9_min_7cf53 ∈ cr_T := cr_T_mem (List.mem_of_getElem? (i := 544) (by decide +kernel)) (by decide +kernel)
theorem mm_J2_228 : Cond.methodLink RJ2 228 yJ2_indexOfChar_4cfef ∈ cr_T := cr_T_mem (List.mem_of_getElem? (i := 546) (by decide +kernel)) (by decide +kernel)
theorem mm_J2_96 : Cond.methodLink RJ2 96 yJ2_checkBoundsBeginEnd_d044e ∈ cr_T := cr_T_mem (List.mem_of_getElem? (i := 549) (by decide +kernel)) (by decide +kernel)
theorem mm_J2_48 : Cond.methodLink RJ2 48 yJ2_length_9d52b ∈ cr_T := cr_T_mem (List.mem_of_getElem? (i := 552) (by decide +kernel)) (by decide +kernel)
theorem mm_J2_241 : Cond.methodLink RJ2 241 yJ0_checkBoundsBeginEnd_23922 ∈ cr_T := cr_T_mem (List.mem_of_getElem? (i := 555) (by decide +kernel)) (by decide +kernel)
theorem mm_J0_1062 : Cond.methodLink RJ0 1062 yJ3_checkFromToIndex_8c36e ∈ cr_T := cr_T_mem (List.mem_of_getElem? (i := 560) (by decide +kernel)) (by decide +kernel)
theorem mm_J2_244 : Cond.methodLink RJ2 244 yJ2_indexOfCharUnsafe_4cfef ∈ cr_T := cr_T_mem (List.mem_of_getElem? (i := 563) (by decide +kernel)) (by decide +kernel)
theorem mm_J2_71 : Cond.methodLink RJ2 71 yJ2_getChar_3b067 ∈ cr_T := cr_T_mem (List.mem_of_getElem? (i := 566) (by decide +kernel)) (by decide +kernel)
theorem mm_J2_232 : Cond.methodLink RJ2 232 yJ2_indexOfSupplementary_4cfef ∈ cr_T := cr_T_mem (List.mem_of_getElem? (i := 575) (by decide +kernel)) (by decide +kernel)
theorem mm_J2_164 : Cond.methodLink RJ2 164 yJ11_isValidCodePoint_9a6ad ∈ cr_T := cr_T_mem (List.mem_of_getElem? (i := 578) (by decide +kernel)) (by decide +kernel)
theorem mm_J2_157 : Cond.methodLink RJ2 157 yJ11_highSurrogate_5068e ∈ cr_T := cr_T_mem (List.mem_of_getElem? (i := 581) (by decide +kernel)) (by decide +kernel)
theorem mm_J2_161 : Cond.methodLink RJ2 161 yJ11_lowSurrogate_5068e ∈ cr_T := cr_T_mem (List.mem_of_getElem? (i := 585) (by decide +kernel)) (by decide +kernel)
theorem mm_X7_68 : Cond.methodLink RX7 68 yX7_numberRead ∈ cr_T := cr_T_mem (List.mem_of_getElem? (i := 589) (by decide +kernel)) (by decide +kernel)
theorem mm_X7_97 : Cond.methodLink RX7 97 yJ9_min_7cf53 ∈ cr_T := cr_T_mem (List.mem_of_getElem? (i := 594) (by decide +kernel)) (by decide +kernel)
theorem mm_X7_46 : Cond.methodLink RX7 46 yX7_isTaken ∈ cr_T := cr_T_mem (List.mem_of_getElem? (i := 595) (by decide +kernel)) (by decide +kernel)
theorem mm_X7_72 : Cond.methodLink RX7 72 yX3_become ∈ cr_T := cr_T_mem (List.mem_of_getElem? (i := 599) (by decide +kernel)) (by decide +kernel)
theorem mm_X7_50 : Cond.methodLink RX7 50 yX7_areShipsRead ∈ cr_T := cr_T_mem (List.mem_of_getElem? (i := 600) (by decide +kernel)) (by decide +kernel)
theorem mm_X7_58 : Cond.methodLink RX7 58 yX7_isShipRead ∈ cr_T := cr_T_mem (List.mem_of_getElem? (i := 604) (by decide +kernel)) (by decide +kernel)
theorem mm_X7_81 : Cond.methodLink RX7 81 yX7_digitRead ∈ cr_T := cr_T_mem (List.mem_of_getElem? (i := 609) (by decide +kernel)) (by decide +kernel)
theorem mm_X7_85 : Cond.methodLink RX7 85 yX6_become ∈ cr_T := cr_T_mem (List.mem_of_getElem? (i := 613) (by decide +kernel)) (by decide +kernel)
theorem mm_X10_145 : Cond.methodLink RX10 145 yX9_settle ∈ cr_T := cr_T_mem (List.mem_of_getElem? (i := 614) (by decide +kernel)) (by decide +kernel)
theorem mm_X9_53 : Cond.methodLink RX9 53 yX9_takePairsAndShips ∈ cr_T := cr_T_mem (List.mem_of_getElem? (i := 618) (by decide +kernel)) (by decide +kernel)
theorem mm_X9_77 : Cond.methodLink RX9 77 yX3_take ∈ cr_T := cr_T_mem (List.mem_of_getElem? (i := 622) (by decide +kernel)) (by decide +kernel)
theorem mm_X3_27 : Cond.methodLink RX3 27 yX3_become ∈ cr_T := cr_T_mem (List.mem_of_getElem? (i := 626) (by decide +kernel)) (by decide +kernel)
theorem mm_X9_80 : Cond.methodLink RX9 80 yX6_take ∈ cr_T := cr_T_mem (List.mem_of_getElem? (i := 627) (by decide +kernel)) (by decide +kernel)
theorem mm_X6_19 : Cond.methodLink RX6 19 yX6_become ∈ cr_T := cr_T_mem (List.mem_of_getElem? (i := 631) (by decide +kernel)) (by decide +kernel)
theorem mm_X9_73 : Cond.methodLink RX9 73 yX8_begin ∈ cr_T := cr_T_mem (List.mem_of_getElem? (i := 632) (by decide +kernel)) (by decide +kernel)
theorem mm_L_50 : Cond.methodLink RL 50 yX10_count ∈ cr_T := cr_T_mem (List.mem_of_getElem? (i := 637) (by decide +kernel)) (by decide +kernel)
theorem mm_L_54 : Cond.methodLink RL 54 yX10_setOut ∈ cr_T := cr_T_mem (List.mem_of_getElem? (i := 641) (by decide +kernel)) (by decide +kernel)
theorem mm_X10_177 : Cond.methodLink RX10 177 yX9_remember ∈ cr_T := cr_T_mem (List.mem_of_getElem? (i := 645) (by decide +kernel)) (by decide +kernel)
theorem mm_X9_57 : Cond.methodLink RX9 57 yX8_take ∈ cr_T := cr_T_mem (List.mem_of_getElem? (i := 649) (by decide +kernel)) (by decide +kernel)
theorem mm_X10_180 : Cond.methodLink RX10 180 yX8_begin ∈ cr_T := cr_T_mem (List.mem_of_getElem? (i := 653) (by decide +kernel)) (by decide +kernel)
theorem mm_L_58 : Cond.methodLink RL 58 yX10_idle ∈ cr_T := cr_T_mem (List.mem_of_getElem? (i := 654) (by decide +kernel)) (by decide +kernel)
theorem mm_L_62 : Cond.methodLink RL 62 yX10_pass ∈ cr_T := cr_T_mem (List.mem_of_getElem? (i := 658) (by decide +kernel)) (by decide +kernel)
theorem mm_X10_184 : Cond.methodLink RX10 184 yX0_goBetween ∈ cr_T := cr_T_mem (List.mem_of_getElem? (i := 662) (by decide +kernel)) (by decide +kernel)
theorem mm_X0_34 : Cond.methodLink RX0 34 yX6_span ∈ cr_T := cr_T_mem (List.mem_of_getElem? (i := 669) (by decide +kernel)) (by decide +kernel)
theorem mm_X0_43 : Cond.methodLink RX0 43 yX3_firstShut ∈ cr_T := cr_T_mem (List.mem_of_getElem? (i := 670) (by decide +kernel)) (by decide +kernel)
theorem mm_L_66 : Cond.methodLink RL 66 yX10_undo ∈ cr_T := cr_T_mem (List.mem_of_getElem? (i := 674) (by decide +kernel)) (by decide +kernel)
theorem mm_X10_191 : Cond.methodLink RX10 191 yX9_recall ∈ cr_T := cr_T_mem (List.mem_of_getElem? (i := 678) (by decide +kernel)) (by decide +kernel)
theorem mm_L_70 : Cond.methodLink RL 70 yX10_seed ∈ cr_T := cr_T_mem (List.mem_of_getElem? (i := 682) (by decide +kernel)) (by decide +kernel)
theorem mm_L_74 : Cond.methodLink RL 74 yX10_lots ∈ cr_T := cr_T_mem (List.mem_of_getElem? (i := 686) (by decide +kernel)) (by decide +kernel)
theorem mm_X10_197 : Cond.methodLink RX10 197 yX9_drawn ∈ cr_T := cr_T_mem (List.mem_of_getElem? (i := 690) (by decide +kernel)) (by decide +kernel)
theorem mm_X10_200 : Cond.methodLink RX10 200 yX10_goFull ∈ cr_T := cr_T_mem (List.mem_of_getElem? (i := 697) (by decide +kernel)) (by decide +kernel)
theorem mm_X10_325 : Cond.methodLink RX10 325 yJ7_fill_53178 ∈ cr_T := cr_T_mem (List.mem_of_getElem? (i := 701) (by decide +kernel)) (by decide +kernel)
theorem mm_X10_300 : Cond.methodLink RX10 300 yX0_go ∈ cr_T := cr_T_mem (List.mem_of_getElem? (i := 704) (by decide +kernel)) (by decide +kernel)
theorem mm_X0_62 : Cond.methodLink RX0 62 yX0_goBetween ∈ cr_T := cr_T_mem (List.mem_of_getElem? (i := 708) (by decide +kernel)) (by decide +kernel)
theorem mm_X10_204 : Cond.methodLink RX10 204 yX0_isClean ∈ cr_T := cr_T_mem (List.mem_of_getElem? (i := 709) (by decide +kernel)) (by decide +kernel)
theorem mm_L_78 : Cond.methodLink RL 78 yX10_soonest ∈ cr_T := cr_T_mem (List.mem_of_getElem? (i := 713) (by decide +kernel)) (by decide +kernel)
theorem mm_X10_210 : Cond.methodLink RX10 210 yX10_isBegin ∈ cr_T := cr_T_mem (List.mem_of_getElem? (i := 717) (by decide +kernel)) (by decide +kernel)
theorem mm_X10_214 : Cond.methodLink RX10 214 yX5_findSoonest ∈ cr_T := cr_T_mem (List.mem_of_getElem? (i := 721) (by decide +kernel)) (by decide +kernel)
theorem mm_X5_33 : Cond.methodLink RX5 33 yX5_measure ∈ cr_T := cr_T_mem (List.mem_of_getElem? (i := 725) (by decide +kernel)) (by decide +kernel)
theorem mm_X5_52 : Cond.methodLink RX5 52 yX3_isOpenNow ∈ cr_T := cr_T_mem (List.mem_of_getElem? (i := 729) (by decide +kernel)) (by decide +kernel)
theorem mm_X5_37 : Cond.methodLink RX5 37 yX5_soonestEnd ∈ cr_T := cr_T_mem (List.mem_of_getElem? (i := 730) (by decide +kernel)) (by decide +kernel)
theorem mm_X5_71 : Cond.methodLink RX5 71 yX6_low ∈ cr_T := cr_T_mem (List.mem_of_getElem? (i := 735) (by decide +kernel)) (by decide +kernel)
theorem mm_X5_74 : Cond.methodLink RX5 74 yX6_high ∈ cr_T := cr_T_mem (List.mem_of_getElem? (i := 736) (by decide +kernel)) (by decide +kernel)
theorem mm_X5_77 : Cond.methodLink RX5 77 yX5_behindBy ∈ cr_T := cr_T_mem (List.mem_of_getElem? (i := 737) (by decide +kernel)) (by decide +kernel)
theorem mm_X5_65 : Cond.methodLink RX5 65 yX6_span ∈ cr_T := cr_T_mem (List.mem_of_getElem? (i := 742) (by decide +kernel)) (by decide +kernel)
theorem mm_X5_80 : Cond.methodLink RX5 80 yJ9_min_7cf53 ∈ cr_T := cr_T_mem (List.mem_of_getElem? (i := 743) (by decide +kernel)) (by decide +kernel)
theorem mm_X5_48 : Cond.methodLink RX5 48 yX5_tellPaces ∈ cr_T := cr_T_mem (List.mem_of_getElem? (i := 744) (by decide +kernel)) (by decide +kernel)
theorem mm_X5_85 : Cond.methodLink RX5 85 yX5_firstPace ∈ cr_T := cr_T_mem (List.mem_of_getElem? (i := 748) (by decide +kernel)) (by decide +kernel)
theorem mm_L_82 : Cond.methodLink RL 82 yX10_full ∈ cr_T := cr_T_mem (List.mem_of_getElem? (i := 753) (by decide +kernel)) (by decide +kernel)
theorem mm_X10_228 : Cond.methodLink RX10 228 yX0_judgement ∈ cr_T := cr_T_mem (List.mem_of_getElem? (i := 757) (by decide +kernel)) (by decide +kernel)
theorem mm_L_86 : Cond.methodLink RL 86 yX10_fog ∈ cr_T := cr_T_mem (List.mem_of_getElem? (i := 761) (by decide +kernel)) (by decide +kernel)
theorem mm_X10_232 : Cond.methodLink RX10 232 yX0_planFull ∈ cr_T := cr_T_mem (List.mem_of_getElem? (i := 765) (by decide +kernel)) (by decide +kernel)
theorem mm_X0_66 : Cond.methodLink RX0 66 yX6_high ∈ cr_T := cr_T_mem (List.mem_of_getElem? (i := 769) (by decide +kernel)) (by decide +kernel)
theorem mm_X10_235 : Cond.methodLink RX10 235 yX0_fogWeight ∈ cr_T := cr_T_mem (List.mem_of_getElem? (i := 770) (by decide +kernel)) (by decide +kernel)
theorem mm_X0_73 : Cond.methodLink RX0 73 yX0_isThrough ∈ cr_T := cr_T_mem (List.mem_of_getElem? (i := 774) (by decide +kernel)) (by decide +kernel)
theorem mm_X0_69 : Cond.methodLink RX0 69 yX0_isThroughBy ∈ cr_T := cr_T_mem (List.mem_of_getElem? (i := 778) (by decide +kernel)) (by decide +kernel)
theorem mm_X0_81 : Cond.methodLink RX0 81 yX3_phaseBehind ∈ cr_T := cr_T_mem (List.mem_of_getElem? (i := 783) (by decide +kernel)) (by decide +kernel)
theorem mm_L_90 : Cond.methodLink RL 90 yX10_sure ∈ cr_T := cr_T_mem (List.mem_of_getElem? (i := 787) (by decide +kernel)) (by decide +kernel)
theorem mm_L_94 : Cond.methodLink RL 94 yX10_stones ∈ cr_T := cr_T_mem (List.mem_of_getElem? (i := 791) (by decide +kernel)) (by decide +kernel)
theorem mm_X10_239 : Cond.methodLink RX10 239 yX0_fewestStones ∈ cr_T := cr_T_mem (List.mem_of_getElem? (i := 795) (by decide +kernel)) (by decide +kernel)
theorem mm_L_98 : Cond.methodLink RL 98 yX10_convoy ∈ cr_T := cr_T_mem (List.mem_of_getElem? (i := 799) (by decide +kernel)) (by decide +kernel)
theorem mm_X10_243 : Cond.methodLink RX10 243 yX3_firstShut ∈ cr_T := cr_T_mem (List.mem_of_getElem? (i := 803) (by decide +kernel)) (by decide +kernel)
theorem mm_X10_247 : Cond.methodLink RX10 247 yJ6_bitCount_0f7a4 ∈ cr_T := cr_T_mem (List.mem_of_getElem? (i := 804) (by decide +kernel)) (by decide +kernel)
theorem mm_X10_252 : Cond.methodLink RX10 252 yX10_convoyTime ∈ cr_T := cr_T_mem (List.mem_of_getElem? (i := 810) (by decide +kernel)) (by decide +kernel)
theorem mm_X10_331 : Cond.methodLink RX10 331 yX10_secondsFor ∈ cr_T := cr_T_mem (List.mem_of_getElem? (i := 814) (by decide +kernel)) (by decide +kernel)
theorem mm_L_102 : Cond.methodLink RL 102 yX10_rudder ∈ cr_T := cr_T_mem (List.mem_of_getElem? (i := 815) (by decide +kernel)) (by decide +kernel)
theorem mm_L_106 : Cond.methodLink RL 106 yX10_worth ∈ cr_T := cr_T_mem (List.mem_of_getElem? (i := 819) (by decide +kernel)) (by decide +kernel)
theorem mm_X10_256 : Cond.methodLink RX10 256 yX0_isThroughBut ∈ cr_T := cr_T_mem (List.mem_of_getElem? (i := 823) (by decide +kernel)) (by decide +kernel)
theorem mm_X10_260 : Cond.methodLink RX10 260 yX0_isThrough ∈ cr_T := cr_T_mem (List.mem_of_getElem? (i := 827) (by decide +kernel)) (by decide +kernel)
theorem mm_L_110 : Cond.methodLink RL 110 yX10_look ∈ cr_T := cr_T_mem (List.mem_of_getElem? (i := 828) (by decide +kernel)) (by decide +kernel)
theorem mm_X10_263 : Cond.methodLink RX10 263 yX2_add ∈ cr_T := cr_T_mem (List.mem_of_getElem? (i := 832) (by decide +kernel)) (by decide +kernel)
theorem mm_L_114 : Cond.methodLink RL 114 yX10_forget ∈ cr_T := cr_T_mem (List.mem_of_getElem? (i := 836) (by decide +kernel)) (by decide +kernel)
theorem mm_L_118 : Cond.methodLink RL 118 yX10_fits ∈ cr_T := cr_T_mem (List.mem_of_getElem? (i := 840) (by decide +kernel)) (by decide +kernel)
theorem mm_X10_265 : Cond.methodLink RX10 265 yX1_survey ∈ cr_T := cr_T_mem (List.mem_of_getElem? (i := 844) (by decide +kernel)) (by decide +kernel)
theorem mm_X1_25 : Cond.methodLink RX1 25 yJ7_fill_53178 ∈ cr_T := cr_T_mem (List.mem_of_getElem? (i := 848) (by decide +kernel)) (by decide +kernel)
theorem mm_X1_31 : Cond.methodLink RX1 31 yX1_fold ∈ cr_T := cr_T_mem (List.mem_of_getElem? (i := 849) (by decide +kernel)) (by decide +kernel)
theorem mm_X1_35 : Cond.methodLink RX1 35 yX1_surveyPhases ∈ cr_T := cr_T_mem (List.mem_of_getElem? (i := 853) (by decide +kernel)) (by decide +kernel)
theorem mm_L_122 : Cond.methodLink RL 122 yX10_foretell ∈ cr_T := cr_T_mem (List.mem_of_getElem? (i := 857) (by decide +kernel)) (by decide +kernel)
theorem mm_L_126 : Cond.methodLink RL 126 yX10_next ∈ cr_T := cr_T_mem (List.mem_of_getElem? (i := 861) (by decide +kernel)) (by decide +kernel)
theorem mm_X10_278 : Cond.methodLink RX10 278 yX1_leftAtWorst ∈ cr_T := cr_T_mem (List.mem_of_getElem? (i := 865) (by decide +kernel)) (by decide +kernel)
theorem mm_X1_56 : Cond.methodLink RX1 56 yJ9_max_7cf53 ∈ cr_T := cr_T_mem (List.mem_of_getElem? (i := 869) (by decide +kernel)) (by decide +kernel)
theorem mm_L_130 : Cond.methodLink RL 130 yX10_image ∈ cr_T := cr_T_mem (List.mem_of_getElem? (i := 870) (by decide +kernel)) (by decide +kernel)
theorem mm_X10_281 : Cond.methodLink RX10 281 yX9_take ∈ cr_T := cr_T_mem (List.mem_of_getElem? (i := 874) (by decide +kernel)) (by decide +kernel)
theorem mm_X9_64 : Cond.methodLink RX9 64 yX2_take ∈ cr_T := cr_T_mem (List.mem_of_getElem? (i := 878) (by decide +kernel)) (by decide +kernel)
theorem mm_L_134 : Cond.methodLink RL 134 yX10_restore ∈ cr_T := cr_T_mem (List.mem_of_getElem? (i := 882) (by decide +kernel)) (by decide +kernel)
theorem mm_L_138 : Cond.methodLink RL 138 yX10_judged ∈ cr_T := cr_T_mem (List.mem_of_getElem? (i := 886) (by decide +kernel)) (by decide +kernel)
theorem mm_X10_289 : Cond.methodLink RX10 289 yX10_isRow ∈ cr_T := cr_T_mem (List.mem_of_getElem? (i := 890) (by decide +kernel)) (by decide +kernel)
theorem mm_X10_292 : Cond.methodLink RX10 292 yX4_refusal ∈ cr_T := cr_T_mem (List.mem_of_getElem? (i := 894) (by decide +kernel)) (by decide +kernel)
theorem mm_X4_32 : Cond.methodLink RX4 32 yX4_hasItems ∈ cr_T := cr_T_mem (List.mem_of_getElem? (i := 898) (by decide +kernel)) (by decide +kernel)
theorem mm_L_143 : Cond.methodLink RL 143 yX10_film ∈ cr_T := cr_T_mem (List.mem_of_getElem? (i := 902) (by decide +kernel)) (by decide +kernel)
theorem mm_L_147 : Cond.methodLink RL 147 yX10_sheet ∈ cr_T := cr_T_mem (List.mem_of_getElem? (i := 906) (by decide +kernel)) (by decide +kernel)
theorem mm_X10_303 : Cond.methodLink RX10 303 yX4_begin ∈ cr_T := cr_T_mem (List.mem_of_getElem? (i := 910) (by decide +kernel)) (by decide +kernel)
theorem mm_X4_26 : Cond.methodLink RX4 26 yJ7_fill_d0a16 ∈ cr_T := cr_T_mem (List.mem_of_getElem? (i := 914) (by decide +kernel)) (by decide +kernel)
theorem mm_L_151 : Cond.methodLink RL 151 yX10_drop ∈ cr_T := cr_T_mem (List.mem_of_getElem? (i := 917) (by decide +kernel)) (by decide +kernel)
theorem mm_L_157 : Cond.methodLink RL 157 yX10_item ∈ cr_T := cr_T_mem (List.mem_of_getElem? (i := 921) (by decide +kernel)) (by decide +kernel)
theorem mm_X10_309 : Cond.methodLink RX10 309 yX10_lowestBits ∈ cr_T := cr_T_mem (List.mem_of_getElem? (i := 925) (by decide +kernel)) (by decide +kernel)
theorem mm_L_162 : Cond.methodLink RL 162 yX10_copy ∈ cr_T := cr_T_mem (List.mem_of_getElem? (i := 928) (by decide +kernel)) (by decide +kernel)
theorem mm_X10_316 : Cond.methodLink RX10 316 yX4_hasItems ∈ cr_T := cr_T_mem (List.mem_of_getElem? (i := 932) (by decide +kernel)) (by decide +kernel)
theorem mm_L_12 : Cond.methodLink RL 12 yX11_init ∈ cr_T := cr_T_mem (List.mem_of_getElem? (i := 938) (by decide +kernel)) (by decide +kernel)
theorem mm_L_17 : Cond.methodLink RL 17 yX11_pair ∈ cr_T := cr_T_mem (List.mem_of_getElem? (i := 1045) (by decide +kernel)) (by decide +kernel)
theorem mm_X11_66 : Cond.methodLink RX11 66 yX11_in ∈ cr_T := cr_T_mem (List.mem_of_getElem? (i := 1050) (by decide +kernel)) (by decide +kernel)
theorem mm_X11_83 : Cond.methodLink RX11 83 yX11_pairComes ∈ cr_T := cr_T_mem (List.mem_of_getElem? (i := 1056) (by decide +kernel)) (by decide +kernel)
theorem mm_L_22 : Cond.methodLink RL 22 yX11_phase ∈ cr_T := cr_T_mem (List.mem_of_getElem? (i := 1060) (by decide +kernel)) (by decide +kernel)
theorem mm_X11_87 : Cond.methodLink RX11 87 yX11_isPair ∈ cr_T := cr_T_mem (List.mem_of_getElem? (i := 1064) (by decide +kernel)) (by decide +kernel)
theorem mm_L_27 : Cond.methodLink RL 27 yX11_ship ∈ cr_T := cr_T_mem (List.mem_of_getElem? (i := 1068) (by decide +kernel)) (by decide +kernel)
theorem mm_X11_95 : Cond.methodLink RX11 95 yX11_shipComes ∈ cr_T := cr_T_mem (List.mem_of_getElem? (i := 1074) (by decide +kernel)) (by decide +kernel)
theorem mm_L_31 : Cond.methodLink RL 31 yX11_of ∈ cr_T := cr_T_mem (List.mem_of_getElem? (i := 1078) (by decide +kernel)) (by decide +kernel)
theorem mm_L_35 : Cond.methodLink RL 35 yX11_told ∈ cr_T := cr_T_mem (List.mem_of_getElem? (i := 1083) (by decide +kernel)) (by decide +kernel)
theorem mm_X11_105 : Cond.methodLink RX11 105 yX11_isShip ∈ cr_T := cr_T_mem (List.mem_of_getElem? (i := 1087) (by decide +kernel)) (by decide +kernel)
theorem mm_X11_108 : Cond.methodLink RX11 108 yX11_low ∈ cr_T := cr_T_mem (List.mem_of_getElem? (i := 1091) (by decide +kernel)) (by decide +kernel)
theorem mm_X11_101 : Cond.methodLink RX11 101 yX11_high ∈ cr_T := cr_T_mem (List.mem_of_getElem? (i := 1095) (by decide +kernel)) (by decide +kernel)
theorem mm_X11_111 : Cond.methodLink RX11 111 yX11_span ∈ cr_T := cr_T_mem (List.mem_of_getElem? (i := 1099) (by decide +kernel)) (by decide +kernel)
theorem mm_L_39 : Cond.methodLink RL 39 yX11_open ∈ cr_T := cr_T_mem (List.mem_of_getElem? (i := 1103) (by decide +kernel)) (by decide +kernel)
theorem mm_X11_120 : Cond.methodLink RX11 120 yX11_isOpen ∈ cr_T := cr_T_mem (List.mem_of_getElem? (i := 1108) (by decide +kernel)) (by decide +kernel)
theorem mm_X11_114 : Cond.methodLink RX11 114 yX11_isPlain ∈ cr_T := cr_T_mem (List.mem_of_getElem? (i := 1112) (by decide +kernel)) (by decide +kernel)
theorem mm_L_44 : Cond.methodLink RL 44 yX11_type ∈ cr_T := cr_T_mem (List.mem_of_getElem? (i := 1116) (by decide +kernel)) (by decide +kernel)
theorem mm_L_49 : Cond.methodLink RL 49 yX11_strait ∈ cr_T := cr_T_mem (List.mem_of_getElem? (i := 1122) (by decide +kernel)) (by decide +kernel)
theorem mm_X11_191 : Cond.methodLink RX11 191 yX11_readPair ∈ cr_T := cr_T_mem (List.mem_of_getElem? (i := 1126) (by decide +kernel)) (by decide +kernel)
theorem mm_X11_174 : Cond.methodLink RX11 174 yX11_letter ∈ cr_T := cr_T_mem (List.mem_of_getElem? (i := 1130) (by decide +kernel)) (by decide +kernel)
theorem mm_X11_160 : Cond.methodLink RX11 160 yX11_here ∈ cr_T := cr_T_mem (List.mem_of_getElem? (i := 1134) (by decide +kernel)) (by decide +kernel)
theorem mm_X11_178 : Cond.methodLink RX11 178 yX11_number ∈ cr_T := cr_T_mem (List.mem_of_getElem? (i := 1138) (by decide +kernel)) (by decide +kernel)
theorem mm_X11_181 : Cond.methodLink RX11 181 yX11_must ∈ cr_T := cr_T_mem (List.mem_of_getElem? (i := 1144) (by decide +kernel)) (by decide +kernel)
theorem mm_X11_164 : Cond.methodLink RX11 164 yX11_has ∈ cr_T := cr_T_mem (List.mem_of_getElem? (i := 1148) (by decide +kernel)) (by decide +kernel)
theorem mm_X11_194 : Cond.methodLink RX11 194 yX11_readShip ∈ cr_T := cr_T_mem (List.mem_of_getElem? (i := 1152) (by decide +kernel)) (by decide +kernel)
theorem mm_X11_188 : Cond.methodLink RX11 188 yX11_digit ∈ cr_T := cr_T_mem (List.mem_of_getElem? (i := 1156) (by decide +kernel)) (by decide +kernel)
theorem mm_L_53 : Cond.methodLink RL 53 yX11_count ∈ cr_T := cr_T_mem (List.mem_of_getElem? (i := 1160) (by decide +kernel)) (by decide +kernel)
theorem mm_L_57 : Cond.methodLink RL 57 yX11_setOut ∈ cr_T := cr_T_mem (List.mem_of_getElem? (i := 1164) (by decide +kernel)) (by decide +kernel)
theorem mm_X11_203 : Cond.methodLink RX11 203 yX11_notes ∈ cr_T := cr_T_mem (List.mem_of_getElem? (i := 1168) (by decide +kernel)) (by decide +kernel)
theorem mm_L_61 : Cond.methodLink RL 61 yX11_idle ∈ cr_T := cr_T_mem (List.mem_of_getElem? (i := 1172) (by decide +kernel)) (by decide +kernel)
theorem mm_L_65 : Cond.methodLink RL 65 yX11_pass ∈ cr_T := cr_T_mem (List.mem_of_getElem? (i := 1177) (by decide +kernel)) (by decide +kernel)
theorem mm_X11_139 : Cond.methodLink RX11 139 yX11_passes ∈ cr_T := cr_T_mem (List.mem_of_getElem? (i := 1181) (by decide +kernel)) (by decide +kernel)
theorem mm_X11_123 : Cond.methodLink RX11 123 yX11_upwards ∈ cr_T := cr_T_mem (List.mem_of_getElem? (i := 1185) (by decide +kernel)) (by decide +kernel)
theorem mm_L_69 : Cond.methodLink RL 69 yX11_undo ∈ cr_T := cr_T_mem (List.mem_of_getElem? (i := 1188) (by decide +kernel)) (by decide +kernel)
theorem mm_L_73 : Cond.methodLink RL 73 yX11_seed ∈ cr_T := cr_T_mem (List.mem_of_getElem? (i := 1192) (by decide +kernel)) (by decide +kernel)
theorem mm_L_77 : Cond.methodLink RL 77 yX11_lots ∈ cr_T := cr_T_mem (List.mem_of_getElem? (i := 1196) (by decide +kernel)) (by decide +kernel)
theorem mm_X11_211 : Cond.methodLink RX11 211 yX11_goesFull ∈ cr_T := cr_T_mem (List.mem_of_getElem? (i := 1203) (by decide +kernel)) (by decide +kernel)
theorem mm_X11_142 : Cond.methodLink RX11 142 yX11_goes ∈ cr_T := cr_T_mem (List.mem_of_getElem? (i := 1207) (by decide +kernel)) (by decide +kernel)
theorem mm_L_81 : Cond.methodLink RL 81 yX11_soonest ∈ cr_T := cr_T_mem (List.mem_of_getElem? (i := 1211) (by decide +kernel)) (by decide +kernel)
theorem mm_X11_222 : Cond.methodLink RX11 222 yX11_isSecond ∈ cr_T := cr_T_mem (List.mem_of_getElem? (i := 1215) (by decide +kernel)) (by decide +kernel)
theorem mm_X11_227 : Cond.methodLink RX11 227 yX11_looksOn ∈ cr_T := cr_T_mem (List.mem_of_getElem? (i := 1220) (by decide +kernel)) (by decide +kernel)
theorem mm_X11_215 : Cond.methodLink RX11 215 yX11_by ∈ cr_T := cr_T_mem (List.mem_of_getElem? (i := 1225) (by decide +kernel)) (by decide +kernel)
theorem mm_X11_219 : Cond.methodLink RX11 219 yX11_endOf ∈ cr_T := cr_T_mem (List.mem_of_getElem? (i := 1229) (by decide +kernel)) (by decide +kernel)
theorem mm_L_85 : Cond.methodLink RL 85 yX11_full ∈ cr_T := cr_T_mem (List.mem_of_getElem? (i := 1233) (by decide +kernel)) (by decide +kernel)
theorem mm_L_89 : Cond.methodLink RL 89 yX11_fog ∈ cr_T := cr_T_mem (List.mem_of_getElem? (i := 1237) (by decide +kernel)) (by decide +kernel)
theorem mm_X11_230 : Cond.methodLink RX11 230 yX11_clears ∈ cr_T := cr_T_mem (List.mem_of_getElem? (i := 1241) (by decide +kernel)) (by decide +kernel)
theorem mm_X11_233 : Cond.methodLink RX11 233 yX11_common ∈ cr_T := cr_T_mem (List.mem_of_getElem? (i := 1245) (by decide +kernel)) (by decide +kernel)
theorem mm_L_93 : Cond.methodLink RL 93 yX11_sure ∈ cr_T := cr_T_mem (List.mem_of_getElem? (i := 1248) (by decide +kernel)) (by decide +kernel)
theorem mm_L_97 : Cond.methodLink RL 97 yX11_stones ∈ cr_T := cr_T_mem (List.mem_of_getElem? (i := 1252) (by decide +kernel)) (by decide +kernel)
theorem mm_L_101 : Cond.methodLink RL 101 yX11_convoy ∈ cr_T := cr_T_mem (List.mem_of_getElem? (i := 1257) (by decide +kernel)) (by decide +kernel)
theorem mm_X11_238 : Cond.methodLink RX11 238 yX11_many ∈ cr_T := cr_T_mem (List.mem_of_getElem? (i := 1261) (by decide +kernel)) (by decide +kernel)
theorem mm_L_105 : Cond.methodLink RL 105 yX11_rudder ∈ cr_T := cr_T_mem (List.mem_of_getElem? (i := 1264) (by decide +kernel)) (by decide +kernel)
theorem mm_L_109 : Cond.methodLink RL 109 yX11_worth ∈ cr_T := cr_T_mem (List.mem_of_getElem? (i := 1269) (by decide +kernel)) (by decide +kernel)
theorem mm_X11_243 : Cond.methodLink RX11 243 yX11_isClean ∈ cr_T := cr_T_mem (List.mem_of_getElem? (i := 1273) (by decide +kernel)) (by decide +kernel)
theorem mm_L_113 : Cond.methodLink RL 113 yX11_look ∈ cr_T := cr_T_mem (List.mem_of_getElem? (i := 1277) (by decide +kernel)) (by decide +kernel)
theorem mm_L_117 : Cond.methodLink RL 117 yX11_forget ∈ cr_T := cr_T_mem (List.mem_of_getElem? (i := 1281) (by decide +kernel)) (by decide +kernel)
theorem mm_L_121 : Cond.methodLink RL 121 yX11_fits ∈ cr_T := cr_T_mem (List.mem_of_getElem? (i := 1285) (by decide +kernel)) (by decide +kernel)
theorem mm_X11_259 : Cond.methodLink RX11 259 yX11_fit ∈ cr_T := cr_T_mem (List.mem_of_getElem? (i := 1289) (by decide +kernel)) (by decide +kernel)
theorem mm_X11_256 : Cond.methodLink RX11 256 yX11_isSo ∈ cr_T := cr_T_mem (List.mem_of_getElem? (i := 1293) (by decide +kernel)) (by decide +kernel)
theorem mm_L_125 : Cond.methodLink RL 125 yX11_foretell ∈ cr_T := cr_T_mem (List.mem_of_getElem? (i := 1296) (by decide +kernel)) (by decide +kernel)
theorem mm_L_129 : Cond.methodLink RL 129 yX11_next ∈ cr_T := cr_T_mem (List.mem_of_getElem? (i := 1300) (by decide +kernel)) (by decide +kernel)
theorem mm_L_133 : Cond.methodLink RL 133 yX11_image ∈ cr_T := cr_T_mem (List.mem_of_getElem? (i := 1304) (by decide +kernel)) (by decide +kernel)
theorem mm_X11_262 : Cond.methodLink RX11 262 yX11_notesRow ∈ cr_T := cr_T_mem (List.mem_of_getElem? (i := 1308) (by decide +kernel)) (by decide +kernel)
theorem mm_L_137 : Cond.methodLink RL 137 yX11_restore ∈ cr_T := cr_T_mem (List.mem_of_getElem? (i := 1312) (by decide +kernel)) (by decide +kernel)
theorem mm_X11_269 : Cond.methodLink RX11 269 yX11_gives ∈ cr_T := cr_T_mem (List.mem_of_getElem? (i := 1316) (by decide +kernel)) (by decide +kernel)
theorem mm_L_142 : Cond.methodLink RL 142 yX11_judged ∈ cr_T := cr_T_mem (List.mem_of_getElem? (i := 1320) (by decide +kernel)) (by decide +kernel)
theorem mm_X11_273 : Cond.methodLink RX11 273 yX11_isSheet ∈ cr_T := cr_T_mem (List.mem_of_getElem? (i := 1324) (by decide +kernel)) (by decide +kernel)
theorem mm_X11_276 : Cond.methodLink RX11 276 yX11_isLane ∈ cr_T := cr_T_mem (List.mem_of_getElem? (i := 1327) (by decide +kernel)) (by decide +kernel)
theorem mm_X11_279 : Cond.methodLink RX11 279 yX11_why ∈ cr_T := cr_T_mem (List.mem_of_getElem? (i := 1330) (by decide +kernel)) (by decide +kernel)
theorem mm_L_146 : Cond.methodLink RL 146 yX11_film ∈ cr_T := cr_T_mem (List.mem_of_getElem? (i := 1334) (by decide +kernel)) (by decide +kernel)
theorem mm_X11_282 : Cond.methodLink RX11 282 yX11_open ∈ cr_T := cr_T_mem (List.mem_of_getElem? (i := 1338) (by decide +kernel)) (by decide +kernel)
theorem mm_X11_285 : Cond.methodLink RX11 285 yX11_puts ∈ cr_T := cr_T_mem (List.mem_of_getElem? (i := 1339) (by decide +kernel)) (by decide +kernel)
theorem mm_L_150 : Cond.methodLink RL 150 yX11_sheet ∈ cr_T := cr_T_mem (List.mem_of_getElem? (i := 1343) (by decide +kernel)) (by decide +kernel)
theorem mm_L_154 : Cond.methodLink RL 154 yX11_drop ∈ cr_T := cr_T_mem (List.mem_of_getElem? (i := 1347) (by decide +kernel)) (by decide +kernel)
theorem mm_L_161 : Cond.methodLink RL 161 yX11_item ∈ cr_T := cr_T_mem (List.mem_of_getElem? (i := 1351) (by decide +kernel)) (by decide +kernel)
theorem mm_L_166 : Cond.methodLink RL 166 yX11_copy ∈ cr_T := cr_T_mem (List.mem_of_getElem? (i := 1355) (by decide +kernel)) (by decide +kernel)
theorem mn_X9_25 : Cond.methodLinkNest RX9 25 yX8_init "ClashRocks" ∈ cr_NW := List.mem_filter.mpr ⟨List.mem_of_getElem? (i := 97) (by decide +kernel), by decide +kernel⟩
theorem mn_X9_36 : Cond.methodLinkNest RX9 36 yX2_init "ClashRocks" ∈ cr_NW := List.mem_filter.mpr ⟨List.mem_of_getElem? (i := 121) (by decide +kernel), by decide +kernel⟩
theorem mn_X9_45 : Cond.methodLinkNest RX9 45 yX3_init "ClashRocks" ∈ cr_NW := List.mem_filter.mpr ⟨List.mem_of_getElem? (i := 141) (by decide +kernel), by decide +kernel⟩
theorem mn_X9_46 : Cond.methodLinkNest RX9 46 yX6_init "ClashRocks" ∈ cr_NW := List.mem_filter.mpr ⟨List.mem_of_getElem? (i := 172) (by decide +kernel), by decide +kernel⟩
theorem mn_X7_27 : Cond.methodLinkNest RX7 27 yX3_init "ClashRocks" ∈ cr_NW := List.mem_filter.mpr ⟨List.mem_of_getElem? (i := 237) (by decide +kernel), by decide +kernel⟩
theorem mn_X7_28 : Cond.methodLinkNest RX7 28 yX6_init "ClashRocks" ∈ cr_NW := List.mem_filter.mpr ⟨List.mem_of_getElem? (i := 238) (by decide +kernel), by decide +kernel⟩
theorem mn_X10_28 : Cond.methodLinkNest RX10 28 yX0_init "ClashRocks" ∈ cr_NW := List.mem_filter.mpr ⟨List.mem_of_getElem? (i := 270) (by decide +kernel), by decide +kernel⟩
theorem mn_X10_35 : Cond.methodLinkNest RX10 35 yX5_init "ClashRocks" ∈ cr_NW := List.mem_filter.mpr ⟨List.mem_of_getElem? (i := 299) (by decide +kernel), by decide +kernel⟩
theorem mn_X10_42 : Cond.methodLinkNest RX10 42 yX1_init "ClashRocks" ∈ cr_NW := List.mem_filter.mpr ⟨List.mem_of_getElem? (i := 326) (by decide +kernel), by decide +kernel⟩
theorem mn_X10_53 : Cond.methodLinkNest RX10 53 yX4_init "ClashRocks" ∈ cr_NW := List.mem_filter.mpr ⟨List.mem_of_getElem? (i := 355) (by decide +kernel), by decide +kernel⟩
theorem mn_X7_93 : Cond.methodLinkNest RX7 93 yX10_isWithin "ClashRocks" ∈ cr_NW := List.mem_filter.mpr ⟨List.mem_of_getElem? (i := 593) (by decide +kernel), by decide +kernel⟩
theorem mn_X0_30 : Cond.methodLinkNest RX0 30 yX10_secondsFor "ClashRocks" ∈ cr_NW := List.mem_filter.mpr ⟨List.mem_of_getElem? (i := 666) (by decide +kernel), by decide +kernel⟩
theorem mn_X5_61 : Cond.methodLinkNest RX5 61 yX10_secondsFor "ClashRocks" ∈ cr_NW := List.mem_filter.mpr ⟨List.mem_of_getElem? (i := 741) (by decide +kernel), by decide +kernel⟩
theorem mn_X0_77 : Cond.methodLinkNest RX0 77 yX10_oneIf "ClashRocks" ∈ cr_NW := List.mem_filter.mpr ⟨List.mem_of_getElem? (i := 782) (by decide +kernel), by decide +kernel⟩
theorem mk_X10_123 : Cond.constant RX10 123 (99999) ∈ cr_T := cr_T_mem (List.mem_of_getElem? (i := 458) (by decide +kernel)) (by decide +kernel)
theorem mk_J2_227 : Cond.constant RJ2 227 (65536) ∈ cr_T := cr_T_mem (List.mem_of_getElem? (i := 545) (by decide +kernel)) (by decide +kernel)
theorem mk_J11_110 : Cond.constant RJ11 110 (55232) ∈ cr_T := cr_T_mem (List.mem_of_getElem? (i := 584) (by decide +kernel)) (by decide +kernel)
theorem mk_J11_76 : Cond.constant RJ11 76 (56320) ∈ cr_T := cr_T_mem (List.mem_of_getElem? (i := 588) (by decide +kernel)) (by decide +kernel)
theorem mk_X9_83 : Cond.constant RX9 83 (1103515245) ∈ cr_T := cr_T_mem (List.mem_of_getElem? (i := 694) (by decide +kernel)) (by decide +kernel)
theorem mk_X9_84 : Cond.constant RX9 84 (2147483647) ∈ cr_T := cr_T_mem (List.mem_of_getElem? (i := 695) (by decide +kernel)) (by decide +kernel)
theorem mk_X9_85 : Cond.constant RX9 85 (65536) ∈ cr_T := cr_T_mem (List.mem_of_getElem? (i := 696) (by decide +kernel)) (by decide +kernel)
theorem mk_X5_41 : Cond.constant RX5 41 (1000000) ∈ cr_T := cr_T_mem (List.mem_of_getElem? (i := 734) (by decide +kernel)) (by decide +kernel)
theorem mk_X10_221 : Cond.constant RX10 221 (1000000) ∈ cr_T := cr_T_mem (List.mem_of_getElem? (i := 752) (by decide +kernel)) (by decide +kernel)
theorem mk_J6_265 : Cond.constant RJ6 265 (1431655765) ∈ cr_T := cr_T_mem (List.mem_of_getElem? (i := 807) (by decide +kernel)) (by decide +kernel)
theorem mk_J6_266 : Cond.constant RJ6 266 (858993459) ∈ cr_T := cr_T_mem (List.mem_of_getElem? (i := 808) (by decide +kernel)) (by decide +kernel)
theorem mk_J6_267 : Cond.constant RJ6 267 (252645135) ∈ cr_T := cr_T_mem (List.mem_of_getElem? (i := 809) (by decide +kernel)) (by decide +kernel)
theorem mk_X11_208 : Cond.constant RX11 208 (1103515245) ∈ cr_T := cr_T_mem (List.mem_of_getElem? (i := 1200) (by decide +kernel)) (by decide +kernel)
theorem mk_X11_209 : Cond.constant RX11 209 (2147483647) ∈ cr_T := cr_T_mem (List.mem_of_getElem? (i := 1201) (by decide +kernel)) (by decide +kernel)
theorem mk_X11_210 : Cond.constant RX11 210 (65536) ∈ cr_T := cr_T_mem (List.mem_of_getElem? (i := 1202) (by decide +kernel)) (by decide +kernel)
theorem mk_X11_214 : Cond.constant RX11 214 (999999) ∈ cr_T := cr_T_mem (List.mem_of_getElem? (i := 1224) (by decide +kernel)) (by decide +kernel)
theorem ml_X11_75 : Cond.constantLong RX11 75 (3) ∈ cr_T := cr_T_mem (List.mem_of_getElem? (i := 1049) (by decide +kernel)) (by decide +kernel)
theorem ml_X11_77 : Cond.constantLong RX11 77 (30) ∈ cr_T := cr_T_mem (List.mem_of_getElem? (i := 1053) (by decide +kernel)) (by decide +kernel)
theorem ml_X11_79 : Cond.constantLong RX11 79 (2) ∈ cr_T := cr_T_mem (List.mem_of_getElem? (i := 1054) (by decide +kernel)) (by decide +kernel)
theorem ml_X11_81 : Cond.constantLong RX11 81 (24) ∈ cr_T := cr_T_mem (List.mem_of_getElem? (i := 1055) (by decide +kernel)) (by decide +kernel)
theorem ml_X11_91 : Cond.constantLong RX11 91 (9) ∈ cr_T := cr_T_mem (List.mem_of_getElem? (i := 1072) (by decide +kernel)) (by decide +kernel)
theorem ml_X11_93 : Cond.constantLong RX11 93 (5) ∈ cr_T := cr_T_mem (List.mem_of_getElem? (i := 1073) (by decide +kernel)) (by decide +kernel)
theorem ml_X11_99 : Cond.constantLong RX11 99 (4) ∈ cr_T := cr_T_mem (List.mem_of_getElem? (i := 1082) (by decide +kernel)) (by decide +kernel)
theorem ml_X11_118 : Cond.constantLong RX11 118 (99999) ∈ cr_T := cr_T_mem (List.mem_of_getElem? (i := 1107) (by decide +kernel)) (by decide +kernel)
theorem ml_X11_146 : Cond.constantLong RX11 146 (32) ∈ cr_T := cr_T_mem (List.mem_of_getElem? (i := 1120) (by decide +kernel)) (by decide +kernel)
theorem ml_X11_148 : Cond.constantLong RX11 148 (126) ∈ cr_T := cr_T_mem (List.mem_of_getElem? (i := 1121) (by decide +kernel)) (by decide +kernel)
theorem ml_X11_167 : Cond.constantLong RX11 167 (48) ∈ cr_T := cr_T_mem (List.mem_of_getElem? (i := 1142) (by decide +kernel)) (by decide +kernel)
theorem ml_X11_169 : Cond.constantLong RX11 169 (57) ∈ cr_T := cr_T_mem (List.mem_of_getElem? (i := 1143) (by decide +kernel)) (by decide +kernel)
theorem ml_X11_206 : Cond.constantLong RX11 206 (99) ∈ cr_T := cr_T_mem (List.mem_of_getElem? (i := 1176) (by decide +kernel)) (by decide +kernel)
theorem ml_X11_73 : Cond.constantLong RX11 73 (9999) ∈ cr_T := cr_T_mem (List.mem_of_getElem? (i := 1218) (by decide +kernel)) (by decide +kernel)
theorem ml_X11_225 : Cond.constantLong RX11 225 (-2) ∈ cr_T := cr_T_mem (List.mem_of_getElem? (i := 1219) (by decide +kernel)) (by decide +kernel)
theorem ml_X11_236 : Cond.constantLong RX11 236 (-1) ∈ cr_T := cr_T_mem (List.mem_of_getElem? (i := 1256) (by decide +kernel)) (by decide +kernel)
theorem ml_X11_241 : Cond.constantLong RX11 241 (999) ∈ cr_T := cr_T_mem (List.mem_of_getElem? (i := 1268) (by decide +kernel)) (by decide +kernel)
theorem ml_L_155 : Cond.constantLong RL 155 (4294967295) ∈ cr_T := cr_T_mem (List.mem_of_getElem? (i := 1359) (by decide +kernel)) (by decide +kernel)
theorem mc_X10_init : Cond.code yX10_init cX10_init 2 none ∈ cr_T := cr_T_mem (List.mem_of_getElem? (i := 81) (by decide +kernel)) (by decide +kernel)
theorem cY_X10_init : cr_Y yX10_init cX10_init 2 0 none := ⟨mc_X10_init, mi_X10, by decide +kernel, by decide +kernel, by decide +kernel⟩
theorem mc_X9_init : Cond.code yX9_init cX9_init 2 none ∈ cr_T := cr_T_mem (List.mem_of_getElem? (i := 89) (by decide +kernel)) (by decide +kernel)
theorem cY_X9_init : cr_Y yX9_init cX9_init 2 0 none := ⟨mc_X9_init, mi_X9, by decide +kernel, by decide +kernel, by decide +kernel⟩
theorem mc_X8_init : Cond.code yX8_init cX8_init 1 none ∈ cr_T := cr_T_mem (List.mem_of_getElem? (i := 99) (by decide +kernel)) (by decide +kernel)
theorem cY_X8_init : cr_Y yX8_init cX8_init 1 0 none := ⟨mc_X8_init, mi_X8, by decide +kernel, by decide +kernel, by decide +kernel⟩
theorem mc_X2_init : Cond.code yX2_init cX2_init 1 none ∈ cr_T := cr_T_mem (List.mem_of_getElem? (i := 123) (by decide +kernel)) (by decide +kernel)
theorem cY_X2_init : cr_Y yX2_init cX2_init 1 0 none := ⟨mc_X2_init, mi_X2, by decide +kernel, by decide +kernel, by decide +kernel⟩
theorem mc_X3_init : Cond.code yX3_init cX3_init 1 none ∈ cr_T := cr_T_mem (List.mem_of_getElem? (i := 143) (by decide +kernel)) (by decide +kernel)
theorem cY_X3_init : cr_Y yX3_init cX3_init 1 0 none := ⟨mc_X3_init, mi_X3, by decide +kernel, by decide +kernel, by decide +kernel⟩
theorem mc_X6_init : Cond.code yX6_init cX6_init 1 none ∈ cr_T := cr_T_mem (List.mem_of_getElem? (i := 174) (by decide +kernel)) (by decide +kernel)
theorem cY_X6_init : cr_Y yX6_init cX6_init 1 0 none := ⟨mc_X6_init, mi_X6, by decide +kernel, by decide +kernel, by decide +kernel⟩
theorem mc_X7_init : Cond.code yX7_init cX7_init 2 none ∈ cr_T := cr_T_mem (List.mem_of_getElem? (i := 233) (by decide +kernel)) (by decide +kernel)
theorem cY_X7_init : cr_Y yX7_init cX7_init 2 0 none := ⟨mc_X7_init, mi_X7, by decide +kernel, by decide +kernel, by decide +kernel⟩
theorem mc_X0_init : Cond.code yX0_init cX0_init 1 none ∈ cr_T := cr_T_mem (List.mem_of_getElem? (i := 272) (by decide +kernel)) (by decide +kernel)
theorem cY_X0_init : cr_Y yX0_init cX0_init 1 0 none := ⟨mc_X0_init, mi_X0, by decide +kernel, by decide +kernel, by decide +kernel⟩
theorem mc_X5_init : Cond.code yX5_init cX5_init 1 none ∈ cr_T := cr_T_mem (List.mem_of_getElem? (i := 301) (by decide +kernel)) (by decide +kernel)
theorem cY_X5_init : cr_Y yX5_init cX5_init 1 0 none := ⟨mc_X5_init, mi_X5, by decide +kernel, by decide +kernel, by decide +kernel⟩
theorem mc_X1_init : Cond.code yX1_init cX1_init 1 none ∈ cr_T := cr_T_mem (List.mem_of_getElem? (i := 328) (by decide +kernel)) (by decide +kernel)
theorem cY_X1_init : cr_Y yX1_init cX1_init 1 0 none := ⟨mc_X1_init, mi_X1, by decide +kernel, by decide +kernel, by decide +kernel⟩
theorem mc_X4_init : Cond.code yX4_init cX4_init 1 none ∈ cr_T := cr_T_mem (List.mem_of_getElem? (i := 357) (by decide +kernel)) (by decide +kernel)
theorem cY_X4_init : cr_Y yX4_init cX4_init 1 0 none := ⟨mc_X4_init, mi_X4, by decide +kernel, by decide +kernel, by decide +kernel⟩
theorem mc_X10_pair : Cond.code yX10_pair cX10_pair 5 (some .int) ∈ cr_T := cr_T_mem (List.mem_of_getElem? (i := 405) (by decide +kernel)) (by decide +kernel)
theorem cY_X10_pair : cr_Y yX10_pair cX10_pair 5 4 (some .int) := ⟨mc_X10_pair, mi_X10, by decide +kernel, by decide +kernel, by decide +kernel⟩
theorem mv_X10_pair : Cond.instanceMethod yX10_pair ∈ cr_T ∧ Cond.selects RX10 yX10_pair yX10_pair ∈ cr_T := ⟨cr_T_mem (List.mem_of_getElem? (i := 403) (by decide +kernel)) (by decide +kernel), cr_T_mem (List.mem_of_getElem? (i := 404) (by decide +kernel)) (by decide +kernel)⟩
theorem mc_X10_isWithin : Cond.code yX10_isWithin cX10_isWithin 3 (some .boolean) ∈ cr_T := cr_T_mem (List.mem_of_getElem? (i := 408) (by decide +kernel)) (by decide +kernel)
theorem cY_X10_isWithin : cr_Y yX10_isWithin cX10_isWithin 3 3 (some .boolean) := ⟨mc_X10_isWithin, mi_X10, by decide +kernel, by decide +kernel, by decide +kernel⟩
theorem mv_X10_isWithin : Cond.static yX10_isWithin ∈ cr_T := cr_T_mem (List.mem_of_getElem? (i := 407) (by decide +kernel)) (by decide +kernel)
theorem mc_X3_become : Cond.code yX3_become cX3_become 5 none ∈ cr_T := cr_T_mem (List.mem_of_getElem? (i := 412) (by decide +kernel)) (by decide +kernel)
theorem cY_X3_become : cr_Y yX3_become cX3_become 5 4 none := ⟨mc_X3_become, mi_X3, by decide +kernel, by decide +kernel, by decide +kernel⟩
theorem mv_X3_become : Cond.instanceMethod yX3_become ∈ cr_T ∧ Cond.selects RX3 yX3_become yX3_become ∈ cr_T := ⟨cr_T_mem (List.mem_of_getElem? (i := 410) (by decide +kernel)) (by decide +kernel), cr_T_mem (List.mem_of_getElem? (i := 411) (by decide +kernel)) (by decide +kernel)⟩
theorem mc_X10_phase : Cond.code yX10_phase cX10_phase 4 (some .int) ∈ cr_T := cr_T_mem (List.mem_of_getElem? (i := 416) (by decide +kernel)) (by decide +kernel)
theorem cY_X10_phase : cr_Y yX10_phase cX10_phase 4 2 (some .int) := ⟨mc_X10_phase, mi_X10, by decide +kernel, by decide +kernel, by decide +kernel⟩
theorem mv_X10_phase : Cond.instanceMethod yX10_phase ∈ cr_T ∧ Cond.selects RX10 yX10_phase yX10_phase ∈ cr_T := ⟨cr_T_mem (List.mem_of_getElem? (i := 414) (by decide +kernel)) (by decide +kernel), cr_T_mem (List.mem_of_getElem? (i := 415) (by decide +kernel)) (by decide +kernel)⟩
theorem mc_X10_isPair : Cond.code yX10_isPair cX10_isPair 2 (some .boolean) ∈ cr_T := cr_T_mem (List.mem_of_getElem? (i := 420) (by decide +kernel)) (by decide +kernel)
theorem cY_X10_isPair : cr_Y yX10_isPair cX10_isPair 2 1 (some .boolean) := ⟨mc_X10_isPair, mi_X10, by decide +kernel, by decide +kernel, by decide +kernel⟩
theorem mv_X10_isPair : Cond.instanceMethod yX10_isPair ∈ cr_T ∧ Cond.selects RX10 yX10_isPair yX10_isPair ∈ cr_T := ⟨cr_T_mem (List.mem_of_getElem? (i := 419) (by decide +kernel)) (by decide +kernel), cr_T_mem (List.mem_of_getElem? (i := 0) (by decide +kernel)) (by decide +kernel)⟩
theorem mc_X10_ship : Cond.code yX10_ship cX10_ship 4 (some .int) ∈ cr_T := cr_T_mem (List.mem_of_getElem? (i := 424) (by decide +kernel)) (by decide +kernel)
theorem cY_X10_ship : cr_Y yX10_ship cX10_ship 4 3 (some .int) := ⟨mc_X10_ship, mi_X10, by decide +kernel, by decide +kernel, by decide +kernel⟩
theorem mv_X10_ship : Cond.instanceMethod yX10_ship ∈ cr_T ∧ Cond.selects RX10 yX10_ship yX10_ship ∈ cr_T := ⟨cr_T_mem (List.mem_of_getElem? (i := 422) (by decide +kernel)) (by decide +kernel), cr_T_mem (List.mem_of_getElem? (i := 423) (by decide +kernel)) (by decide +kernel)⟩
theorem mc_X6_become : Cond.code yX6_become cX6_become 4 none ∈ cr_T := cr_T_mem (List.mem_of_getElem? (i := 428) (by decide +kernel)) (by decide +kernel)
theorem cY_X6_become : cr_Y yX6_become cX6_become 4 3 none := ⟨mc_X6_become, mi_X6, by decide +kernel, by decide +kernel, by decide +kernel⟩
theorem mv_X6_become : Cond.instanceMethod yX6_become ∈ cr_T ∧ Cond.selects RX6 yX6_become yX6_become ∈ cr_T := ⟨cr_T_mem (List.mem_of_getElem? (i := 426) (by decide +kernel)) (by decide +kernel), cr_T_mem (List.mem_of_getElem? (i := 427) (by decide +kernel)) (by decide +kernel)⟩
theorem mc_X10_of : Cond.code yX10_of cX10_of 4 (some .int) ∈ cr_T := cr_T_mem (List.mem_of_getElem? (i := 432) (by decide +kernel)) (by decide +kernel)
theorem cY_X10_of : cr_Y yX10_of cX10_of 4 2 (some .int) := ⟨mc_X10_of, mi_X10, by decide +kernel, by decide +kernel, by decide +kernel⟩
theorem mv_X10_of : Cond.instanceMethod yX10_of ∈ cr_T ∧ Cond.selects RX10 yX10_of yX10_of ∈ cr_T := ⟨cr_T_mem (List.mem_of_getElem? (i := 430) (by decide +kernel)) (by decide +kernel), cr_T_mem (List.mem_of_getElem? (i := 431) (by decide +kernel)) (by decide +kernel)⟩
theorem mc_X10_told : Cond.code yX10_told cX10_told 4 (some .int) ∈ cr_T := cr_T_mem (List.mem_of_getElem? (i := 436) (by decide +kernel)) (by decide +kernel)
theorem cY_X10_told : cr_Y yX10_told cX10_told 4 2 (some .int) := ⟨mc_X10_told, mi_X10, by decide +kernel, by decide +kernel, by decide +kernel⟩
theorem mv_X10_told : Cond.instanceMethod yX10_told ∈ cr_T ∧ Cond.selects RX10 yX10_told yX10_told ∈ cr_T := ⟨cr_T_mem (List.mem_of_getElem? (i := 434) (by decide +kernel)) (by decide +kernel), cr_T_mem (List.mem_of_getElem? (i := 435) (by decide +kernel)) (by decide +kernel)⟩
theorem mc_X10_isShip : Cond.code yX10_isShip cX10_isShip 2 (some .boolean) ∈ cr_T := cr_T_mem (List.mem_of_getElem? (i := 440) (by decide +kernel)) (by decide +kernel)
theorem cY_X10_isShip : cr_Y yX10_isShip cX10_isShip 2 1 (some .boolean) := ⟨mc_X10_isShip, mi_X10, by decide +kernel, by decide +kernel, by decide +kernel⟩
theorem mv_X10_isShip : Cond.instanceMethod yX10_isShip ∈ cr_T ∧ Cond.selects RX10 yX10_isShip yX10_isShip ∈ cr_T := ⟨cr_T_mem (List.mem_of_getElem? (i := 439) (by decide +kernel)) (by decide +kernel), cr_T_mem (List.mem_of_getElem? (i := 1) (by decide +kernel)) (by decide +kernel)⟩
theorem mc_X6_low : Cond.code yX6_low cX6_low 1 (some .int) ∈ cr_T := cr_T_mem (List.mem_of_getElem? (i := 444) (by decide +kernel)) (by decide +kernel)
theorem cY_X6_low : cr_Y yX6_low cX6_low 1 0 (some .int) := ⟨mc_X6_low, mi_X6, by decide +kernel, by decide +kernel, by decide +kernel⟩
theorem mv_X6_low : Cond.instanceMethod yX6_low ∈ cr_T ∧ Cond.selects RX6 yX6_low yX6_low ∈ cr_T := ⟨cr_T_mem (List.mem_of_getElem? (i := 442) (by decide +kernel)) (by decide +kernel), cr_T_mem (List.mem_of_getElem? (i := 443) (by decide +kernel)) (by decide +kernel)⟩
theorem mc_X6_high : Cond.code yX6_high cX6_high 2 (some .int) ∈ cr_T := cr_T_mem (List.mem_of_getElem? (i := 448) (by decide +kernel)) (by decide +kernel)
theorem cY_X6_high : cr_Y yX6_high cX6_high 2 0 (some .int) := ⟨mc_X6_high, mi_X6, by decide +kernel, by decide +kernel, by decide +kernel⟩
theorem mv_X6_high : Cond.instanceMethod yX6_high ∈ cr_T ∧ Cond.selects RX6 yX6_high yX6_high ∈ cr_T := ⟨cr_T_mem (List.mem_of_getElem? (i := 446) (by decide +kernel)) (by decide +kernel), cr_T_mem (List.mem_of_getElem? (i := 447) (by decide +kernel)) (by decide +kernel)⟩
theorem mc_X6_span : Cond.code yX6_span cX6_span 1 (some .int) ∈ cr_T := cr_T_mem (List.mem_of_getElem? (i := 453) (by decide +kernel)) (by decide +kernel)
theorem cY_X6_span : cr_Y yX6_span cX6_span 1 0 (some .int) := ⟨mc_X6_span, mi_X6, by decide +kernel, by decide +kernel, by decide +kernel⟩
theorem mv_X6_span : Cond.instanceMethod yX6_span ∈ cr_T ∧ Cond.selects RX6 yX6_span yX6_span ∈ cr_T := ⟨cr_T_mem (List.mem_of_getElem? (i := 451) (by decide +kernel)) (by decide +kernel), cr_T_mem (List.mem_of_getElem? (i := 452) (by decide +kernel)) (by decide +kernel)⟩
theorem mc_X10_open : Cond.code yX10_open cX10_open 3 (some .int) ∈ cr_T := cr_T_mem (List.mem_of_getElem? (i := 457) (by decide +kernel)) (by decide +kernel)
theorem cY_X10_open : cr_Y yX10_open cX10_open 3 2 (some .int) := ⟨mc_X10_open, mi_X10, by decide +kernel, by decide +kernel, by decide +kernel⟩
theorem mv_X10_open : Cond.instanceMethod yX10_open ∈ cr_T ∧ Cond.selects RX10 yX10_open yX10_open ∈ cr_T := ⟨cr_T_mem (List.mem_of_getElem? (i := 455) (by decide +kernel)) (by decide +kernel), cr_T_mem (List.mem_of_getElem? (i := 456) (by decide +kernel)) (by decide +kernel)⟩
theorem mc_X3_isOpenNow : Cond.code yX3_isOpenNow cX3_isOpenNow 2 (some .boolean) ∈ cr_T := cr_T_mem (List.mem_of_getElem? (i := 462) (by decide +kernel)) (by decide +kernel)
theorem cY_X3_isOpenNow : cr_Y yX3_isOpenNow cX3_isOpenNow 2 1 (some .boolean) := ⟨mc_X3_isOpenNow, mi_X3, by decide +kernel, by decide +kernel, by decide +kernel⟩
theorem mv_X3_isOpenNow : Cond.instanceMethod yX3_isOpenNow ∈ cr_T ∧ Cond.selects RX3 yX3_isOpenNow yX3_isOpenNow ∈ cr_T := ⟨cr_T_mem (List.mem_of_getElem? (i := 460) (by decide +kernel)) (by decide +kernel), cr_T_mem (List.mem_of_getElem? (i := 461) (by decide +kernel)) (by decide +kernel)⟩
theorem mc_X3_isOpenAt : Cond.code yX3_isOpenAt cX3_isOpenAt 3 (some .boolean) ∈ cr_T := cr_T_mem (List.mem_of_getElem? (i := 466) (by decide +kernel)) (by decide +kernel)
theorem cY_X3_isOpenAt : cr_Y yX3_isOpenAt cX3_isOpenAt 3 2 (some .boolean) := ⟨mc_X3_isOpenAt, mi_X3, by decide +kernel, by decide +kernel, by decide +kernel⟩
theorem mv_X3_isOpenAt : Cond.instanceMethod yX3_isOpenAt ∈ cr_T ∧ Cond.selects RX3 yX3_isOpenAt yX3_isOpenAt ∈ cr_T := ⟨cr_T_mem (List.mem_of_getElem? (i := 464) (by decide +kernel)) (by decide +kernel), cr_T_mem (List.mem_of_getElem? (i := 465) (by decide +kernel)) (by decide +kernel)⟩
theorem mc_X3_isPlainOpen : Cond.code yX3_isPlainOpen cX3_isPlainOpen 3 (some .boolean) ∈ cr_T := cr_T_mem (List.mem_of_getElem? (i := 470) (by decide +kernel)) (by decide +kernel)
theorem cY_X3_isPlainOpen : cr_Y yX3_isPlainOpen cX3_isPlainOpen 3 2 (some .boolean) := ⟨mc_X3_isPlainOpen, mi_X3, by decide +kernel, by decide +kernel, by decide +kernel⟩
theorem mv_X3_isPlainOpen : Cond.instanceMethod yX3_isPlainOpen ∈ cr_T ∧ Cond.selects RX3 yX3_isPlainOpen yX3_isPlainOpen ∈ cr_T := ⟨cr_T_mem (List.mem_of_getElem? (i := 469) (by decide +kernel)) (by decide +kernel), cr_T_mem (List.mem_of_getElem? (i := 2) (by decide +kernel)) (by decide +kernel)⟩
theorem mc_X10_oneIf : Cond.code yX10_oneIf cX10_oneIf 1 (some .int) ∈ cr_T := cr_T_mem (List.mem_of_getElem? (i := 473) (by decide +kernel)) (by decide +kernel)
theorem cY_X10_oneIf : cr_Y yX10_oneIf cX10_oneIf 1 1 (some .int) := ⟨mc_X10_oneIf, mi_X10, by decide +kernel, by decide +kernel, by decide +kernel⟩
theorem mv_X10_oneIf : Cond.static yX10_oneIf ∈ cr_T := cr_T_mem (List.mem_of_getElem? (i := 472) (by decide +kernel)) (by decide +kernel)
theorem mc_X10_type : Cond.code yX10_type cX10_type 2 (some .int) ∈ cr_T := cr_T_mem (List.mem_of_getElem? (i := 477) (by decide +kernel)) (by decide +kernel)
theorem cY_X10_type : cr_Y yX10_type cX10_type 2 1 (some .int) := ⟨mc_X10_type, mi_X10, by decide +kernel, by decide +kernel, by decide +kernel⟩
theorem mv_X10_type : Cond.instanceMethod yX10_type ∈ cr_T ∧ Cond.selects RX10 yX10_type yX10_type ∈ cr_T := ⟨cr_T_mem (List.mem_of_getElem? (i := 475) (by decide +kernel)) (by decide +kernel), cr_T_mem (List.mem_of_getElem? (i := 476) (by decide +kernel)) (by decide +kernel)⟩
theorem mc_X7_add : Cond.code yX7_add cX7_add 2 (some .boolean) ∈ cr_T := cr_T_mem (List.mem_of_getElem? (i := 481) (by decide +kernel)) (by decide +kernel)
theorem cY_X7_add : cr_Y yX7_add cX7_add 2 1 (some .boolean) := ⟨mc_X7_add, mi_X7, by decide +kernel, by decide +kernel, by decide +kernel⟩
theorem mv_X7_add : Cond.instanceMethod yX7_add ∈ cr_T ∧ Cond.selects RX7 yX7_add yX7_add ∈ cr_T := ⟨cr_T_mem (List.mem_of_getElem? (i := 479) (by decide +kernel)) (by decide +kernel), cr_T_mem (List.mem_of_getElem? (i := 480) (by decide +kernel)) (by decide +kernel)⟩
theorem mc_X10_strait : Cond.code yX10_strait cX10_strait 3 (some .int) ∈ cr_T := cr_T_mem (List.mem_of_getElem? (i := 485) (by decide +kernel)) (by decide +kernel)
theorem cY_X10_strait : cr_Y yX10_strait cX10_strait 3 0 (some .int) := ⟨mc_X10_strait, mi_X10, by decide +kernel, by decide +kernel, by decide +kernel⟩
theorem mv_X10_strait : Cond.instanceMethod yX10_strait ∈ cr_T ∧ Cond.selects RX10 yX10_strait yX10_strait ∈ cr_T := ⟨cr_T_mem (List.mem_of_getElem? (i := 483) (by decide +kernel)) (by decide +kernel), cr_T_mem (List.mem_of_getElem? (i := 484) (by decide +kernel)) (by decide +kernel)⟩
theorem mc_X7_isStrait : Cond.code yX7_isStrait cX7_isStrait 2 (some .boolean) ∈ cr_T := cr_T_mem (List.mem_of_getElem? (i := 489) (by decide +kernel)) (by decide +kernel)
theorem cY_X7_isStrait : cr_Y yX7_isStrait cX7_isStrait 2 0 (some .boolean) := ⟨mc_X7_isStrait, mi_X7, by decide +kernel, by decide +kernel, by decide +kernel⟩
theorem mv_X7_isStrait : Cond.instanceMethod yX7_isStrait ∈ cr_T ∧ Cond.selects RX7 yX7_isStrait yX7_isStrait ∈ cr_T := ⟨cr_T_mem (List.mem_of_getElem? (i := 487) (by decide +kernel)) (by decide +kernel), cr_T_mem (List.mem_of_getElem? (i := 488) (by decide +kernel)) (by decide +kernel)⟩
theorem mc_X7_isPairRead : Cond.code yX7_isPairRead cX7_isPairRead 7 (some .boolean) ∈ cr_T := cr_T_mem (List.mem_of_getElem? (i := 493) (by decide +kernel)) (by decide +kernel)
theorem cY_X7_isPairRead : cr_Y yX7_isPairRead cX7_isPairRead 7 1 (some .boolean) := ⟨mc_X7_isPairRead, mi_X7, by decide +kernel, by decide +kernel, by decide +kernel⟩
theorem mv_X7_isPairRead : Cond.instanceMethod yX7_isPairRead ∈ cr_T ∧ Cond.selects RX7 yX7_isPairRead yX7_isPairRead ∈ cr_T := ⟨cr_T_mem (List.mem_of_getElem? (i := 492) (by decide +kernel)) (by decide +kernel), cr_T_mem (List.mem_of_getElem? (i := 3) (by decide +kernel)) (by decide +kernel)⟩
theorem mc_X7_kindRead : Cond.code yX7_kindRead cX7_kindRead 3 (some .int) ∈ cr_T := cr_T_mem (List.mem_of_getElem? (i := 498) (by decide +kernel)) (by decide +kernel)
theorem cY_X7_kindRead : cr_Y yX7_kindRead cX7_kindRead 3 1 (some .int) := ⟨mc_X7_kindRead, mi_X7, by decide +kernel, by decide +kernel, by decide +kernel⟩
theorem mv_X7_kindRead : Cond.instanceMethod yX7_kindRead ∈ cr_T ∧ Cond.selects RX7 yX7_kindRead yX7_kindRead ∈ cr_T := ⟨cr_T_mem (List.mem_of_getElem? (i := 497) (by decide +kernel)) (by decide +kernel), cr_T_mem (List.mem_of_getElem? (i := 4) (by decide +kernel)) (by decide +kernel)⟩
theorem mc_X7_letterHere : Cond.code yX7_letterHere cX7_letterHere 1 (some .char) ∈ cr_T := cr_T_mem (List.mem_of_getElem? (i := 502) (by decide +kernel)) (by decide +kernel)
theorem cY_X7_letterHere : cr_Y yX7_letterHere cX7_letterHere 1 0 (some .char) := ⟨mc_X7_letterHere, mi_X7, by decide +kernel, by decide +kernel, by decide +kernel⟩
theorem mv_X7_letterHere : Cond.instanceMethod yX7_letterHere ∈ cr_T ∧ Cond.selects RX7 yX7_letterHere yX7_letterHere ∈ cr_T := ⟨cr_T_mem (List.mem_of_getElem? (i := 501) (by decide +kernel)) (by decide +kernel), cr_T_mem (List.mem_of_getElem? (i := 5) (by decide +kernel)) (by decide +kernel)⟩
theorem mc_J0_indexOf_0f7a4 : Cond.code yJ0_indexOf_0f7a4 cJ0_indexOf_0f7a4 2 (some .int) ∈ cr_T := cr_T_mem (List.mem_of_getElem? (i := 506) (by decide +kernel)) (by decide +kernel)
theorem cY_J0_indexOf_0f7a4 : cr_Y yJ0_indexOf_0f7a4 cJ0_indexOf_0f7a4 2 1 (some .int) := ⟨mc_J0_indexOf_0f7a4, mi_J0, by decide +kernel, by decide +kernel, by decide +kernel⟩
theorem mv_J0_indexOf_0f7a4 : Cond.instanceMethod yJ0_indexOf_0f7a4 ∈ cr_T ∧ Cond.selects RJ0 yJ0_indexOf_0f7a4 yJ0_indexOf_0f7a4 ∈ cr_T := ⟨cr_T_mem (List.mem_of_getElem? (i := 504) (by decide +kernel)) (by decide +kernel), cr_T_mem (List.mem_of_getElem? (i := 505) (by decide +kernel)) (by decide +kernel)⟩
theorem mc_J0_indexOf_7cf53 : Cond.code yJ0_indexOf_7cf53 cJ0_indexOf_7cf53 3 (some .int) ∈ cr_T := cr_T_mem (List.mem_of_getElem? (i := 510) (by decide +kernel)) (by decide +kernel)
theorem cY_J0_indexOf_7cf53 : cr_Y yJ0_indexOf_7cf53 cJ0_indexOf_7cf53 3 2 (some .int) := ⟨mc_J0_indexOf_7cf53, mi_J0, by decide +kernel, by decide +kernel, by decide +kernel⟩
theorem mv_J0_indexOf_7cf53 : Cond.instanceMethod yJ0_indexOf_7cf53 ∈ cr_T ∧ Cond.selects RJ0 yJ0_indexOf_7cf53 yJ0_indexOf_7cf53 ∈ cr_T := ⟨cr_T_mem (List.mem_of_getElem? (i := 508) (by decide +kernel)) (by decide +kernel), cr_T_mem (List.mem_of_getElem? (i := 509) (by decide +kernel)) (by decide +kernel)⟩
theorem mc_J0_isLatin1_aae02 : Cond.code yJ0_isLatin1_aae02 cJ0_isLatin1_aae02 1 (some .boolean) ∈ cr_T := cr_T_mem (List.mem_of_getElem? (i := 514) (by decide +kernel)) (by decide +kernel)
theorem cY_J0_isLatin1_aae02 : cr_Y yJ0_isLatin1_aae02 cJ0_isLatin1_aae02 1 0 (some .boolean) := ⟨mc_J0_isLatin1_aae02, mi_J0, by decide +kernel, by decide +kernel, by decide +kernel⟩
theorem mv_J0_isLatin1_aae02 : Cond.instanceMethod yJ0_isLatin1_aae02 ∈ cr_T ∧ Cond.selects RJ0 yJ0_isLatin1_aae02 yJ0_isLatin1_aae02 ∈ cr_T := ⟨cr_T_mem (List.mem_of_getElem? (i := 512) (by decide +kernel)) (by decide +kernel), cr_T_mem (List.mem_of_getElem? (i := 513) (by decide +kernel)) (by decide +kernel)⟩
theorem mc_J0_length_8abf5 : Cond.code yJ0_length_8abf5 cJ0_length_8abf5 1 (some .int) ∈ cr_T := cr_T_mem (List.mem_of_getElem? (i := 520) (by decide +kernel)) (by decide +kernel)
theorem cY_J0_length_8abf5 : cr_Y yJ0_length_8abf5 cJ0_length_8abf5 1 0 (some .int) := ⟨mc_J0_length_8abf5, mi_J0, by decide +kernel, by decide +kernel, by decide +kernel⟩
theorem mv_J0_length_8abf5 : Cond.instanceMethod yJ0_length_8abf5 ∈ cr_T ∧ Cond.selects RJ0 yJ0_length_8abf5 yJ0_length_8abf5 ∈ cr_T := ⟨cr_T_mem (List.mem_of_getElem? (i := 518) (by decide +kernel)) (by decide +kernel), cr_T_mem (List.mem_of_getElem? (i := 519) (by decide +kernel)) (by decide +kernel)⟩
theorem mc_J0_coder_7d493 : Cond.code yJ0_coder_7d493 cJ0_coder_7d493 1 (some .byte) ∈ cr_T := cr_T_mem (List.mem_of_getElem? (i := 524) (by decide +kernel)) (by decide +kernel)
theorem cY_J0_coder_7d493 : cr_Y yJ0_coder_7d493 cJ0_coder_7d493 1 0 (some .byte) := ⟨mc_J0_coder_7d493, mi_J0, by decide +kernel, by decide +kernel, by decide +kernel⟩
theorem mv_J0_coder_7d493 : Cond.instanceMethod yJ0_coder_7d493 ∈ cr_T ∧ Cond.selects RJ0 yJ0_coder_7d493 yJ0_coder_7d493 ∈ cr_T := ⟨cr_T_mem (List.mem_of_getElem? (i := 522) (by decide +kernel)) (by decide +kernel), cr_T_mem (List.mem_of_getElem? (i := 523) (by decide +kernel)) (by decide +kernel)⟩
theorem mc_J1_indexOf_4cfef : Cond.code yJ1_indexOf_4cfef cJ1_indexOf_4cfef 4 (some .int) ∈ cr_T := cr_T_mem (List.mem_of_getElem? (i := 527) (by decide +kernel)) (by decide +kernel)
theorem cY_J1_indexOf_4cfef : cr_Y yJ1_indexOf_4cfef cJ1_indexOf_4cfef 4 4 (some .int) := ⟨mc_J1_indexOf_4cfef, mi_J1, by decide +kernel, by decide +kernel, by decide +kernel⟩
theorem mv_J1_indexOf_4cfef : Cond.static yJ1_indexOf_4cfef ∈ cr_T := cr_T_mem (List.mem_of_getElem? (i := 526) (by decide +kernel)) (by decide +kernel)
theorem mc_J1_canEncode_9a6ad : Cond.code yJ1_canEncode_9a6ad cJ1_canEncode_9a6ad 1 (some .boolean) ∈ cr_T := cr_T_mem (List.mem_of_getElem? (i := 530) (by decide +kernel)) (by decide +kernel)
theorem cY_J1_canEncode_9a6ad : cr_Y yJ1_canEncode_9a6ad cJ1_canEncode_9a6ad 1 1 (some .boolean) := ⟨mc_J1_canEncode_9a6ad, mi_J1, by decide +kernel, by decide +kernel, by decide +kernel⟩
theorem mv_J1_canEncode_9a6ad : Cond.static yJ1_canEncode_9a6ad ∈ cr_T := cr_T_mem (List.mem_of_getElem? (i := 529) (by decide +kernel)) (by decide +kernel)
theorem mc_J9_max_7cf53 : Cond.code yJ9_max_7cf53 cJ9_max_7cf53 2 (some .int) ∈ cr_T := cr_T_mem (List.mem_of_getElem? (i := 533) (by decide +kernel)) (by decide +kernel)
theorem cY_J9_max_7cf53 : cr_Y yJ9_max_7cf53 cJ9_max_7cf53 2 2 (some .int) := ⟨mc_J9_max_7cf53, mi_J9, by decide +kernel, by decide +kernel, by decide +kernel⟩
theorem mv_J9_max_7cf53 : Cond.static yJ9_max_7cf53 ∈ cr_T := cr_T_mem (List.mem_of_getElem? (i := 532) (by decide +kernel)) (by decide +kernel)
theorem mc_J9_min_7cf53 : Cond.code yJ9_min_7cf53 cJ9_min_7cf53 2 (some .int) ∈ cr_T := cr_T_mem (List.mem_of_getElem? (i := 536) (by decide +kernel)) (by decide +kernel)
theorem cY_J9_min_7cf53 : cr_Y yJ9_min_7cf53 cJ9_min_7cf53 2 2 (some .int) := ⟨mc_J9_min_7cf53, mi_J9, by decide +kernel, by decide +kernel, by decide +kernel⟩
theorem mv_J9_min_7cf53 : Cond.static yJ9_min_7cf53 ∈ cr_T := cr_T_mem (List.mem_of_getElem? (i := 535) (by decide +kernel)) (by decide +kernel)
theorem mc_J1_indexOfChar_4cfef : Cond.code yJ1_indexOfChar_4cfef cJ1_indexOfChar_4cfef 6 (some .int) ∈ cr_T := cr_T_mem (List.mem_of_getElem? (i := 539) (by decide +kernel)) (by decide +kernel)
theorem cY_J1_indexOfChar_4cfef : cr_Y yJ1_indexOfChar_4cfef cJ1_indexOfChar_4cfef 6 4 (some .int) := ⟨mc_J1_indexOfChar_4cfef, mi_J1, by decide +kernel, by decide +kernel, by decide +kernel⟩
theorem mv_J1_indexOfChar_4cfef : Cond.static yJ1_indexOfChar_4cfef ∈ cr_T := cr_T_mem (List.mem_of_getElem? (i := 538) (by decide +kernel)) (by decide +kernel)
theorem mc_J2_indexOf_4cfef : Cond.code yJ2_indexOf_4cfef cJ2_indexOf_4cfef 4 (some .int) ∈ cr_T := cr_T_mem (List.mem_of_getElem? (i := 542) (by decide +kernel)) (by decide +kernel)
theorem cY_J2_indexOf_4cfef : cr_Y yJ2_indexOf_4cfef cJ2_indexOf_4cfef 4 4 (some .int) := ⟨mc_J2_indexOf_4cfef, mi_J2, by decide +kernel, by decide +kernel, by decide +kernel⟩
theorem mv_J2_indexOf_4cfef : Cond.static yJ2_indexOf_4cfef ∈ cr_T := cr_T_mem (List.mem_of_getElem? (i := 541) (by decide +kernel)) (by decide +kernel)
theorem mc_J2_indexOfChar_4cfef : Cond.code yJ2_indexOfChar_4cfef cJ2_indexOfChar_4cfef 4 (some .int) ∈ cr_T := cr_T_mem (List.mem_of_getElem? (i := 548) (by decide +kernel)) (by decide +kernel)
theorem cY_J2_indexOfChar_4cfef : cr_Y yJ2_indexOfChar_4cfef cJ2_indexOfChar_4cfef 4 4 (some .int) := ⟨mc_J2_indexOfChar_4cfef, mi_J2, by decide +kernel, by decide +kernel, by decide +kernel⟩
theorem mv_J2_indexOfChar_4cfef : Cond.static yJ2_indexOfChar_4cfef ∈ cr_T := cr_T_mem (List.mem_of_getElem? (i := 547) (by decide +kernel)) (by decide +kernel)
theorem mc_J2_checkBoundsBeginEnd_d044e : Cond.code yJ2_checkBoundsBeginEnd_d044e cJ2_checkBoundsBeginEnd_d044e 3 none ∈ cr_T := cr_T_mem (List.mem_of_getElem? (i := 551) (by decide +kernel)) (by decide +kernel)
theorem cY_J2_checkBoundsBeginEnd_d044e : cr_Y yJ2_checkBoundsBeginEnd_d044e cJ2_checkBoundsBeginEnd_d044e 3 3 none := ⟨mc_J2_checkBoundsBeginEnd_d044e, mi_J2, by decide +kernel, by decide +kernel, by decide +kernel⟩
theorem mv_J2_checkBoundsBeginEnd_d044e : Cond.static yJ2_checkBoundsBeginEnd_d044e ∈ cr_T := cr_T_mem (List.mem_of_getElem? (i := 550) (by decide +kernel)) (by decide +kernel)
theorem mc_J2_length_9d52b : Cond.code yJ2_length_9d52b cJ2_length_9d52b 1 (some .int) ∈ cr_T := cr_T_mem (List.mem_of_getElem? (i := 554) (by decide +kernel)) (by decide +kernel)
theorem cY_J2_length_9d52b : cr_Y yJ2_length_9d52b cJ2_length_9d52b 1 1 (some .int) := ⟨mc_J2_length_9d52b, mi_J2, by decide +kernel, by decide +kernel, by decide +kernel⟩
theorem mv_J2_length_9d52b : Cond.static yJ2_length_9d52b ∈ cr_T := cr_T_mem (List.mem_of_getElem? (i := 553) (by decide +kernel)) (by decide +kernel)
theorem mc_J0_checkBoundsBeginEnd_23922 : Cond.code yJ0_checkBoundsBeginEnd_23922 cJ0_checkBoundsBeginEnd_23922 3 none ∈ cr_T := cr_T_mem (List.mem_of_getElem? (i := 557) (by decide +kernel)) (by decide +kernel)
theorem cY_J0_checkBoundsBeginEnd_23922 : cr_Y yJ0_checkBoundsBeginEnd_23922 cJ0_checkBoundsBeginEnd_23922 3 3 none := ⟨mc_J0_checkBoundsBeginEnd_23922, mi_J0, by decide +kernel, by decide +kernel, by decide +kernel⟩
theorem mv_J0_checkBoundsBeginEnd_23922 : Cond.static yJ0_checkBoundsBeginEnd_23922 ∈ cr_T := cr_T_mem (List.mem_of_getElem? (i := 556) (by decide +kernel)) (by decide +kernel)
theorem mc_J3_checkFromToIndex_8c36e : Cond.code yJ3_checkFromToIndex_8c36e cJ3_checkFromToIndex_8c36e 4 (some .int) ∈ cr_T := cr_T_mem (List.mem_of_getElem? (i := 562) (by decide +kernel)) (by decide +kernel)
theorem cY_J3_checkFromToIndex_8c36e : cr_Y yJ3_checkFromToIndex_8c36e cJ3_checkFromToIndex_8c36e 4 4 (some .int) := ⟨mc_J3_checkFromToIndex_8c36e, mi_J3, by decide +kernel, by decide +kernel, by decide +kernel⟩
theorem mv_J3_checkFromToIndex_8c36e : Cond.static yJ3_checkFromToIndex_8c36e ∈ cr_T := cr_T_mem (List.mem_of_getElem? (i := 561) (by decide +kernel)) (by decide +kernel)
theorem mc_J2_indexOfCharUnsafe_4cfef : Cond.code yJ2_indexOfCharUnsafe_4cfef cJ2_indexOfCharUnsafe_4cfef 5 (some .int) ∈ cr_T := cr_T_mem (List.mem_of_getElem? (i := 565) (by decide +kernel)) (by decide +kernel)
theorem cY_J2_indexOfCharUnsafe_4cfef : cr_Y yJ2_indexOfCharUnsafe_4cfef cJ2_indexOfCharUnsafe_4cfef 5 4 (some .int) := ⟨mc_J2_indexOfCharUnsafe_4cfef, mi_J2, by decide +kernel, by decide +kernel, by decide +kernel⟩
theorem mv_J2_indexOfCharUnsafe_4cfef : Cond.static yJ2_indexOfCharUnsafe_4cfef ∈ cr_T := cr_T_mem (List.mem_of_getElem? (i := 564) (by decide +kernel)) (by decide +kernel)
theorem mc_J2_getChar_3b067 : Cond.code yJ2_getChar_3b067 cJ2_getChar_3b067 2 (some .char) ∈ cr_T := cr_T_mem (List.mem_of_getElem? (i := 568) (by decide +kernel)) (by decide +kernel)
theorem cY_J2_getChar_3b067 : cr_Y yJ2_getChar_3b067 cJ2_getChar_3b067 2 2 (some .char) := ⟨mc_J2_getChar_3b067, mi_J2, by decide +kernel, by decide +kernel, by decide +kernel⟩
theorem mv_J2_getChar_3b067 : Cond.static yJ2_getChar_3b067 ∈ cr_T := cr_T_mem (List.mem_of_getElem? (i := 567) (by decide +kernel)) (by decide +kernel)
theorem mc_J2_indexOfSupplementary_4cfef : Cond.code yJ2_indexOfSupplementary_4cfef cJ2_indexOfSupplementary_4cfef 7 (some .int) ∈ cr_T := cr_T_mem (List.mem_of_getElem? (i := 577) (by decide +kernel)) (by decide +kernel)
theorem cY_J2_indexOfSupplementary_4cfef : cr_Y yJ2_indexOfSupplementary_4cfef cJ2_indexOfSupplementary_4cfef 7 4 (some .int) := ⟨mc_J2_indexOfSupplementary_4cfef, mi_J2, by decide +kernel, by decide +kernel, by decide +kernel⟩
theorem mv_J2_indexOfSupplementary_4cfef : Cond.static yJ2_indexOfSupplementary_4cfef ∈ cr_T := cr_T_mem (List.mem_of_getElem? (i := 576) (by decide +kernel)) (by decide +kernel)
theorem mc_J11_isValidCodePoint_9a6ad : Cond.code yJ11_isValidCodePoint_9a6ad cJ11_isValidCodePoint_9a6ad 2 (some .boolean) ∈ cr_T := cr_T_mem (List.mem_of_getElem? (i := 580) (by decide +kernel)) (by decide +kernel)
theorem cY_J11_isValidCodePoint_9a6ad : cr_Y yJ11_isValidCodePoint_9a6ad cJ11_isValidCodePoint_9a6ad 2 1 (some .boolean) := ⟨mc_J11_isValidCodePoint_9a6ad, mi_J11, by decide +kernel, by decide +kernel, by decide +kernel⟩
theorem mv_J11_isValidCodePoint_9a6ad : Cond.static yJ11_isValidCodePoint_9a6ad ∈ cr_T := cr_T_mem (List.mem_of_getElem? (i := 579) (by decide +kernel)) (by decide +kernel)
theorem mc_J11_highSurrogate_5068e : Cond.code yJ11_highSurrogate_5068e cJ11_highSurrogate_5068e 1 (some .char) ∈ cr_T := cr_T_mem (List.mem_of_getElem? (i := 583) (by decide +kernel)) (by decide +kernel)
theorem cY_J11_highSurrogate_5068e : cr_Y yJ11_highSurrogate_5068e cJ11_highSurrogate_5068e 1 1 (some .char) := ⟨mc_J11_highSurrogate_5068e, mi_J11, by decide +kernel, by decide +kernel, by decide +kernel⟩
theorem mv_J11_highSurrogate_5068e : Cond.static yJ11_highSurrogate_5068e ∈ cr_T := cr_T_mem (List.mem_of_getElem? (i := 582) (by decide +kernel)) (by decide +kernel)
theorem mc_J11_lowSurrogate_5068e : Cond.code yJ11_lowSurrogate_5068e cJ11_lowSurrogate_5068e 1 (some .char) ∈ cr_T := cr_T_mem (List.mem_of_getElem? (i := 587) (by decide +kernel)) (by decide +kernel)
theorem cY_J11_lowSurrogate_5068e : cr_Y yJ11_lowSurrogate_5068e cJ11_lowSurrogate_5068e 1 1 (some .char) := ⟨mc_J11_lowSurrogate_5068e, mi_J11, by decide +kernel, by decide +kernel, by decide +kernel⟩
theorem mv_J11_lowSurrogate_5068e : Cond.static yJ11_lowSurrogate_5068e ∈ cr_T := cr_T_mem (List.mem_of_getElem? (i := 586) (by decide +kernel)) (by decide +kernel)
theorem mc_X7_numberRead : Cond.code yX7_numberRead cX7_numberRead 5 (some .int) ∈ cr_T := cr_T_mem (List.mem_of_getElem? (i := 592) (by decide +kernel)) (by decide +kernel)
theorem cY_X7_numberRead : cr_Y yX7_numberRead cX7_numberRead 5 2 (some .int) := ⟨mc_X7_numberRead, mi_X7, by decide +kernel, by decide +kernel, by decide +kernel⟩
theorem mv_X7_numberRead : Cond.instanceMethod yX7_numberRead ∈ cr_T ∧ Cond.selects RX7 yX7_numberRead yX7_numberRead ∈ cr_T := ⟨cr_T_mem (List.mem_of_getElem? (i := 591) (by decide +kernel)) (by decide +kernel), cr_T_mem (List.mem_of_getElem? (i := 6) (by decide +kernel)) (by decide +kernel)⟩
theorem mc_X7_isTaken : Cond.code yX7_isTaken cX7_isTaken 2 (some .boolean) ∈ cr_T := cr_T_mem (List.mem_of_getElem? (i := 598) (by decide +kernel)) (by decide +kernel)
theorem cY_X7_isTaken : cr_Y yX7_isTaken cX7_isTaken 2 1 (some .boolean) := ⟨mc_X7_isTaken, mi_X7, by decide +kernel, by decide +kernel, by decide +kernel⟩
theorem mv_X7_isTaken : Cond.instanceMethod yX7_isTaken ∈ cr_T ∧ Cond.selects RX7 yX7_isTaken yX7_isTaken ∈ cr_T := ⟨cr_T_mem (List.mem_of_getElem? (i := 597) (by decide +kernel)) (by decide +kernel), cr_T_mem (List.mem_of_getElem? (i := 7) (by decide +kernel)) (by decide +kernel)⟩
theorem mc_X7_areShipsRead : Cond.code yX7_areShipsRead cX7_areShipsRead 2 (some .boolean) ∈ cr_T := cr_T_mem (List.mem_of_getElem? (i := 603) (by decide +kernel)) (by decide +kernel)
theorem cY_X7_areShipsRead : cr_Y yX7_areShipsRead cX7_areShipsRead 2 0 (some .boolean) := ⟨mc_X7_areShipsRead, mi_X7, by decide +kernel, by decide +kernel, by decide +kernel⟩
theorem mv_X7_areShipsRead : Cond.instanceMethod yX7_areShipsRead ∈ cr_T ∧ Cond.selects RX7 yX7_areShipsRead yX7_areShipsRead ∈ cr_T := ⟨cr_T_mem (List.mem_of_getElem? (i := 602) (by decide +kernel)) (by decide +kernel), cr_T_mem (List.mem_of_getElem? (i := 8) (by decide +kernel)) (by decide +kernel)⟩
theorem mc_X7_isShipRead : Cond.code yX7_isShipRead cX7_isShipRead 5 (some .boolean) ∈ cr_T := cr_T_mem (List.mem_of_getElem? (i := 607) (by decide +kernel)) (by decide +kernel)
theorem cY_X7_isShipRead : cr_Y yX7_isShipRead cX7_isShipRead 5 1 (some .boolean) := ⟨mc_X7_isShipRead, mi_X7, by decide +kernel, by decide +kernel, by decide +kernel⟩
theorem mv_X7_isShipRead : Cond.instanceMethod yX7_isShipRead ∈ cr_T ∧ Cond.selects RX7 yX7_isShipRead yX7_isShipRead ∈ cr_T := ⟨cr_T_mem (List.mem_of_getElem? (i := 606) (by decide +kernel)) (by decide +kernel), cr_T_mem (List.mem_of_getElem? (i := 9) (by decide +kernel)) (by decide +kernel)⟩
theorem mc_X7_digitRead : Cond.code yX7_digitRead cX7_digitRead 3 (some .int) ∈ cr_T := cr_T_mem (List.mem_of_getElem? (i := 612) (by decide +kernel)) (by decide +kernel)
theorem cY_X7_digitRead : cr_Y yX7_digitRead cX7_digitRead 3 1 (some .int) := ⟨mc_X7_digitRead, mi_X7, by decide +kernel, by decide +kernel, by decide +kernel⟩
theorem mv_X7_digitRead : Cond.instanceMethod yX7_digitRead ∈ cr_T ∧ Cond.selects RX7 yX7_digitRead yX7_digitRead ∈ cr_T := ⟨cr_T_mem (List.mem_of_getElem? (i := 611) (by decide +kernel)) (by decide +kernel), cr_T_mem (List.mem_of_getElem? (i := 10) (by decide +kernel)) (by decide +kernel)⟩
theorem mc_X9_settle : Cond.code yX9_settle cX9_settle 2 none ∈ cr_T := cr_T_mem (List.mem_of_getElem? (i := 617) (by decide +kernel)) (by decide +kernel)
theorem cY_X9_settle : cr_Y yX9_settle cX9_settle 2 1 none := ⟨mc_X9_settle, mi_X9, by decide +kernel, by decide +kernel, by decide +kernel⟩
theorem mv_X9_settle : Cond.instanceMethod yX9_settle ∈ cr_T ∧ Cond.selects RX9 yX9_settle yX9_settle ∈ cr_T := ⟨cr_T_mem (List.mem_of_getElem? (i := 615) (by decide +kernel)) (by decide +kernel), cr_T_mem (List.mem_of_getElem? (i := 616) (by decide +kernel)) (by decide +kernel)⟩
theorem mc_X9_takePairsAndShips : Cond.code yX9_takePairsAndShips cX9_takePairsAndShips 6 none ∈ cr_T := cr_T_mem (List.mem_of_getElem? (i := 621) (by decide +kernel)) (by decide +kernel)
theorem cY_X9_takePairsAndShips : cr_Y yX9_takePairsAndShips cX9_takePairsAndShips 6 4 none := ⟨mc_X9_takePairsAndShips, mi_X9, by decide +kernel, by decide +kernel, by decide +kernel⟩
theorem mv_X9_takePairsAndShips : Cond.instanceMethod yX9_takePairsAndShips ∈ cr_T ∧ Cond.selects RX9 yX9_takePairsAndShips yX9_takePairsAndShips ∈ cr_T := ⟨cr_T_mem (List.mem_of_getElem? (i := 620) (by decide +kernel)) (by decide +kernel), cr_T_mem (List.mem_of_getElem? (i := 11) (by decide +kernel)) (by decide +kernel)⟩
theorem mc_X3_take : Cond.code yX3_take cX3_take 2 none ∈ cr_T := cr_T_mem (List.mem_of_getElem? (i := 625) (by decide +kernel)) (by decide +kernel)
theorem cY_X3_take : cr_Y yX3_take cX3_take 2 1 none := ⟨mc_X3_take, mi_X3, by decide +kernel, by decide +kernel, by decide +kernel⟩
theorem mv_X3_take : Cond.instanceMethod yX3_take ∈ cr_T ∧ Cond.selects RX3 yX3_take yX3_take ∈ cr_T := ⟨cr_T_mem (List.mem_of_getElem? (i := 623) (by decide +kernel)) (by decide +kernel), cr_T_mem (List.mem_of_getElem? (i := 624) (by decide +kernel)) (by decide +kernel)⟩
theorem mc_X6_take : Cond.code yX6_take cX6_take 2 none ∈ cr_T := cr_T_mem (List.mem_of_getElem? (i := 630) (by decide +kernel)) (by decide +kernel)
theorem cY_X6_take : cr_Y yX6_take cX6_take 2 1 none := ⟨mc_X6_take, mi_X6, by decide +kernel, by decide +kernel, by decide +kernel⟩
theorem mv_X6_take : Cond.instanceMethod yX6_take ∈ cr_T ∧ Cond.selects RX6 yX6_take yX6_take ∈ cr_T := ⟨cr_T_mem (List.mem_of_getElem? (i := 628) (by decide +kernel)) (by decide +kernel), cr_T_mem (List.mem_of_getElem? (i := 629) (by decide +kernel)) (by decide +kernel)⟩
theorem mc_X8_begin : Cond.code yX8_begin cX8_begin 2 none ∈ cr_T := cr_T_mem (List.mem_of_getElem? (i := 635) (by decide +kernel)) (by decide +kernel)
theorem cY_X8_begin : cr_Y yX8_begin cX8_begin 2 1 none := ⟨mc_X8_begin, mi_X8, by decide +kernel, by decide +kernel, by decide +kernel⟩
theorem mv_X8_begin : Cond.instanceMethod yX8_begin ∈ cr_T ∧ Cond.selects RX8 yX8_begin yX8_begin ∈ cr_T := ⟨cr_T_mem (List.mem_of_getElem? (i := 633) (by decide +kernel)) (by decide +kernel), cr_T_mem (List.mem_of_getElem? (i := 634) (by decide +kernel)) (by decide +kernel)⟩
theorem mc_X10_count : Cond.code yX10_count cX10_count 2 (some .int) ∈ cr_T := cr_T_mem (List.mem_of_getElem? (i := 640) (by decide +kernel)) (by decide +kernel)
theorem cY_X10_count : cr_Y yX10_count cX10_count 2 1 (some .int) := ⟨mc_X10_count, mi_X10, by decide +kernel, by decide +kernel, by decide +kernel⟩
theorem mv_X10_count : Cond.instanceMethod yX10_count ∈ cr_T ∧ Cond.selects RX10 yX10_count yX10_count ∈ cr_T := ⟨cr_T_mem (List.mem_of_getElem? (i := 638) (by decide +kernel)) (by decide +kernel), cr_T_mem (List.mem_of_getElem? (i := 639) (by decide +kernel)) (by decide +kernel)⟩
theorem mc_X10_setOut : Cond.code yX10_setOut cX10_setOut 3 (some .int) ∈ cr_T := cr_T_mem (List.mem_of_getElem? (i := 644) (by decide +kernel)) (by decide +kernel)
theorem cY_X10_setOut : cr_Y yX10_setOut cX10_setOut 3 1 (some .int) := ⟨mc_X10_setOut, mi_X10, by decide +kernel, by decide +kernel, by decide +kernel⟩
theorem mv_X10_setOut : Cond.instanceMethod yX10_setOut ∈ cr_T ∧ Cond.selects RX10 yX10_setOut yX10_setOut ∈ cr_T := ⟨cr_T_mem (List.mem_of_getElem? (i := 642) (by decide +kernel)) (by decide +kernel), cr_T_mem (List.mem_of_getElem? (i := 643) (by decide +kernel)) (by decide +kernel)⟩
theorem mc_X9_remember : Cond.code yX9_remember cX9_remember 2 none ∈ cr_T := cr_T_mem (List.mem_of_getElem? (i := 648) (by decide +kernel)) (by decide +kernel)
theorem cY_X9_remember : cr_Y yX9_remember cX9_remember 2 0 none := ⟨mc_X9_remember, mi_X9, by decide +kernel, by decide +kernel, by decide +kernel⟩
theorem mv_X9_remember : Cond.instanceMethod yX9_remember ∈ cr_T ∧ Cond.selects RX9 yX9_remember yX9_remember ∈ cr_T := ⟨cr_T_mem (List.mem_of_getElem? (i := 646) (by decide +kernel)) (by decide +kernel), cr_T_mem (List.mem_of_getElem? (i := 647) (by decide +kernel)) (by decide +kernel)⟩
theorem mc_X8_take : Cond.code yX8_take cX8_take 2 none ∈ cr_T := cr_T_mem (List.mem_of_getElem? (i := 652) (by decide +kernel)) (by decide +kernel)
theorem cY_X8_take : cr_Y yX8_take cX8_take 2 1 none := ⟨mc_X8_take, mi_X8, by decide +kernel, by decide +kernel, by decide +kernel⟩
theorem mv_X8_take : Cond.instanceMethod yX8_take ∈ cr_T ∧ Cond.selects RX8 yX8_take yX8_take ∈ cr_T := ⟨cr_T_mem (List.mem_of_getElem? (i := 650) (by decide +kernel)) (by decide +kernel), cr_T_mem (List.mem_of_getElem? (i := 651) (by decide +kernel)) (by decide +kernel)⟩
theorem mc_X10_idle : Cond.code yX10_idle cX10_idle 2 (some .int) ∈ cr_T := cr_T_mem (List.mem_of_getElem? (i := 657) (by decide +kernel)) (by decide +kernel)
theorem cY_X10_idle : cr_Y yX10_idle cX10_idle 2 1 (some .int) := ⟨mc_X10_idle, mi_X10, by decide +kernel, by decide +kernel, by decide +kernel⟩
theorem mv_X10_idle : Cond.instanceMethod yX10_idle ∈ cr_T ∧ Cond.selects RX10 yX10_idle yX10_idle ∈ cr_T := ⟨cr_T_mem (List.mem_of_getElem? (i := 655) (by decide +kernel)) (by decide +kernel), cr_T_mem (List.mem_of_getElem? (i := 656) (by decide +kernel)) (by decide +kernel)⟩
theorem mc_X10_pass : Cond.code yX10_pass cX10_pass 5 (some .int) ∈ cr_T := cr_T_mem (List.mem_of_getElem? (i := 661) (by decide +kernel)) (by decide +kernel)
theorem cY_X10_pass : cr_Y yX10_pass cX10_pass 5 1 (some .int) := ⟨mc_X10_pass, mi_X10, by decide +kernel, by decide +kernel, by decide +kernel⟩
theorem mv_X10_pass : Cond.instanceMethod yX10_pass ∈ cr_T ∧ Cond.selects RX10 yX10_pass yX10_pass ∈ cr_T := ⟨cr_T_mem (List.mem_of_getElem? (i := 659) (by decide +kernel)) (by decide +kernel), cr_T_mem (List.mem_of_getElem? (i := 660) (by decide +kernel)) (by decide +kernel)⟩
theorem mc_X0_goBetween : Cond.code yX0_goBetween cX0_goBetween 8 (some .int) ∈ cr_T := cr_T_mem (List.mem_of_getElem? (i := 665) (by decide +kernel)) (by decide +kernel)
theorem cY_X0_goBetween : cr_Y yX0_goBetween cX0_goBetween 8 4 (some .int) := ⟨mc_X0_goBetween, mi_X0, by decide +kernel, by decide +kernel, by decide +kernel⟩
theorem mv_X0_goBetween : Cond.instanceMethod yX0_goBetween ∈ cr_T ∧ Cond.selects RX0 yX0_goBetween yX0_goBetween ∈ cr_T := ⟨cr_T_mem (List.mem_of_getElem? (i := 663) (by decide +kernel)) (by decide +kernel), cr_T_mem (List.mem_of_getElem? (i := 664) (by decide +kernel)) (by decide +kernel)⟩
theorem mc_X10_secondsFor : Cond.code yX10_secondsFor cX10_secondsFor 2 (some .int) ∈ cr_T := cr_T_mem (List.mem_of_getElem? (i := 668) (by decide +kernel)) (by decide +kernel)
theorem cY_X10_secondsFor : cr_Y yX10_secondsFor cX10_secondsFor 2 2 (some .int) := ⟨mc_X10_secondsFor, mi_X10, by decide +kernel, by decide +kernel, by decide +kernel⟩
theorem mv_X10_secondsFor : Cond.static yX10_secondsFor ∈ cr_T := cr_T_mem (List.mem_of_getElem? (i := 667) (by decide +kernel)) (by decide +kernel)
theorem mc_X3_firstShut : Cond.code yX3_firstShut cX3_firstShut 5 (some .int) ∈ cr_T := cr_T_mem (List.mem_of_getElem? (i := 673) (by decide +kernel)) (by decide +kernel)
theorem cY_X3_firstShut : cr_Y yX3_firstShut cX3_firstShut 5 3 (some .int) := ⟨mc_X3_firstShut, mi_X3, by decide +kernel, by decide +kernel, by decide +kernel⟩
theorem mv_X3_firstShut : Cond.instanceMethod yX3_firstShut ∈ cr_T ∧ Cond.selects RX3 yX3_firstShut yX3_firstShut ∈ cr_T := ⟨cr_T_mem (List.mem_of_getElem? (i := 671) (by decide +kernel)) (by decide +kernel), cr_T_mem (List.mem_of_getElem? (i := 672) (by decide +kernel)) (by decide +kernel)⟩
theorem mc_X10_undo : Cond.code yX10_undo cX10_undo 1 (some .int) ∈ cr_T := cr_T_mem (List.mem_of_getElem? (i := 677) (by decide +kernel)) (by decide +kernel)
theorem cY_X10_undo : cr_Y yX10_undo cX10_undo 1 0 (some .int) := ⟨mc_X10_undo, mi_X10, by decide +kernel, by decide +kernel, by decide +kernel⟩
theorem mv_X10_undo : Cond.instanceMethod yX10_undo ∈ cr_T ∧ Cond.selects RX10 yX10_undo yX10_undo ∈ cr_T := ⟨cr_T_mem (List.mem_of_getElem? (i := 675) (by decide +kernel)) (by decide +kernel), cr_T_mem (List.mem_of_getElem? (i := 676) (by decide +kernel)) (by decide +kernel)⟩
theorem mc_X9_recall : Cond.code yX9_recall cX9_recall 1 (some .boolean) ∈ cr_T := cr_T_mem (List.mem_of_getElem? (i := 681) (by decide +kernel)) (by decide +kernel)
theorem cY_X9_recall : cr_Y yX9_recall cX9_recall 1 0 (some .boolean) := ⟨mc_X9_recall, mi_X9, by decide +kernel, by decide +kernel, by decide +kernel⟩
theorem mv_X9_recall : Cond.instanceMethod yX9_recall ∈ cr_T ∧ Cond.selects RX9 yX9_recall yX9_recall ∈ cr_T := ⟨cr_T_mem (List.mem_of_getElem? (i := 679) (by decide +kernel)) (by decide +kernel), cr_T_mem (List.mem_of_getElem? (i := 680) (by decide +kernel)) (by decide +kernel)⟩
theorem mc_X10_seed : Cond.code yX10_seed cX10_seed 3 (some .int) ∈ cr_T := cr_T_mem (List.mem_of_getElem? (i := 685) (by decide +kernel)) (by decide +kernel)
theorem cY_X10_seed : cr_Y yX10_seed cX10_seed 3 1 (some .int) := ⟨mc_X10_seed, mi_X10, by decide +kernel, by decide +kernel, by decide +kernel⟩
theorem mv_X10_seed : Cond.instanceMethod yX10_seed ∈ cr_T ∧ Cond.selects RX10 yX10_seed yX10_seed ∈ cr_T := ⟨cr_T_mem (List.mem_of_getElem? (i := 683) (by decide +kernel)) (by decide +kernel), cr_T_mem (List.mem_of_getElem? (i := 684) (by decide +kernel)) (by decide +kernel)⟩
theorem mc_X10_lots : Cond.code yX10_lots cX10_lots 6 (some .int) ∈ cr_T := cr_T_mem (List.mem_of_getElem? (i := 689) (by decide +kernel)) (by decide +kernel)
theorem cY_X10_lots : cr_Y yX10_lots cX10_lots 6 2 (some .int) := ⟨mc_X10_lots, mi_X10, by decide +kernel, by decide +kernel, by decide +kernel⟩
theorem mv_X10_lots : Cond.instanceMethod yX10_lots ∈ cr_T ∧ Cond.selects RX10 yX10_lots yX10_lots ∈ cr_T := ⟨cr_T_mem (List.mem_of_getElem? (i := 687) (by decide +kernel)) (by decide +kernel), cr_T_mem (List.mem_of_getElem? (i := 688) (by decide +kernel)) (by decide +kernel)⟩
theorem mc_X9_drawn : Cond.code yX9_drawn cX9_drawn 1 (some .int) ∈ cr_T := cr_T_mem (List.mem_of_getElem? (i := 693) (by decide +kernel)) (by decide +kernel)
theorem cY_X9_drawn : cr_Y yX9_drawn cX9_drawn 1 0 (some .int) := ⟨mc_X9_drawn, mi_X9, by decide +kernel, by decide +kernel, by decide +kernel⟩
theorem mv_X9_drawn : Cond.instanceMethod yX9_drawn ∈ cr_T ∧ Cond.selects RX9 yX9_drawn yX9_drawn ∈ cr_T := ⟨cr_T_mem (List.mem_of_getElem? (i := 691) (by decide +kernel)) (by decide +kernel), cr_T_mem (List.mem_of_getElem? (i := 692) (by decide +kernel)) (by decide +kernel)⟩
theorem mc_X10_goFull : Cond.code yX10_goFull cX10_goFull 4 none ∈ cr_T := cr_T_mem (List.mem_of_getElem? (i := 700) (by decide +kernel)) (by decide +kernel)
theorem cY_X10_goFull : cr_Y yX10_goFull cX10_goFull 4 2 none := ⟨mc_X10_goFull, mi_X10, by decide +kernel, by decide +kernel, by decide +kernel⟩
theorem mv_X10_goFull : Cond.instanceMethod yX10_goFull ∈ cr_T ∧ Cond.selects RX10 yX10_goFull yX10_goFull ∈ cr_T := ⟨cr_T_mem (List.mem_of_getElem? (i := 699) (by decide +kernel)) (by decide +kernel), cr_T_mem (List.mem_of_getElem? (i := 12) (by decide +kernel)) (by decide +kernel)⟩
theorem mc_J7_fill_53178 : Cond.code yJ7_fill_53178 cJ7_fill_53178 4 none ∈ cr_T := cr_T_mem (List.mem_of_getElem? (i := 703) (by decide +kernel)) (by decide +kernel)
theorem cY_J7_fill_53178 : cr_Y yJ7_fill_53178 cJ7_fill_53178 4 2 none := ⟨mc_J7_fill_53178, mi_J7, by decide +kernel, by decide +kernel, by decide +kernel⟩
theorem mv_J7_fill_53178 : Cond.static yJ7_fill_53178 ∈ cr_T := cr_T_mem (List.mem_of_getElem? (i := 702) (by decide +kernel)) (by decide +kernel)
theorem mc_X0_go : Cond.code yX0_go cX0_go 6 none ∈ cr_T := cr_T_mem (List.mem_of_getElem? (i := 707) (by decide +kernel)) (by decide +kernel)
theorem cY_X0_go : cr_Y yX0_go cX0_go 6 3 none := ⟨mc_X0_go, mi_X0, by decide +kernel, by decide +kernel, by decide +kernel⟩
theorem mv_X0_go : Cond.instanceMethod yX0_go ∈ cr_T ∧ Cond.selects RX0 yX0_go yX0_go ∈ cr_T := ⟨cr_T_mem (List.mem_of_getElem? (i := 705) (by decide +kernel)) (by decide +kernel), cr_T_mem (List.mem_of_getElem? (i := 706) (by decide +kernel)) (by decide +kernel)⟩
theorem mc_X0_isClean : Cond.code yX0_isClean cX0_isClean 1 (some .boolean) ∈ cr_T := cr_T_mem (List.mem_of_getElem? (i := 712) (by decide +kernel)) (by decide +kernel)
theorem cY_X0_isClean : cr_Y yX0_isClean cX0_isClean 1 0 (some .boolean) := ⟨mc_X0_isClean, mi_X0, by decide +kernel, by decide +kernel, by decide +kernel⟩
theorem mv_X0_isClean : Cond.instanceMethod yX0_isClean ∈ cr_T ∧ Cond.selects RX0 yX0_isClean yX0_isClean ∈ cr_T := ⟨cr_T_mem (List.mem_of_getElem? (i := 710) (by decide +kernel)) (by decide +kernel), cr_T_mem (List.mem_of_getElem? (i := 711) (by decide +kernel)) (by decide +kernel)⟩
theorem mc_X10_soonest : Cond.code yX10_soonest cX10_soonest 4 (some .int) ∈ cr_T := cr_T_mem (List.mem_of_getElem? (i := 716) (by decide +kernel)) (by decide +kernel)
theorem cY_X10_soonest : cr_Y yX10_soonest cX10_soonest 4 3 (some .int) := ⟨mc_X10_soonest, mi_X10, by decide +kernel, by decide +kernel, by decide +kernel⟩
theorem mv_X10_soonest : Cond.instanceMethod yX10_soonest ∈ cr_T ∧ Cond.selects RX10 yX10_soonest yX10_soonest ∈ cr_T := ⟨cr_T_mem (List.mem_of_getElem? (i := 714) (by decide +kernel)) (by decide +kernel), cr_T_mem (List.mem_of_getElem? (i := 715) (by decide +kernel)) (by decide +kernel)⟩
theorem mc_X10_isBegin : Cond.code yX10_isBegin cX10_isBegin 3 (some .boolean) ∈ cr_T := cr_T_mem (List.mem_of_getElem? (i := 720) (by decide +kernel)) (by decide +kernel)
theorem cY_X10_isBegin : cr_Y yX10_isBegin cX10_isBegin 3 2 (some .boolean) := ⟨mc_X10_isBegin, mi_X10, by decide +kernel, by decide +kernel, by decide +kernel⟩
theorem mv_X10_isBegin : Cond.instanceMethod yX10_isBegin ∈ cr_T ∧ Cond.selects RX10 yX10_isBegin yX10_isBegin ∈ cr_T := ⟨cr_T_mem (List.mem_of_getElem? (i := 719) (by decide +kernel)) (by decide +kernel), cr_T_mem (List.mem_of_getElem? (i := 13) (by decide +kernel)) (by decide +kernel)⟩
theorem mc_X5_findSoonest : Cond.code yX5_findSoonest cX5_findSoonest 8 none ∈ cr_T := cr_T_mem (List.mem_of_getElem? (i := 724) (by decide +kernel)) (by decide +kernel)
theorem cY_X5_findSoonest : cr_Y yX5_findSoonest cX5_findSoonest 8 3 none := ⟨mc_X5_findSoonest, mi_X5, by decide +kernel, by decide +kernel, by decide +kernel⟩
theorem mv_X5_findSoonest : Cond.instanceMethod yX5_findSoonest ∈ cr_T ∧ Cond.selects RX5 yX5_findSoonest yX5_findSoonest ∈ cr_T := ⟨cr_T_mem (List.mem_of_getElem? (i := 722) (by decide +kernel)) (by decide +kernel), cr_T_mem (List.mem_of_getElem? (i := 723) (by decide +kernel)) (by decide +kernel)⟩
theorem mc_X5_measure : Cond.code yX5_measure cX5_measure 5 none ∈ cr_T := cr_T_mem (List.mem_of_getElem? (i := 728) (by decide +kernel)) (by decide +kernel)
theorem cY_X5_measure : cr_Y yX5_measure cX5_measure 5 3 none := ⟨mc_X5_measure, mi_X5, by decide +kernel, by decide +kernel, by decide +kernel⟩
theorem mv_X5_measure : Cond.instanceMethod yX5_measure ∈ cr_T ∧ Cond.selects RX5 yX5_measure yX5_measure ∈ cr_T := ⟨cr_T_mem (List.mem_of_getElem? (i := 727) (by decide +kernel)) (by decide +kernel), cr_T_mem (List.mem_of_getElem? (i := 14) (by decide +kernel)) (by decide +kernel)⟩
theorem mc_X5_soonestEnd : Cond.code yX5_soonestEnd cX5_soonestEnd 8 (some .int) ∈ cr_T := cr_T_mem (List.mem_of_getElem? (i := 733) (by decide +kernel)) (by decide +kernel)
theorem cY_X5_soonestEnd : cr_Y yX5_soonestEnd cX5_soonestEnd 8 4 (some .int) := ⟨mc_X5_soonestEnd, mi_X5, by decide +kernel, by decide +kernel, by decide +kernel⟩
theorem mv_X5_soonestEnd : Cond.instanceMethod yX5_soonestEnd ∈ cr_T ∧ Cond.selects RX5 yX5_soonestEnd yX5_soonestEnd ∈ cr_T := ⟨cr_T_mem (List.mem_of_getElem? (i := 732) (by decide +kernel)) (by decide +kernel), cr_T_mem (List.mem_of_getElem? (i := 15) (by decide +kernel)) (by decide +kernel)⟩
theorem mc_X5_behindBy : Cond.code yX5_behindBy cX5_behindBy 7 (some .int) ∈ cr_T := cr_T_mem (List.mem_of_getElem? (i := 740) (by decide +kernel)) (by decide +kernel)
theorem cY_X5_behindBy : cr_Y yX5_behindBy cX5_behindBy 7 4 (some .int) := ⟨mc_X5_behindBy, mi_X5, by decide +kernel, by decide +kernel, by decide +kernel⟩
theorem mv_X5_behindBy : Cond.instanceMethod yX5_behindBy ∈ cr_T ∧ Cond.selects RX5 yX5_behindBy yX5_behindBy ∈ cr_T := ⟨cr_T_mem (List.mem_of_getElem? (i := 739) (by decide +kernel)) (by decide +kernel), cr_T_mem (List.mem_of_getElem? (i := 16) (by decide +kernel)) (by decide +kernel)⟩
theorem mc_X5_tellPaces : Cond.code yX5_tellPaces cX5_tellPaces 6 none ∈ cr_T := cr_T_mem (List.mem_of_getElem? (i := 747) (by decide +kernel)) (by decide +kernel)
theorem cY_X5_tellPaces : cr_Y yX5_tellPaces cX5_tellPaces 6 3 none := ⟨mc_X5_tellPaces, mi_X5, by decide +kernel, by decide +kernel, by decide +kernel⟩
theorem mv_X5_tellPaces : Cond.instanceMethod yX5_tellPaces ∈ cr_T ∧ Cond.selects RX5 yX5_tellPaces yX5_tellPaces ∈ cr_T := ⟨cr_T_mem (List.mem_of_getElem? (i := 746) (by decide +kernel)) (by decide +kernel), cr_T_mem (List.mem_of_getElem? (i := 17) (by decide +kernel)) (by decide +kernel)⟩
theorem mc_X5_firstPace : Cond.code yX5_firstPace cX5_firstPace 7 (some .int) ∈ cr_T := cr_T_mem (List.mem_of_getElem? (i := 751) (by decide +kernel)) (by decide +kernel)
theorem cY_X5_firstPace : cr_Y yX5_firstPace cX5_firstPace 7 4 (some .int) := ⟨mc_X5_firstPace, mi_X5, by decide +kernel, by decide +kernel, by decide +kernel⟩
theorem mv_X5_firstPace : Cond.instanceMethod yX5_firstPace ∈ cr_T ∧ Cond.selects RX5 yX5_firstPace yX5_firstPace ∈ cr_T := ⟨cr_T_mem (List.mem_of_getElem? (i := 750) (by decide +kernel)) (by decide +kernel), cr_T_mem (List.mem_of_getElem? (i := 18) (by decide +kernel)) (by decide +kernel)⟩
theorem mc_X10_full : Cond.code yX10_full cX10_full 4 (some .int) ∈ cr_T := cr_T_mem (List.mem_of_getElem? (i := 756) (by decide +kernel)) (by decide +kernel)
theorem cY_X10_full : cr_Y yX10_full cX10_full 4 3 (some .int) := ⟨mc_X10_full, mi_X10, by decide +kernel, by decide +kernel, by decide +kernel⟩
theorem mv_X10_full : Cond.instanceMethod yX10_full ∈ cr_T ∧ Cond.selects RX10 yX10_full yX10_full ∈ cr_T := ⟨cr_T_mem (List.mem_of_getElem? (i := 754) (by decide +kernel)) (by decide +kernel), cr_T_mem (List.mem_of_getElem? (i := 755) (by decide +kernel)) (by decide +kernel)⟩
theorem mc_X0_judgement : Cond.code yX0_judgement cX0_judgement 2 (some .int) ∈ cr_T := cr_T_mem (List.mem_of_getElem? (i := 760) (by decide +kernel)) (by decide +kernel)
theorem cY_X0_judgement : cr_Y yX0_judgement cX0_judgement 2 1 (some .int) := ⟨mc_X0_judgement, mi_X0, by decide +kernel, by decide +kernel, by decide +kernel⟩
theorem mv_X0_judgement : Cond.instanceMethod yX0_judgement ∈ cr_T ∧ Cond.selects RX0 yX0_judgement yX0_judgement ∈ cr_T := ⟨cr_T_mem (List.mem_of_getElem? (i := 758) (by decide +kernel)) (by decide +kernel), cr_T_mem (List.mem_of_getElem? (i := 759) (by decide +kernel)) (by decide +kernel)⟩
theorem mc_X10_fog : Cond.code yX10_fog cX10_fog 6 (some .int) ∈ cr_T := cr_T_mem (List.mem_of_getElem? (i := 764) (by decide +kernel)) (by decide +kernel)
theorem cY_X10_fog : cr_Y yX10_fog cX10_fog 6 3 (some .int) := ⟨mc_X10_fog, mi_X10, by decide +kernel, by decide +kernel, by decide +kernel⟩
theorem mv_X10_fog : Cond.instanceMethod yX10_fog ∈ cr_T ∧ Cond.selects RX10 yX10_fog yX10_fog ∈ cr_T := ⟨cr_T_mem (List.mem_of_getElem? (i := 762) (by decide +kernel)) (by decide +kernel), cr_T_mem (List.mem_of_getElem? (i := 763) (by decide +kernel)) (by decide +kernel)⟩
theorem mc_X0_planFull : Cond.code yX0_planFull cX0_planFull 6 none ∈ cr_T := cr_T_mem (List.mem_of_getElem? (i := 768) (by decide +kernel)) (by decide +kernel)
theorem cY_X0_planFull : cr_Y yX0_planFull cX0_planFull 6 3 none := ⟨mc_X0_planFull, mi_X0, by decide +kernel, by decide +kernel, by decide +kernel⟩
theorem mv_X0_planFull : Cond.instanceMethod yX0_planFull ∈ cr_T ∧ Cond.selects RX0 yX0_planFull yX0_planFull ∈ cr_T := ⟨cr_T_mem (List.mem_of_getElem? (i := 766) (by decide +kernel)) (by decide +kernel), cr_T_mem (List.mem_of_getElem? (i := 767) (by decide +kernel)) (by decide +kernel)⟩
theorem mc_X0_fogWeight : Cond.code yX0_fogWeight cX0_fogWeight 5 (some .int) ∈ cr_T := cr_T_mem (List.mem_of_getElem? (i := 773) (by decide +kernel)) (by decide +kernel)
theorem cY_X0_fogWeight : cr_Y yX0_fogWeight cX0_fogWeight 5 1 (some .int) := ⟨mc_X0_fogWeight, mi_X0, by decide +kernel, by decide +kernel, by decide +kernel⟩
theorem mv_X0_fogWeight : Cond.instanceMethod yX0_fogWeight ∈ cr_T ∧ Cond.selects RX0 yX0_fogWeight yX0_fogWeight ∈ cr_T := ⟨cr_T_mem (List.mem_of_getElem? (i := 771) (by decide +kernel)) (by decide +kernel), cr_T_mem (List.mem_of_getElem? (i := 772) (by decide +kernel)) (by decide +kernel)⟩
theorem mc_X0_isThrough : Cond.code yX0_isThrough cX0_isThrough 3 (some .boolean) ∈ cr_T := cr_T_mem (List.mem_of_getElem? (i := 777) (by decide +kernel)) (by decide +kernel)
theorem cY_X0_isThrough : cr_Y yX0_isThrough cX0_isThrough 3 2 (some .boolean) := ⟨mc_X0_isThrough, mi_X0, by decide +kernel, by decide +kernel, by decide +kernel⟩
theorem mv_X0_isThrough : Cond.instanceMethod yX0_isThrough ∈ cr_T ∧ Cond.selects RX0 yX0_isThrough yX0_isThrough ∈ cr_T := ⟨cr_T_mem (List.mem_of_getElem? (i := 775) (by decide +kernel)) (by decide +kernel), cr_T_mem (List.mem_of_getElem? (i := 776) (by decide +kernel)) (by decide +kernel)⟩
theorem mc_X0_isThroughBy : Cond.code yX0_isThroughBy cX0_isThroughBy 4 (some .boolean) ∈ cr_T := cr_T_mem (List.mem_of_getElem? (i := 781) (by decide +kernel)) (by decide +kernel)
theorem cY_X0_isThroughBy : cr_Y yX0_isThroughBy cX0_isThroughBy 4 3 (some .boolean) := ⟨mc_X0_isThroughBy, mi_X0, by decide +kernel, by decide +kernel, by decide +kernel⟩
theorem mv_X0_isThroughBy : Cond.instanceMethod yX0_isThroughBy ∈ cr_T ∧ Cond.selects RX0 yX0_isThroughBy yX0_isThroughBy ∈ cr_T := ⟨cr_T_mem (List.mem_of_getElem? (i := 780) (by decide +kernel)) (by decide +kernel), cr_T_mem (List.mem_of_getElem? (i := 19) (by decide +kernel)) (by decide +kernel)⟩
theorem mc_X3_phaseBehind : Cond.code yX3_phaseBehind cX3_phaseBehind 2 (some .int) ∈ cr_T := cr_T_mem (List.mem_of_getElem? (i := 786) (by decide +kernel)) (by decide +kernel)
theorem cY_X3_phaseBehind : cr_Y yX3_phaseBehind cX3_phaseBehind 2 1 (some .int) := ⟨mc_X3_phaseBehind, mi_X3, by decide +kernel, by decide +kernel, by decide +kernel⟩
theorem mv_X3_phaseBehind : Cond.instanceMethod yX3_phaseBehind ∈ cr_T ∧ Cond.selects RX3 yX3_phaseBehind yX3_phaseBehind ∈ cr_T := ⟨cr_T_mem (List.mem_of_getElem? (i := 784) (by decide +kernel)) (by decide +kernel), cr_T_mem (List.mem_of_getElem? (i := 785) (by decide +kernel)) (by decide +kernel)⟩
theorem mc_X10_sure : Cond.code yX10_sure cX10_sure 7 (some .int) ∈ cr_T := cr_T_mem (List.mem_of_getElem? (i := 790) (by decide +kernel)) (by decide +kernel)
theorem cY_X10_sure : cr_Y yX10_sure cX10_sure 7 2 (some .int) := ⟨mc_X10_sure, mi_X10, by decide +kernel, by decide +kernel, by decide +kernel⟩
theorem mv_X10_sure : Cond.instanceMethod yX10_sure ∈ cr_T ∧ Cond.selects RX10 yX10_sure yX10_sure ∈ cr_T := ⟨cr_T_mem (List.mem_of_getElem? (i := 788) (by decide +kernel)) (by decide +kernel), cr_T_mem (List.mem_of_getElem? (i := 789) (by decide +kernel)) (by decide +kernel)⟩
theorem mc_X10_stones : Cond.code yX10_stones cX10_stones 8 (some .int) ∈ cr_T := cr_T_mem (List.mem_of_getElem? (i := 794) (by decide +kernel)) (by decide +kernel)
theorem cY_X10_stones : cr_Y yX10_stones cX10_stones 8 3 (some .int) := ⟨mc_X10_stones, mi_X10, by decide +kernel, by decide +kernel, by decide +kernel⟩
theorem mv_X10_stones : Cond.instanceMethod yX10_stones ∈ cr_T ∧ Cond.selects RX10 yX10_stones yX10_stones ∈ cr_T := ⟨cr_T_mem (List.mem_of_getElem? (i := 792) (by decide +kernel)) (by decide +kernel), cr_T_mem (List.mem_of_getElem? (i := 793) (by decide +kernel)) (by decide +kernel)⟩
theorem mc_X0_fewestStones : Cond.code yX0_fewestStones cX0_fewestStones 5 (some .int) ∈ cr_T := cr_T_mem (List.mem_of_getElem? (i := 798) (by decide +kernel)) (by decide +kernel)
theorem cY_X0_fewestStones : cr_Y yX0_fewestStones cX0_fewestStones 5 2 (some .int) := ⟨mc_X0_fewestStones, mi_X0, by decide +kernel, by decide +kernel, by decide +kernel⟩
theorem mv_X0_fewestStones : Cond.instanceMethod yX0_fewestStones ∈ cr_T ∧ Cond.selects RX0 yX0_fewestStones yX0_fewestStones ∈ cr_T := ⟨cr_T_mem (List.mem_of_getElem? (i := 796) (by decide +kernel)) (by decide +kernel), cr_T_mem (List.mem_of_getElem? (i := 797) (by decide +kernel)) (by decide +kernel)⟩
theorem mc_X10_convoy : Cond.code yX10_convoy cX10_convoy 9 (some .int) ∈ cr_T := cr_T_mem (List.mem_of_getElem? (i := 802) (by decide +kernel)) (by decide +kernel)
theorem cY_X10_convoy : cr_Y yX10_convoy cX10_convoy 9 3 (some .int) := ⟨mc_X10_convoy, mi_X10, by decide +kernel, by decide +kernel, by decide +kernel⟩
theorem mv_X10_convoy : Cond.instanceMethod yX10_convoy ∈ cr_T ∧ Cond.selects RX10 yX10_convoy yX10_convoy ∈ cr_T := ⟨cr_T_mem (List.mem_of_getElem? (i := 800) (by decide +kernel)) (by decide +kernel), cr_T_mem (List.mem_of_getElem? (i := 801) (by decide +kernel)) (by decide +kernel)⟩
theorem mc_J6_bitCount_0f7a4 : Cond.code yJ6_bitCount_0f7a4 cJ6_bitCount_0f7a4 1 (some .int) ∈ cr_T := cr_T_mem (List.mem_of_getElem? (i := 806) (by decide +kernel)) (by decide +kernel)
theorem cY_J6_bitCount_0f7a4 : cr_Y yJ6_bitCount_0f7a4 cJ6_bitCount_0f7a4 1 1 (some .int) := ⟨mc_J6_bitCount_0f7a4, mi_J6, by decide +kernel, by decide +kernel, by decide +kernel⟩
theorem mv_J6_bitCount_0f7a4 : Cond.static yJ6_bitCount_0f7a4 ∈ cr_T := cr_T_mem (List.mem_of_getElem? (i := 805) (by decide +kernel)) (by decide +kernel)
theorem mc_X10_convoyTime : Cond.code yX10_convoyTime cX10_convoyTime 4 (some .int) ∈ cr_T := cr_T_mem (List.mem_of_getElem? (i := 813) (by decide +kernel)) (by decide +kernel)
theorem cY_X10_convoyTime : cr_Y yX10_convoyTime cX10_convoyTime 4 1 (some .int) := ⟨mc_X10_convoyTime, mi_X10, by decide +kernel, by decide +kernel, by decide +kernel⟩
theorem mv_X10_convoyTime : Cond.instanceMethod yX10_convoyTime ∈ cr_T ∧ Cond.selects RX10 yX10_convoyTime yX10_convoyTime ∈ cr_T := ⟨cr_T_mem (List.mem_of_getElem? (i := 812) (by decide +kernel)) (by decide +kernel), cr_T_mem (List.mem_of_getElem? (i := 20) (by decide +kernel)) (by decide +kernel)⟩
theorem mc_X10_rudder : Cond.code yX10_rudder cX10_rudder 6 (some .int) ∈ cr_T := cr_T_mem (List.mem_of_getElem? (i := 818) (by decide +kernel)) (by decide +kernel)
theorem cY_X10_rudder : cr_Y yX10_rudder cX10_rudder 6 3 (some .int) := ⟨mc_X10_rudder, mi_X10, by decide +kernel, by decide +kernel, by decide +kernel⟩
theorem mv_X10_rudder : Cond.instanceMethod yX10_rudder ∈ cr_T ∧ Cond.selects RX10 yX10_rudder yX10_rudder ∈ cr_T := ⟨cr_T_mem (List.mem_of_getElem? (i := 816) (by decide +kernel)) (by decide +kernel), cr_T_mem (List.mem_of_getElem? (i := 817) (by decide +kernel)) (by decide +kernel)⟩
theorem mc_X10_worth : Cond.code yX10_worth cX10_worth 6 (some .int) ∈ cr_T := cr_T_mem (List.mem_of_getElem? (i := 822) (by decide +kernel)) (by decide +kernel)
theorem cY_X10_worth : cr_Y yX10_worth cX10_worth 6 2 (some .int) := ⟨mc_X10_worth, mi_X10, by decide +kernel, by decide +kernel, by decide +kernel⟩
theorem mv_X10_worth : Cond.instanceMethod yX10_worth ∈ cr_T ∧ Cond.selects RX10 yX10_worth yX10_worth ∈ cr_T := ⟨cr_T_mem (List.mem_of_getElem? (i := 820) (by decide +kernel)) (by decide +kernel), cr_T_mem (List.mem_of_getElem? (i := 821) (by decide +kernel)) (by decide +kernel)⟩
theorem mc_X0_isThroughBut : Cond.code yX0_isThroughBut cX0_isThroughBut 4 (some .boolean) ∈ cr_T := cr_T_mem (List.mem_of_getElem? (i := 826) (by decide +kernel)) (by decide +kernel)
theorem cY_X0_isThroughBut : cr_Y yX0_isThroughBut cX0_isThroughBut 4 2 (some .boolean) := ⟨mc_X0_isThroughBut, mi_X0, by decide +kernel, by decide +kernel, by decide +kernel⟩
theorem mv_X0_isThroughBut : Cond.instanceMethod yX0_isThroughBut ∈ cr_T ∧ Cond.selects RX0 yX0_isThroughBut yX0_isThroughBut ∈ cr_T := ⟨cr_T_mem (List.mem_of_getElem? (i := 824) (by decide +kernel)) (by decide +kernel), cr_T_mem (List.mem_of_getElem? (i := 825) (by decide +kernel)) (by decide +kernel)⟩
theorem mc_X10_look : Cond.code yX10_look cX10_look 3 (some .int) ∈ cr_T := cr_T_mem (List.mem_of_getElem? (i := 831) (by decide +kernel)) (by decide +kernel)
theorem cY_X10_look : cr_Y yX10_look cX10_look 3 2 (some .int) := ⟨mc_X10_look, mi_X10, by decide +kernel, by decide +kernel, by decide +kernel⟩
theorem mv_X10_look : Cond.instanceMethod yX10_look ∈ cr_T ∧ Cond.selects RX10 yX10_look yX10_look ∈ cr_T := ⟨cr_T_mem (List.mem_of_getElem? (i := 829) (by decide +kernel)) (by decide +kernel), cr_T_mem (List.mem_of_getElem? (i := 830) (by decide +kernel)) (by decide +kernel)⟩
theorem mc_X2_add : Cond.code yX2_add cX2_add 3 (some .boolean) ∈ cr_T := cr_T_mem (List.mem_of_getElem? (i := 835) (by decide +kernel)) (by decide +kernel)
theorem cY_X2_add : cr_Y yX2_add cX2_add 3 2 (some .boolean) := ⟨mc_X2_add, mi_X2, by decide +kernel, by decide +kernel, by decide +kernel⟩
theorem mv_X2_add : Cond.instanceMethod yX2_add ∈ cr_T ∧ Cond.selects RX2 yX2_add yX2_add ∈ cr_T := ⟨cr_T_mem (List.mem_of_getElem? (i := 833) (by decide +kernel)) (by decide +kernel), cr_T_mem (List.mem_of_getElem? (i := 834) (by decide +kernel)) (by decide +kernel)⟩
theorem mc_X10_forget : Cond.code yX10_forget cX10_forget 2 (some .int) ∈ cr_T := cr_T_mem (List.mem_of_getElem? (i := 839) (by decide +kernel)) (by decide +kernel)
theorem cY_X10_forget : cr_Y yX10_forget cX10_forget 2 0 (some .int) := ⟨mc_X10_forget, mi_X10, by decide +kernel, by decide +kernel, by decide +kernel⟩
theorem mv_X10_forget : Cond.instanceMethod yX10_forget ∈ cr_T ∧ Cond.selects RX10 yX10_forget yX10_forget ∈ cr_T := ⟨cr_T_mem (List.mem_of_getElem? (i := 837) (by decide +kernel)) (by decide +kernel), cr_T_mem (List.mem_of_getElem? (i := 838) (by decide +kernel)) (by decide +kernel)⟩
theorem mc_X10_fits : Cond.code yX10_fits cX10_fits 2 (some .int) ∈ cr_T := cr_T_mem (List.mem_of_getElem? (i := 843) (by decide +kernel)) (by decide +kernel)
theorem cY_X10_fits : cr_Y yX10_fits cX10_fits 2 1 (some .int) := ⟨mc_X10_fits, mi_X10, by decide +kernel, by decide +kernel, by decide +kernel⟩
theorem mv_X10_fits : Cond.instanceMethod yX10_fits ∈ cr_T ∧ Cond.selects RX10 yX10_fits yX10_fits ∈ cr_T := ⟨cr_T_mem (List.mem_of_getElem? (i := 841) (by decide +kernel)) (by decide +kernel), cr_T_mem (List.mem_of_getElem? (i := 842) (by decide +kernel)) (by decide +kernel)⟩
theorem mc_X1_survey : Cond.code yX1_survey cX1_survey 6 none ∈ cr_T := cr_T_mem (List.mem_of_getElem? (i := 847) (by decide +kernel)) (by decide +kernel)
theorem cY_X1_survey : cr_Y yX1_survey cX1_survey 6 3 none := ⟨mc_X1_survey, mi_X1, by decide +kernel, by decide +kernel, by decide +kernel⟩
theorem mv_X1_survey : Cond.instanceMethod yX1_survey ∈ cr_T ∧ Cond.selects RX1 yX1_survey yX1_survey ∈ cr_T := ⟨cr_T_mem (List.mem_of_getElem? (i := 845) (by decide +kernel)) (by decide +kernel), cr_T_mem (List.mem_of_getElem? (i := 846) (by decide +kernel)) (by decide +kernel)⟩
theorem mc_X1_fold : Cond.code yX1_fold cX1_fold 5 none ∈ cr_T := cr_T_mem (List.mem_of_getElem? (i := 852) (by decide +kernel)) (by decide +kernel)
theorem cY_X1_fold : cr_Y yX1_fold cX1_fold 5 2 none := ⟨mc_X1_fold, mi_X1, by decide +kernel, by decide +kernel, by decide +kernel⟩
theorem mv_X1_fold : Cond.instanceMethod yX1_fold ∈ cr_T ∧ Cond.selects RX1 yX1_fold yX1_fold ∈ cr_T := ⟨cr_T_mem (List.mem_of_getElem? (i := 851) (by decide +kernel)) (by decide +kernel), cr_T_mem (List.mem_of_getElem? (i := 21) (by decide +kernel)) (by decide +kernel)⟩
theorem mc_X1_surveyPhases : Cond.code yX1_surveyPhases cX1_surveyPhases 8 none ∈ cr_T := cr_T_mem (List.mem_of_getElem? (i := 856) (by decide +kernel)) (by decide +kernel)
theorem cY_X1_surveyPhases : cr_Y yX1_surveyPhases cX1_surveyPhases 8 2 none := ⟨mc_X1_surveyPhases, mi_X1, by decide +kernel, by decide +kernel, by decide +kernel⟩
theorem mv_X1_surveyPhases : Cond.instanceMethod yX1_surveyPhases ∈ cr_T ∧ Cond.selects RX1 yX1_surveyPhases yX1_surveyPhases ∈ cr_T := ⟨cr_T_mem (List.mem_of_getElem? (i := 855) (by decide +kernel)) (by decide +kernel), cr_T_mem (List.mem_of_getElem? (i := 22) (by decide +kernel)) (by decide +kernel)⟩
theorem mc_X10_foretell : Cond.code yX10_foretell cX10_foretell 3 (some .int) ∈ cr_T := cr_T_mem (List.mem_of_getElem? (i := 860) (by decide +kernel)) (by decide +kernel)
theorem cY_X10_foretell : cr_Y yX10_foretell cX10_foretell 3 1 (some .int) := ⟨mc_X10_foretell, mi_X10, by decide +kernel, by decide +kernel, by decide +kernel⟩
theorem mv_X10_foretell : Cond.instanceMethod yX10_foretell ∈ cr_T ∧ Cond.selects RX10 yX10_foretell yX10_foretell ∈ cr_T := ⟨cr_T_mem (List.mem_of_getElem? (i := 858) (by decide +kernel)) (by decide +kernel), cr_T_mem (List.mem_of_getElem? (i := 859) (by decide +kernel)) (by decide +kernel)⟩
theorem mc_X10_next : Cond.code yX10_next cX10_next 5 (some .int) ∈ cr_T := cr_T_mem (List.mem_of_getElem? (i := 864) (by decide +kernel)) (by decide +kernel)
theorem cY_X10_next : cr_Y yX10_next cX10_next 5 2 (some .int) := ⟨mc_X10_next, mi_X10, by decide +kernel, by decide +kernel, by decide +kernel⟩
theorem mv_X10_next : Cond.instanceMethod yX10_next ∈ cr_T ∧ Cond.selects RX10 yX10_next yX10_next ∈ cr_T := ⟨cr_T_mem (List.mem_of_getElem? (i := 862) (by decide +kernel)) (by decide +kernel), cr_T_mem (List.mem_of_getElem? (i := 863) (by decide +kernel)) (by decide +kernel)⟩
theorem mc_X1_leftAtWorst : Cond.code yX1_leftAtWorst cX1_leftAtWorst 2 (some .int) ∈ cr_T := cr_T_mem (List.mem_of_getElem? (i := 868) (by decide +kernel)) (by decide +kernel)
theorem cY_X1_leftAtWorst : cr_Y yX1_leftAtWorst cX1_leftAtWorst 2 1 (some .int) := ⟨mc_X1_leftAtWorst, mi_X1, by decide +kernel, by decide +kernel, by decide +kernel⟩
theorem mv_X1_leftAtWorst : Cond.instanceMethod yX1_leftAtWorst ∈ cr_T ∧ Cond.selects RX1 yX1_leftAtWorst yX1_leftAtWorst ∈ cr_T := ⟨cr_T_mem (List.mem_of_getElem? (i := 866) (by decide +kernel)) (by decide +kernel), cr_T_mem (List.mem_of_getElem? (i := 867) (by decide +kernel)) (by decide +kernel)⟩
theorem mc_X10_image : Cond.code yX10_image cX10_image 1 (some .int) ∈ cr_T := cr_T_mem (List.mem_of_getElem? (i := 873) (by decide +kernel)) (by decide +kernel)
theorem cY_X10_image : cr_Y yX10_image cX10_image 1 0 (some .int) := ⟨mc_X10_image, mi_X10, by decide +kernel, by decide +kernel, by decide +kernel⟩
theorem mv_X10_image : Cond.instanceMethod yX10_image ∈ cr_T ∧ Cond.selects RX10 yX10_image yX10_image ∈ cr_T := ⟨cr_T_mem (List.mem_of_getElem? (i := 871) (by decide +kernel)) (by decide +kernel), cr_T_mem (List.mem_of_getElem? (i := 872) (by decide +kernel)) (by decide +kernel)⟩
theorem mc_X9_take : Cond.code yX9_take cX9_take 3 none ∈ cr_T := cr_T_mem (List.mem_of_getElem? (i := 877) (by decide +kernel)) (by decide +kernel)
theorem cY_X9_take : cr_Y yX9_take cX9_take 3 1 none := ⟨mc_X9_take, mi_X9, by decide +kernel, by decide +kernel, by decide +kernel⟩
theorem mv_X9_take : Cond.instanceMethod yX9_take ∈ cr_T ∧ Cond.selects RX9 yX9_take yX9_take ∈ cr_T := ⟨cr_T_mem (List.mem_of_getElem? (i := 875) (by decide +kernel)) (by decide +kernel), cr_T_mem (List.mem_of_getElem? (i := 876) (by decide +kernel)) (by decide +kernel)⟩
theorem mc_X2_take : Cond.code yX2_take cX2_take 3 none ∈ cr_T := cr_T_mem (List.mem_of_getElem? (i := 881) (by decide +kernel)) (by decide +kernel)
theorem cY_X2_take : cr_Y yX2_take cX2_take 3 1 none := ⟨mc_X2_take, mi_X2, by decide +kernel, by decide +kernel, by decide +kernel⟩
theorem mv_X2_take : Cond.instanceMethod yX2_take ∈ cr_T ∧ Cond.selects RX2 yX2_take yX2_take ∈ cr_T := ⟨cr_T_mem (List.mem_of_getElem? (i := 879) (by decide +kernel)) (by decide +kernel), cr_T_mem (List.mem_of_getElem? (i := 880) (by decide +kernel)) (by decide +kernel)⟩
theorem mc_X10_restore : Cond.code yX10_restore cX10_restore 1 (some .int) ∈ cr_T := cr_T_mem (List.mem_of_getElem? (i := 885) (by decide +kernel)) (by decide +kernel)
theorem cY_X10_restore : cr_Y yX10_restore cX10_restore 1 0 (some .int) := ⟨mc_X10_restore, mi_X10, by decide +kernel, by decide +kernel, by decide +kernel⟩
theorem mv_X10_restore : Cond.instanceMethod yX10_restore ∈ cr_T ∧ Cond.selects RX10 yX10_restore yX10_restore ∈ cr_T := ⟨cr_T_mem (List.mem_of_getElem? (i := 883) (by decide +kernel)) (by decide +kernel), cr_T_mem (List.mem_of_getElem? (i := 884) (by decide +kernel)) (by decide +kernel)⟩
theorem mc_X10_judged : Cond.code yX10_judged cX10_judged 13 (some .int) ∈ cr_T := cr_T_mem (List.mem_of_getElem? (i := 889) (by decide +kernel)) (by decide +kernel)
theorem cY_X10_judged : cr_Y yX10_judged cX10_judged 13 6 (some .int) := ⟨mc_X10_judged, mi_X10, by decide +kernel, by decide +kernel, by decide +kernel⟩
theorem mv_X10_judged : Cond.instanceMethod yX10_judged ∈ cr_T ∧ Cond.selects RX10 yX10_judged yX10_judged ∈ cr_T := ⟨cr_T_mem (List.mem_of_getElem? (i := 887) (by decide +kernel)) (by decide +kernel), cr_T_mem (List.mem_of_getElem? (i := 888) (by decide +kernel)) (by decide +kernel)⟩
theorem mc_X10_isRow : Cond.code yX10_isRow cX10_isRow 3 (some .boolean) ∈ cr_T := cr_T_mem (List.mem_of_getElem? (i := 893) (by decide +kernel)) (by decide +kernel)
theorem cY_X10_isRow : cr_Y yX10_isRow cX10_isRow 3 2 (some .boolean) := ⟨mc_X10_isRow, mi_X10, by decide +kernel, by decide +kernel, by decide +kernel⟩
theorem mv_X10_isRow : Cond.instanceMethod yX10_isRow ∈ cr_T ∧ Cond.selects RX10 yX10_isRow yX10_isRow ∈ cr_T := ⟨cr_T_mem (List.mem_of_getElem? (i := 892) (by decide +kernel)) (by decide +kernel), cr_T_mem (List.mem_of_getElem? (i := 23) (by decide +kernel)) (by decide +kernel)⟩
theorem mc_X4_refusal : Cond.code yX4_refusal cX4_refusal 4 (some .int) ∈ cr_T := cr_T_mem (List.mem_of_getElem? (i := 897) (by decide +kernel)) (by decide +kernel)
theorem cY_X4_refusal : cr_Y yX4_refusal cX4_refusal 4 3 (some .int) := ⟨mc_X4_refusal, mi_X4, by decide +kernel, by decide +kernel, by decide +kernel⟩
theorem mv_X4_refusal : Cond.instanceMethod yX4_refusal ∈ cr_T ∧ Cond.selects RX4 yX4_refusal yX4_refusal ∈ cr_T := ⟨cr_T_mem (List.mem_of_getElem? (i := 895) (by decide +kernel)) (by decide +kernel), cr_T_mem (List.mem_of_getElem? (i := 896) (by decide +kernel)) (by decide +kernel)⟩
theorem mc_X4_hasItems : Cond.code yX4_hasItems cX4_hasItems 3 (some .boolean) ∈ cr_T := cr_T_mem (List.mem_of_getElem? (i := 901) (by decide +kernel)) (by decide +kernel)
theorem cY_X4_hasItems : cr_Y yX4_hasItems cX4_hasItems 3 2 (some .boolean) := ⟨mc_X4_hasItems, mi_X4, by decide +kernel, by decide +kernel, by decide +kernel⟩
theorem mv_X4_hasItems : Cond.instanceMethod yX4_hasItems ∈ cr_T ∧ Cond.selects RX4 yX4_hasItems yX4_hasItems ∈ cr_T := ⟨cr_T_mem (List.mem_of_getElem? (i := 899) (by decide +kernel)) (by decide +kernel), cr_T_mem (List.mem_of_getElem? (i := 900) (by decide +kernel)) (by decide +kernel)⟩
theorem mc_X10_film : Cond.code yX10_film cX10_film 8 (some .int) ∈ cr_T := cr_T_mem (List.mem_of_getElem? (i := 905) (by decide +kernel)) (by decide +kernel)
theorem cY_X10_film : cr_Y yX10_film cX10_film 8 4 (some .int) := ⟨mc_X10_film, mi_X10, by decide +kernel, by decide +kernel, by decide +kernel⟩
theorem mv_X10_film : Cond.instanceMethod yX10_film ∈ cr_T ∧ Cond.selects RX10 yX10_film yX10_film ∈ cr_T := ⟨cr_T_mem (List.mem_of_getElem? (i := 903) (by decide +kernel)) (by decide +kernel), cr_T_mem (List.mem_of_getElem? (i := 904) (by decide +kernel)) (by decide +kernel)⟩
theorem mc_X10_sheet : Cond.code yX10_sheet cX10_sheet 4 (some .int) ∈ cr_T := cr_T_mem (List.mem_of_getElem? (i := 909) (by decide +kernel)) (by decide +kernel)
theorem cY_X10_sheet : cr_Y yX10_sheet cX10_sheet 4 3 (some .int) := ⟨mc_X10_sheet, mi_X10, by decide +kernel, by decide +kernel, by decide +kernel⟩
theorem mv_X10_sheet : Cond.instanceMethod yX10_sheet ∈ cr_T ∧ Cond.selects RX10 yX10_sheet yX10_sheet ∈ cr_T := ⟨cr_T_mem (List.mem_of_getElem? (i := 907) (by decide +kernel)) (by decide +kernel), cr_T_mem (List.mem_of_getElem? (i := 908) (by decide +kernel)) (by decide +kernel)⟩
theorem mc_X4_begin : Cond.code yX4_begin cX4_begin 3 none ∈ cr_T := cr_T_mem (List.mem_of_getElem? (i := 913) (by decide +kernel)) (by decide +kernel)
theorem cY_X4_begin : cr_Y yX4_begin cX4_begin 3 2 none := ⟨mc_X4_begin, mi_X4, by decide +kernel, by decide +kernel, by decide +kernel⟩
theorem mv_X4_begin : Cond.instanceMethod yX4_begin ∈ cr_T ∧ Cond.selects RX4 yX4_begin yX4_begin ∈ cr_T := ⟨cr_T_mem (List.mem_of_getElem? (i := 911) (by decide +kernel)) (by decide +kernel), cr_T_mem (List.mem_of_getElem? (i := 912) (by decide +kernel)) (by decide +kernel)⟩
theorem mc_J7_fill_d0a16 : Cond.code yJ7_fill_d0a16 cJ7_fill_d0a16 5 none ∈ cr_T := cr_T_mem (List.mem_of_getElem? (i := 916) (by decide +kernel)) (by decide +kernel)
theorem cY_J7_fill_d0a16 : cr_Y yJ7_fill_d0a16 cJ7_fill_d0a16 5 2 none := ⟨mc_J7_fill_d0a16, mi_J7, by decide +kernel, by decide +kernel, by decide +kernel⟩
theorem mv_J7_fill_d0a16 : Cond.static yJ7_fill_d0a16 ∈ cr_T := cr_T_mem (List.mem_of_getElem? (i := 915) (by decide +kernel)) (by decide +kernel)
theorem mc_X10_drop : Cond.code yX10_drop cX10_drop 2 (some .int) ∈ cr_T := cr_T_mem (List.mem_of_getElem? (i := 920) (by decide +kernel)) (by decide +kernel)
theorem cY_X10_drop : cr_Y yX10_drop cX10_drop 2 1 (some .int) := ⟨mc_X10_drop, mi_X10, by decide +kernel, by decide +kernel, by decide +kernel⟩
theorem mv_X10_drop : Cond.instanceMethod yX10_drop ∈ cr_T ∧ Cond.selects RX10 yX10_drop yX10_drop ∈ cr_T := ⟨cr_T_mem (List.mem_of_getElem? (i := 918) (by decide +kernel)) (by decide +kernel), cr_T_mem (List.mem_of_getElem? (i := 919) (by decide +kernel)) (by decide +kernel)⟩
theorem mc_X10_item : Cond.code yX10_item cX10_item 7 (some .int) ∈ cr_T := cr_T_mem (List.mem_of_getElem? (i := 924) (by decide +kernel)) (by decide +kernel)
theorem cY_X10_item : cr_Y yX10_item cX10_item 7 4 (some .int) := ⟨mc_X10_item, mi_X10, by decide +kernel, by decide +kernel, by decide +kernel⟩
theorem mv_X10_item : Cond.instanceMethod yX10_item ∈ cr_T ∧ Cond.selects RX10 yX10_item yX10_item ∈ cr_T := ⟨cr_T_mem (List.mem_of_getElem? (i := 922) (by decide +kernel)) (by decide +kernel), cr_T_mem (List.mem_of_getElem? (i := 923) (by decide +kernel)) (by decide +kernel)⟩
theorem mc_X10_lowestBits : Cond.code yX10_lowestBits cX10_lowestBits 3 (some .long) ∈ cr_T := cr_T_mem (List.mem_of_getElem? (i := 927) (by decide +kernel)) (by decide +kernel)
theorem cY_X10_lowestBits : cr_Y yX10_lowestBits cX10_lowestBits 3 2 (some .long) := ⟨mc_X10_lowestBits, mi_X10, by decide +kernel, by decide +kernel, by decide +kernel⟩
theorem mv_X10_lowestBits : Cond.static yX10_lowestBits ∈ cr_T := cr_T_mem (List.mem_of_getElem? (i := 926) (by decide +kernel)) (by decide +kernel)
theorem mc_X10_copy : Cond.code yX10_copy cX10_copy 8 (some .int) ∈ cr_T := cr_T_mem (List.mem_of_getElem? (i := 931) (by decide +kernel)) (by decide +kernel)
theorem cY_X10_copy : cr_Y yX10_copy cX10_copy 8 5 (some .int) := ⟨mc_X10_copy, mi_X10, by decide +kernel, by decide +kernel, by decide +kernel⟩
theorem mv_X10_copy : Cond.instanceMethod yX10_copy ∈ cr_T ∧ Cond.selects RX10 yX10_copy yX10_copy ∈ cr_T := ⟨cr_T_mem (List.mem_of_getElem? (i := 929) (by decide +kernel)) (by decide +kernel), cr_T_mem (List.mem_of_getElem? (i := 930) (by decide +kernel)) (by decide +kernel)⟩
theorem mc_X11_init : Cond.code yX11_init cX11_init 2 none ∈ cr_T := cr_T_mem (List.mem_of_getElem? (i := 940) (by decide +kernel)) (by decide +kernel)
theorem cY_X11_init : cr_Y yX11_init cX11_init 2 0 none := ⟨mc_X11_init, mi_X11, by decide +kernel, by decide +kernel, by decide +kernel⟩
theorem mc_X11_pair : Cond.code yX11_pair cX11_pair 5 (some .int) ∈ cr_T := cr_T_mem (List.mem_of_getElem? (i := 1048) (by decide +kernel)) (by decide +kernel)
theorem cY_X11_pair : cr_Y yX11_pair cX11_pair 5 4 (some .int) := ⟨mc_X11_pair, mi_X11, by decide +kernel, by decide +kernel, by decide +kernel⟩
theorem mv_X11_pair : Cond.instanceMethod yX11_pair ∈ cr_T ∧ Cond.selects RX11 yX11_pair yX11_pair ∈ cr_T := ⟨cr_T_mem (List.mem_of_getElem? (i := 1046) (by decide +kernel)) (by decide +kernel), cr_T_mem (List.mem_of_getElem? (i := 1047) (by decide +kernel)) (by decide +kernel)⟩
theorem mc_X11_in : Cond.code yX11_in cX11_in 6 (some .boolean) ∈ cr_T := cr_T_mem (List.mem_of_getElem? (i := 1052) (by decide +kernel)) (by decide +kernel)
theorem cY_X11_in : cr_Y yX11_in cX11_in 6 3 (some .boolean) := ⟨mc_X11_in, mi_X11, by decide +kernel, by decide +kernel, by decide +kernel⟩
theorem mv_X11_in : Cond.static yX11_in ∈ cr_T := cr_T_mem (List.mem_of_getElem? (i := 1051) (by decide +kernel)) (by decide +kernel)
theorem mc_X11_pairComes : Cond.code yX11_pairComes cX11_pairComes 7 none ∈ cr_T := cr_T_mem (List.mem_of_getElem? (i := 1059) (by decide +kernel)) (by decide +kernel)
theorem cY_X11_pairComes : cr_Y yX11_pairComes cX11_pairComes 7 5 none := ⟨mc_X11_pairComes, mi_X11, by decide +kernel, by decide +kernel, by decide +kernel⟩
theorem mv_X11_pairComes : Cond.instanceMethod yX11_pairComes ∈ cr_T ∧ Cond.selects RX11 yX11_pairComes yX11_pairComes ∈ cr_T := ⟨cr_T_mem (List.mem_of_getElem? (i := 1058) (by decide +kernel)) (by decide +kernel), cr_T_mem (List.mem_of_getElem? (i := 24) (by decide +kernel)) (by decide +kernel)⟩
theorem mc_X11_phase : Cond.code yX11_phase cX11_phase 4 (some .int) ∈ cr_T := cr_T_mem (List.mem_of_getElem? (i := 1063) (by decide +kernel)) (by decide +kernel)
theorem cY_X11_phase : cr_Y yX11_phase cX11_phase 4 2 (some .int) := ⟨mc_X11_phase, mi_X11, by decide +kernel, by decide +kernel, by decide +kernel⟩
theorem mv_X11_phase : Cond.instanceMethod yX11_phase ∈ cr_T ∧ Cond.selects RX11 yX11_phase yX11_phase ∈ cr_T := ⟨cr_T_mem (List.mem_of_getElem? (i := 1061) (by decide +kernel)) (by decide +kernel), cr_T_mem (List.mem_of_getElem? (i := 1062) (by decide +kernel)) (by decide +kernel)⟩
theorem mc_X11_isPair : Cond.code yX11_isPair cX11_isPair 2 (some .boolean) ∈ cr_T := cr_T_mem (List.mem_of_getElem? (i := 1067) (by decide +kernel)) (by decide +kernel)
theorem cY_X11_isPair : cr_Y yX11_isPair cX11_isPair 2 1 (some .boolean) := ⟨mc_X11_isPair, mi_X11, by decide +kernel, by decide +kernel, by decide +kernel⟩
theorem mv_X11_isPair : Cond.instanceMethod yX11_isPair ∈ cr_T ∧ Cond.selects RX11 yX11_isPair yX11_isPair ∈ cr_T := ⟨cr_T_mem (List.mem_of_getElem? (i := 1066) (by decide +kernel)) (by decide +kernel), cr_T_mem (List.mem_of_getElem? (i := 25) (by decide +kernel)) (by decide +kernel)⟩
theorem mc_X11_ship : Cond.code yX11_ship cX11_ship 4 (some .int) ∈ cr_T := cr_T_mem (List.mem_of_getElem? (i := 1071) (by decide +kernel)) (by decide +kernel)
theorem cY_X11_ship : cr_Y yX11_ship cX11_ship 4 3 (some .int) := ⟨mc_X11_ship, mi_X11, by decide +kernel, by decide +kernel, by decide +kernel⟩
theorem mv_X11_ship : Cond.instanceMethod yX11_ship ∈ cr_T ∧ Cond.selects RX11 yX11_ship yX11_ship ∈ cr_T := ⟨cr_T_mem (List.mem_of_getElem? (i := 1069) (by decide +kernel)) (by decide +kernel), cr_T_mem (List.mem_of_getElem? (i := 1070) (by decide +kernel)) (by decide +kernel)⟩
theorem mc_X11_shipComes : Cond.code yX11_shipComes cX11_shipComes 4 none ∈ cr_T := cr_T_mem (List.mem_of_getElem? (i := 1077) (by decide +kernel)) (by decide +kernel)
theorem cY_X11_shipComes : cr_Y yX11_shipComes cX11_shipComes 4 3 none := ⟨mc_X11_shipComes, mi_X11, by decide +kernel, by decide +kernel, by decide +kernel⟩
theorem mv_X11_shipComes : Cond.instanceMethod yX11_shipComes ∈ cr_T ∧ Cond.selects RX11 yX11_shipComes yX11_shipComes ∈ cr_T := ⟨cr_T_mem (List.mem_of_getElem? (i := 1076) (by decide +kernel)) (by decide +kernel), cr_T_mem (List.mem_of_getElem? (i := 26) (by decide +kernel)) (by decide +kernel)⟩
theorem mc_X11_of : Cond.code yX11_of cX11_of 3 (some .int) ∈ cr_T := cr_T_mem (List.mem_of_getElem? (i := 1081) (by decide +kernel)) (by decide +kernel)
theorem cY_X11_of : cr_Y yX11_of cX11_of 3 2 (some .int) := ⟨mc_X11_of, mi_X11, by decide +kernel, by decide +kernel, by decide +kernel⟩
theorem mv_X11_of : Cond.instanceMethod yX11_of ∈ cr_T ∧ Cond.selects RX11 yX11_of yX11_of ∈ cr_T := ⟨cr_T_mem (List.mem_of_getElem? (i := 1079) (by decide +kernel)) (by decide +kernel), cr_T_mem (List.mem_of_getElem? (i := 1080) (by decide +kernel)) (by decide +kernel)⟩
theorem mc_X11_told : Cond.code yX11_told cX11_told 3 (some .int) ∈ cr_T := cr_T_mem (List.mem_of_getElem? (i := 1086) (by decide +kernel)) (by decide +kernel)
theorem cY_X11_told : cr_Y yX11_told cX11_told 3 2 (some .int) := ⟨mc_X11_told, mi_X11, by decide +kernel, by decide +kernel, by decide +kernel⟩
theorem mv_X11_told : Cond.instanceMethod yX11_told ∈ cr_T ∧ Cond.selects RX11 yX11_told yX11_told ∈ cr_T := ⟨cr_T_mem (List.mem_of_getElem? (i := 1084) (by decide +kernel)) (by decide +kernel), cr_T_mem (List.mem_of_getElem? (i := 1085) (by decide +kernel)) (by decide +kernel)⟩
theorem mc_X11_isShip : Cond.code yX11_isShip cX11_isShip 2 (some .boolean) ∈ cr_T := cr_T_mem (List.mem_of_getElem? (i := 1090) (by decide +kernel)) (by decide +kernel)
theorem cY_X11_isShip : cr_Y yX11_isShip cX11_isShip 2 1 (some .boolean) := ⟨mc_X11_isShip, mi_X11, by decide +kernel, by decide +kernel, by decide +kernel⟩
theorem mv_X11_isShip : Cond.instanceMethod yX11_isShip ∈ cr_T ∧ Cond.selects RX11 yX11_isShip yX11_isShip ∈ cr_T := ⟨cr_T_mem (List.mem_of_getElem? (i := 1089) (by decide +kernel)) (by decide +kernel), cr_T_mem (List.mem_of_getElem? (i := 27) (by decide +kernel)) (by decide +kernel)⟩
theorem mc_X11_low : Cond.code yX11_low cX11_low 2 (some .int) ∈ cr_T := cr_T_mem (List.mem_of_getElem? (i := 1094) (by decide +kernel)) (by decide +kernel)
theorem cY_X11_low : cr_Y yX11_low cX11_low 2 1 (some .int) := ⟨mc_X11_low, mi_X11, by decide +kernel, by decide +kernel, by decide +kernel⟩
theorem mv_X11_low : Cond.instanceMethod yX11_low ∈ cr_T ∧ Cond.selects RX11 yX11_low yX11_low ∈ cr_T := ⟨cr_T_mem (List.mem_of_getElem? (i := 1093) (by decide +kernel)) (by decide +kernel), cr_T_mem (List.mem_of_getElem? (i := 28) (by decide +kernel)) (by decide +kernel)⟩
theorem mc_X11_high : Cond.code yX11_high cX11_high 3 (some .int) ∈ cr_T := cr_T_mem (List.mem_of_getElem? (i := 1098) (by decide +kernel)) (by decide +kernel)
theorem cY_X11_high : cr_Y yX11_high cX11_high 3 1 (some .int) := ⟨mc_X11_high, mi_X11, by decide +kernel, by decide +kernel, by decide +kernel⟩
theorem mv_X11_high : Cond.instanceMethod yX11_high ∈ cr_T ∧ Cond.selects RX11 yX11_high yX11_high ∈ cr_T := ⟨cr_T_mem (List.mem_of_getElem? (i := 1097) (by decide +kernel)) (by decide +kernel), cr_T_mem (List.mem_of_getElem? (i := 29) (by decide +kernel)) (by decide +kernel)⟩
theorem mc_X11_span : Cond.code yX11_span cX11_span 2 (some .int) ∈ cr_T := cr_T_mem (List.mem_of_getElem? (i := 1102) (by decide +kernel)) (by decide +kernel)
theorem cY_X11_span : cr_Y yX11_span cX11_span 2 1 (some .int) := ⟨mc_X11_span, mi_X11, by decide +kernel, by decide +kernel, by decide +kernel⟩
theorem mv_X11_span : Cond.instanceMethod yX11_span ∈ cr_T ∧ Cond.selects RX11 yX11_span yX11_span ∈ cr_T := ⟨cr_T_mem (List.mem_of_getElem? (i := 1101) (by decide +kernel)) (by decide +kernel), cr_T_mem (List.mem_of_getElem? (i := 30) (by decide +kernel)) (by decide +kernel)⟩
theorem mc_X11_open : Cond.code yX11_open cX11_open 3 (some .int) ∈ cr_T := cr_T_mem (List.mem_of_getElem? (i := 1106) (by decide +kernel)) (by decide +kernel)
theorem cY_X11_open : cr_Y yX11_open cX11_open 3 2 (some .int) := ⟨mc_X11_open, mi_X11, by decide +kernel, by decide +kernel, by decide +kernel⟩
theorem mv_X11_open : Cond.instanceMethod yX11_open ∈ cr_T ∧ Cond.selects RX11 yX11_open yX11_open ∈ cr_T := ⟨cr_T_mem (List.mem_of_getElem? (i := 1104) (by decide +kernel)) (by decide +kernel), cr_T_mem (List.mem_of_getElem? (i := 1105) (by decide +kernel)) (by decide +kernel)⟩
theorem mc_X11_isOpen : Cond.code yX11_isOpen cX11_isOpen 4 (some .boolean) ∈ cr_T := cr_T_mem (List.mem_of_getElem? (i := 1111) (by decide +kernel)) (by decide +kernel)
theorem cY_X11_isOpen : cr_Y yX11_isOpen cX11_isOpen 4 3 (some .boolean) := ⟨mc_X11_isOpen, mi_X11, by decide +kernel, by decide +kernel, by decide +kernel⟩
theorem mv_X11_isOpen : Cond.instanceMethod yX11_isOpen ∈ cr_T ∧ Cond.selects RX11 yX11_isOpen yX11_isOpen ∈ cr_T := ⟨cr_T_mem (List.mem_of_getElem? (i := 1110) (by decide +kernel)) (by decide +kernel), cr_T_mem (List.mem_of_getElem? (i := 31) (by decide +kernel)) (by decide +kernel)⟩
theorem mc_X11_isPlain : Cond.code yX11_isPlain cX11_isPlain 4 (some .boolean) ∈ cr_T := cr_T_mem (List.mem_of_getElem? (i := 1115) (by decide +kernel)) (by decide +kernel)
theorem cY_X11_isPlain : cr_Y yX11_isPlain cX11_isPlain 4 3 (some .boolean) := ⟨mc_X11_isPlain, mi_X11, by decide +kernel, by decide +kernel, by decide +kernel⟩
theorem mv_X11_isPlain : Cond.instanceMethod yX11_isPlain ∈ cr_T ∧ Cond.selects RX11 yX11_isPlain yX11_isPlain ∈ cr_T := ⟨cr_T_mem (List.mem_of_getElem? (i := 1114) (by decide +kernel)) (by decide +kernel), cr_T_mem (List.mem_of_getElem? (i := 32) (by decide +kernel)) (by decide +kernel)⟩
theorem mc_X11_type : Cond.code yX11_type cX11_type 2 (some .int) ∈ cr_T := cr_T_mem (List.mem_of_getElem? (i := 1119) (by decide +kernel)) (by decide +kernel)
theorem cY_X11_type : cr_Y yX11_type cX11_type 2 1 (some .int) := ⟨mc_X11_type, mi_X11, by decide +kernel, by decide +kernel, by decide +kernel⟩
theorem mv_X11_type : Cond.instanceMethod yX11_type ∈ cr_T ∧ Cond.selects RX11 yX11_type yX11_type ∈ cr_T := ⟨cr_T_mem (List.mem_of_getElem? (i := 1117) (by decide +kernel)) (by decide +kernel), cr_T_mem (List.mem_of_getElem? (i := 1118) (by decide +kernel)) (by decide +kernel)⟩
theorem mc_X11_strait : Cond.code yX11_strait cX11_strait 3 (some .int) ∈ cr_T := cr_T_mem (List.mem_of_getElem? (i := 1125) (by decide +kernel)) (by decide +kernel)
theorem cY_X11_strait : cr_Y yX11_strait cX11_strait 3 0 (some .int) := ⟨mc_X11_strait, mi_X11, by decide +kernel, by decide +kernel, by decide +kernel⟩
theorem mv_X11_strait : Cond.instanceMethod yX11_strait ∈ cr_T ∧ Cond.selects RX11 yX11_strait yX11_strait ∈ cr_T := ⟨cr_T_mem (List.mem_of_getElem? (i := 1123) (by decide +kernel)) (by decide +kernel), cr_T_mem (List.mem_of_getElem? (i := 1124) (by decide +kernel)) (by decide +kernel)⟩
theorem mc_X11_readPair : Cond.code yX11_readPair cX11_readPair 2 none ∈ cr_T := cr_T_mem (List.mem_of_getElem? (i := 1129) (by decide +kernel)) (by decide +kernel)
theorem cY_X11_readPair : cr_Y yX11_readPair cX11_readPair 2 0 none := ⟨mc_X11_readPair, mi_X11, by decide +kernel, by decide +kernel, by decide +kernel⟩
theorem mv_X11_readPair : Cond.instanceMethod yX11_readPair ∈ cr_T ∧ Cond.selects RX11 yX11_readPair yX11_readPair ∈ cr_T := ⟨cr_T_mem (List.mem_of_getElem? (i := 1128) (by decide +kernel)) (by decide +kernel), cr_T_mem (List.mem_of_getElem? (i := 33) (by decide +kernel)) (by decide +kernel)⟩
theorem mc_X11_letter : Cond.code yX11_letter cX11_letter 7 (some .int) ∈ cr_T := cr_T_mem (List.mem_of_getElem? (i := 1133) (by decide +kernel)) (by decide +kernel)
theorem cY_X11_letter : cr_Y yX11_letter cX11_letter 7 4 (some .int) := ⟨mc_X11_letter, mi_X11, by decide +kernel, by decide +kernel, by decide +kernel⟩
theorem mv_X11_letter : Cond.instanceMethod yX11_letter ∈ cr_T ∧ Cond.selects RX11 yX11_letter yX11_letter ∈ cr_T := ⟨cr_T_mem (List.mem_of_getElem? (i := 1132) (by decide +kernel)) (by decide +kernel), cr_T_mem (List.mem_of_getElem? (i := 34) (by decide +kernel)) (by decide +kernel)⟩
theorem mc_X11_here : Cond.code yX11_here cX11_here 1 (some .int) ∈ cr_T := cr_T_mem (List.mem_of_getElem? (i := 1137) (by decide +kernel)) (by decide +kernel)
theorem cY_X11_here : cr_Y yX11_here cX11_here 1 0 (some .int) := ⟨mc_X11_here, mi_X11, by decide +kernel, by decide +kernel, by decide +kernel⟩
theorem mv_X11_here : Cond.instanceMethod yX11_here ∈ cr_T ∧ Cond.selects RX11 yX11_here yX11_here ∈ cr_T := ⟨cr_T_mem (List.mem_of_getElem? (i := 1136) (by decide +kernel)) (by decide +kernel), cr_T_mem (List.mem_of_getElem? (i := 35) (by decide +kernel)) (by decide +kernel)⟩
theorem mc_X11_number : Cond.code yX11_number cX11_number 5 (some .int) ∈ cr_T := cr_T_mem (List.mem_of_getElem? (i := 1141) (by decide +kernel)) (by decide +kernel)
theorem cY_X11_number : cr_Y yX11_number cX11_number 5 2 (some .int) := ⟨mc_X11_number, mi_X11, by decide +kernel, by decide +kernel, by decide +kernel⟩
theorem mv_X11_number : Cond.instanceMethod yX11_number ∈ cr_T ∧ Cond.selects RX11 yX11_number yX11_number ∈ cr_T := ⟨cr_T_mem (List.mem_of_getElem? (i := 1140) (by decide +kernel)) (by decide +kernel), cr_T_mem (List.mem_of_getElem? (i := 36) (by decide +kernel)) (by decide +kernel)⟩
theorem mc_X11_must : Cond.code yX11_must cX11_must 2 none ∈ cr_T := cr_T_mem (List.mem_of_getElem? (i := 1147) (by decide +kernel)) (by decide +kernel)
theorem cY_X11_must : cr_Y yX11_must cX11_must 2 1 none := ⟨mc_X11_must, mi_X11, by decide +kernel, by decide +kernel, by decide +kernel⟩
theorem mv_X11_must : Cond.instanceMethod yX11_must ∈ cr_T ∧ Cond.selects RX11 yX11_must yX11_must ∈ cr_T := ⟨cr_T_mem (List.mem_of_getElem? (i := 1146) (by decide +kernel)) (by decide +kernel), cr_T_mem (List.mem_of_getElem? (i := 37) (by decide +kernel)) (by decide +kernel)⟩
theorem mc_X11_has : Cond.code yX11_has cX11_has 3 (some .boolean) ∈ cr_T := cr_T_mem (List.mem_of_getElem? (i := 1151) (by decide +kernel)) (by decide +kernel)
theorem cY_X11_has : cr_Y yX11_has cX11_has 3 1 (some .boolean) := ⟨mc_X11_has, mi_X11, by decide +kernel, by decide +kernel, by decide +kernel⟩
theorem mv_X11_has : Cond.instanceMethod yX11_has ∈ cr_T ∧ Cond.selects RX11 yX11_has yX11_has ∈ cr_T := ⟨cr_T_mem (List.mem_of_getElem? (i := 1150) (by decide +kernel)) (by decide +kernel), cr_T_mem (List.mem_of_getElem? (i := 38) (by decide +kernel)) (by decide +kernel)⟩
theorem mc_X11_readShip : Cond.code yX11_readShip cX11_readShip 2 none ∈ cr_T := cr_T_mem (List.mem_of_getElem? (i := 1155) (by decide +kernel)) (by decide +kernel)
theorem cY_X11_readShip : cr_Y yX11_readShip cX11_readShip 2 0 none := ⟨mc_X11_readShip, mi_X11, by decide +kernel, by decide +kernel, by decide +kernel⟩
theorem mv_X11_readShip : Cond.instanceMethod yX11_readShip ∈ cr_T ∧ Cond.selects RX11 yX11_readShip yX11_readShip ∈ cr_T := ⟨cr_T_mem (List.mem_of_getElem? (i := 1154) (by decide +kernel)) (by decide +kernel), cr_T_mem (List.mem_of_getElem? (i := 39) (by decide +kernel)) (by decide +kernel)⟩
theorem mc_X11_digit : Cond.code yX11_digit cX11_digit 3 (some .int) ∈ cr_T := cr_T_mem (List.mem_of_getElem? (i := 1159) (by decide +kernel)) (by decide +kernel)
theorem cY_X11_digit : cr_Y yX11_digit cX11_digit 3 1 (some .int) := ⟨mc_X11_digit, mi_X11, by decide +kernel, by decide +kernel, by decide +kernel⟩
theorem mv_X11_digit : Cond.instanceMethod yX11_digit ∈ cr_T ∧ Cond.selects RX11 yX11_digit yX11_digit ∈ cr_T := ⟨cr_T_mem (List.mem_of_getElem? (i := 1158) (by decide +kernel)) (by decide +kernel), cr_T_mem (List.mem_of_getElem? (i := 40) (by decide +kernel)) (by decide +kernel)⟩
theorem mc_X11_count : Cond.code yX11_count cX11_count 2 (some .int) ∈ cr_T := cr_T_mem (List.mem_of_getElem? (i := 1163) (by decide +kernel)) (by decide +kernel)
theorem cY_X11_count : cr_Y yX11_count cX11_count 2 1 (some .int) := ⟨mc_X11_count, mi_X11, by decide +kernel, by decide +kernel, by decide +kernel⟩
theorem mv_X11_count : Cond.instanceMethod yX11_count ∈ cr_T ∧ Cond.selects RX11 yX11_count yX11_count ∈ cr_T := ⟨cr_T_mem (List.mem_of_getElem? (i := 1161) (by decide +kernel)) (by decide +kernel), cr_T_mem (List.mem_of_getElem? (i := 1162) (by decide +kernel)) (by decide +kernel)⟩
theorem mc_X11_setOut : Cond.code yX11_setOut cX11_setOut 2 (some .int) ∈ cr_T := cr_T_mem (List.mem_of_getElem? (i := 1167) (by decide +kernel)) (by decide +kernel)
theorem cY_X11_setOut : cr_Y yX11_setOut cX11_setOut 2 1 (some .int) := ⟨mc_X11_setOut, mi_X11, by decide +kernel, by decide +kernel, by decide +kernel⟩
theorem mv_X11_setOut : Cond.instanceMethod yX11_setOut ∈ cr_T ∧ Cond.selects RX11 yX11_setOut yX11_setOut ∈ cr_T := ⟨cr_T_mem (List.mem_of_getElem? (i := 1165) (by decide +kernel)) (by decide +kernel), cr_T_mem (List.mem_of_getElem? (i := 1166) (by decide +kernel)) (by decide +kernel)⟩
theorem mc_X11_notes : Cond.code yX11_notes cX11_notes 2 none ∈ cr_T := cr_T_mem (List.mem_of_getElem? (i := 1171) (by decide +kernel)) (by decide +kernel)
theorem cY_X11_notes : cr_Y yX11_notes cX11_notes 2 0 none := ⟨mc_X11_notes, mi_X11, by decide +kernel, by decide +kernel, by decide +kernel⟩
theorem mv_X11_notes : Cond.instanceMethod yX11_notes ∈ cr_T ∧ Cond.selects RX11 yX11_notes yX11_notes ∈ cr_T := ⟨cr_T_mem (List.mem_of_getElem? (i := 1170) (by decide +kernel)) (by decide +kernel), cr_T_mem (List.mem_of_getElem? (i := 41) (by decide +kernel)) (by decide +kernel)⟩
theorem mc_X11_idle : Cond.code yX11_idle cX11_idle 2 (some .int) ∈ cr_T := cr_T_mem (List.mem_of_getElem? (i := 1175) (by decide +kernel)) (by decide +kernel)
theorem cY_X11_idle : cr_Y yX11_idle cX11_idle 2 1 (some .int) := ⟨mc_X11_idle, mi_X11, by decide +kernel, by decide +kernel, by decide +kernel⟩
theorem mv_X11_idle : Cond.instanceMethod yX11_idle ∈ cr_T ∧ Cond.selects RX11 yX11_idle yX11_idle ∈ cr_T := ⟨cr_T_mem (List.mem_of_getElem? (i := 1173) (by decide +kernel)) (by decide +kernel), cr_T_mem (List.mem_of_getElem? (i := 1174) (by decide +kernel)) (by decide +kernel)⟩
theorem mc_X11_pass : Cond.code yX11_pass cX11_pass 4 (some .int) ∈ cr_T := cr_T_mem (List.mem_of_getElem? (i := 1180) (by decide +kernel)) (by decide +kernel)
theorem cY_X11_pass : cr_Y yX11_pass cX11_pass 4 1 (some .int) := ⟨mc_X11_pass, mi_X11, by decide +kernel, by decide +kernel, by decide +kernel⟩
theorem mv_X11_pass : Cond.instanceMethod yX11_pass ∈ cr_T ∧ Cond.selects RX11 yX11_pass yX11_pass ∈ cr_T := ⟨cr_T_mem (List.mem_of_getElem? (i := 1178) (by decide +kernel)) (by decide +kernel), cr_T_mem (List.mem_of_getElem? (i := 1179) (by decide +kernel)) (by decide +kernel)⟩
theorem mc_X11_passes : Cond.code yX11_passes cX11_passes 9 none ∈ cr_T := cr_T_mem (List.mem_of_getElem? (i := 1184) (by decide +kernel)) (by decide +kernel)
theorem cY_X11_passes : cr_Y yX11_passes cX11_passes 9 5 none := ⟨mc_X11_passes, mi_X11, by decide +kernel, by decide +kernel, by decide +kernel⟩
theorem mv_X11_passes : Cond.instanceMethod yX11_passes ∈ cr_T ∧ Cond.selects RX11 yX11_passes yX11_passes ∈ cr_T := ⟨cr_T_mem (List.mem_of_getElem? (i := 1183) (by decide +kernel)) (by decide +kernel), cr_T_mem (List.mem_of_getElem? (i := 42) (by decide +kernel)) (by decide +kernel)⟩
theorem mc_X11_upwards : Cond.code yX11_upwards cX11_upwards 2 (some .int) ∈ cr_T := cr_T_mem (List.mem_of_getElem? (i := 1187) (by decide +kernel)) (by decide +kernel)
theorem cY_X11_upwards : cr_Y yX11_upwards cX11_upwards 2 2 (some .int) := ⟨mc_X11_upwards, mi_X11, by decide +kernel, by decide +kernel, by decide +kernel⟩
theorem mv_X11_upwards : Cond.static yX11_upwards ∈ cr_T := cr_T_mem (List.mem_of_getElem? (i := 1186) (by decide +kernel)) (by decide +kernel)
theorem mc_X11_undo : Cond.code yX11_undo cX11_undo 2 (some .int) ∈ cr_T := cr_T_mem (List.mem_of_getElem? (i := 1191) (by decide +kernel)) (by decide +kernel)
theorem cY_X11_undo : cr_Y yX11_undo cX11_undo 2 0 (some .int) := ⟨mc_X11_undo, mi_X11, by decide +kernel, by decide +kernel, by decide +kernel⟩
theorem mv_X11_undo : Cond.instanceMethod yX11_undo ∈ cr_T ∧ Cond.selects RX11 yX11_undo yX11_undo ∈ cr_T := ⟨cr_T_mem (List.mem_of_getElem? (i := 1189) (by decide +kernel)) (by decide +kernel), cr_T_mem (List.mem_of_getElem? (i := 1190) (by decide +kernel)) (by decide +kernel)⟩
theorem mc_X11_seed : Cond.code yX11_seed cX11_seed 3 (some .int) ∈ cr_T := cr_T_mem (List.mem_of_getElem? (i := 1195) (by decide +kernel)) (by decide +kernel)
theorem cY_X11_seed : cr_Y yX11_seed cX11_seed 3 1 (some .int) := ⟨mc_X11_seed, mi_X11, by decide +kernel, by decide +kernel, by decide +kernel⟩
theorem mv_X11_seed : Cond.instanceMethod yX11_seed ∈ cr_T ∧ Cond.selects RX11 yX11_seed yX11_seed ∈ cr_T := ⟨cr_T_mem (List.mem_of_getElem? (i := 1193) (by decide +kernel)) (by decide +kernel), cr_T_mem (List.mem_of_getElem? (i := 1194) (by decide +kernel)) (by decide +kernel)⟩
theorem mc_X11_lots : Cond.code yX11_lots cX11_lots 5 (some .int) ∈ cr_T := cr_T_mem (List.mem_of_getElem? (i := 1199) (by decide +kernel)) (by decide +kernel)
theorem cY_X11_lots : cr_Y yX11_lots cX11_lots 5 2 (some .int) := ⟨mc_X11_lots, mi_X11, by decide +kernel, by decide +kernel, by decide +kernel⟩
theorem mv_X11_lots : Cond.instanceMethod yX11_lots ∈ cr_T ∧ Cond.selects RX11 yX11_lots yX11_lots ∈ cr_T := ⟨cr_T_mem (List.mem_of_getElem? (i := 1197) (by decide +kernel)) (by decide +kernel), cr_T_mem (List.mem_of_getElem? (i := 1198) (by decide +kernel)) (by decide +kernel)⟩
theorem mc_X11_goesFull : Cond.code yX11_goesFull cX11_goesFull 4 none ∈ cr_T := cr_T_mem (List.mem_of_getElem? (i := 1206) (by decide +kernel)) (by decide +kernel)
theorem cY_X11_goesFull : cr_Y yX11_goesFull cX11_goesFull 4 2 none := ⟨mc_X11_goesFull, mi_X11, by decide +kernel, by decide +kernel, by decide +kernel⟩
theorem mv_X11_goesFull : Cond.instanceMethod yX11_goesFull ∈ cr_T ∧ Cond.selects RX11 yX11_goesFull yX11_goesFull ∈ cr_T := ⟨cr_T_mem (List.mem_of_getElem? (i := 1205) (by decide +kernel)) (by decide +kernel), cr_T_mem (List.mem_of_getElem? (i := 43) (by decide +kernel)) (by decide +kernel)⟩
theorem mc_X11_goes : Cond.code yX11_goes cX11_goes 4 none ∈ cr_T := cr_T_mem (List.mem_of_getElem? (i := 1210) (by decide +kernel)) (by decide +kernel)
theorem cY_X11_goes : cr_Y yX11_goes cX11_goes 4 2 none := ⟨mc_X11_goes, mi_X11, by decide +kernel, by decide +kernel, by decide +kernel⟩
theorem mv_X11_goes : Cond.instanceMethod yX11_goes ∈ cr_T ∧ Cond.selects RX11 yX11_goes yX11_goes ∈ cr_T := ⟨cr_T_mem (List.mem_of_getElem? (i := 1209) (by decide +kernel)) (by decide +kernel), cr_T_mem (List.mem_of_getElem? (i := 44) (by decide +kernel)) (by decide +kernel)⟩
theorem mc_X11_soonest : Cond.code yX11_soonest cX11_soonest 9 (some .int) ∈ cr_T := cr_T_mem (List.mem_of_getElem? (i := 1214) (by decide +kernel)) (by decide +kernel)
theorem cY_X11_soonest : cr_Y yX11_soonest cX11_soonest 9 3 (some .int) := ⟨mc_X11_soonest, mi_X11, by decide +kernel, by decide +kernel, by decide +kernel⟩
theorem mv_X11_soonest : Cond.instanceMethod yX11_soonest ∈ cr_T ∧ Cond.selects RX11 yX11_soonest yX11_soonest ∈ cr_T := ⟨cr_T_mem (List.mem_of_getElem? (i := 1212) (by decide +kernel)) (by decide +kernel), cr_T_mem (List.mem_of_getElem? (i := 1213) (by decide +kernel)) (by decide +kernel)⟩
theorem mc_X11_isSecond : Cond.code yX11_isSecond cX11_isSecond 1 (some .boolean) ∈ cr_T := cr_T_mem (List.mem_of_getElem? (i := 1217) (by decide +kernel)) (by decide +kernel)
theorem cY_X11_isSecond : cr_Y yX11_isSecond cX11_isSecond 1 1 (some .boolean) := ⟨mc_X11_isSecond, mi_X11, by decide +kernel, by decide +kernel, by decide +kernel⟩
theorem mv_X11_isSecond : Cond.static yX11_isSecond ∈ cr_T := cr_T_mem (List.mem_of_getElem? (i := 1216) (by decide +kernel)) (by decide +kernel)
theorem mc_X11_looksOn : Cond.code yX11_looksOn cX11_looksOn 8 none ∈ cr_T := cr_T_mem (List.mem_of_getElem? (i := 1223) (by decide +kernel)) (by decide +kernel)
theorem cY_X11_looksOn : cr_Y yX11_looksOn cX11_looksOn 8 2 none := ⟨mc_X11_looksOn, mi_X11, by decide +kernel, by decide +kernel, by decide +kernel⟩
theorem mv_X11_looksOn : Cond.instanceMethod yX11_looksOn ∈ cr_T ∧ Cond.selects RX11 yX11_looksOn yX11_looksOn ∈ cr_T := ⟨cr_T_mem (List.mem_of_getElem? (i := 1222) (by decide +kernel)) (by decide +kernel), cr_T_mem (List.mem_of_getElem? (i := 45) (by decide +kernel)) (by decide +kernel)⟩
theorem mc_X11_by : Cond.code yX11_by cX11_by 6 (some .int) ∈ cr_T := cr_T_mem (List.mem_of_getElem? (i := 1228) (by decide +kernel)) (by decide +kernel)
theorem cY_X11_by : cr_Y yX11_by cX11_by 6 5 (some .int) := ⟨mc_X11_by, mi_X11, by decide +kernel, by decide +kernel, by decide +kernel⟩
theorem mv_X11_by : Cond.instanceMethod yX11_by ∈ cr_T ∧ Cond.selects RX11 yX11_by yX11_by ∈ cr_T := ⟨cr_T_mem (List.mem_of_getElem? (i := 1227) (by decide +kernel)) (by decide +kernel), cr_T_mem (List.mem_of_getElem? (i := 46) (by decide +kernel)) (by decide +kernel)⟩
theorem mc_X11_endOf : Cond.code yX11_endOf cX11_endOf 3 (some .int) ∈ cr_T := cr_T_mem (List.mem_of_getElem? (i := 1232) (by decide +kernel)) (by decide +kernel)
theorem cY_X11_endOf : cr_Y yX11_endOf cX11_endOf 3 2 (some .int) := ⟨mc_X11_endOf, mi_X11, by decide +kernel, by decide +kernel, by decide +kernel⟩
theorem mv_X11_endOf : Cond.instanceMethod yX11_endOf ∈ cr_T ∧ Cond.selects RX11 yX11_endOf yX11_endOf ∈ cr_T := ⟨cr_T_mem (List.mem_of_getElem? (i := 1231) (by decide +kernel)) (by decide +kernel), cr_T_mem (List.mem_of_getElem? (i := 47) (by decide +kernel)) (by decide +kernel)⟩
theorem mc_X11_full : Cond.code yX11_full cX11_full 4 (some .int) ∈ cr_T := cr_T_mem (List.mem_of_getElem? (i := 1236) (by decide +kernel)) (by decide +kernel)
theorem cY_X11_full : cr_Y yX11_full cX11_full 4 3 (some .int) := ⟨mc_X11_full, mi_X11, by decide +kernel, by decide +kernel, by decide +kernel⟩
theorem mv_X11_full : Cond.instanceMethod yX11_full ∈ cr_T ∧ Cond.selects RX11 yX11_full yX11_full ∈ cr_T := ⟨cr_T_mem (List.mem_of_getElem? (i := 1234) (by decide +kernel)) (by decide +kernel), cr_T_mem (List.mem_of_getElem? (i := 1235) (by decide +kernel)) (by decide +kernel)⟩
theorem mc_X11_fog : Cond.code yX11_fog cX11_fog 7 (some .int) ∈ cr_T := cr_T_mem (List.mem_of_getElem? (i := 1240) (by decide +kernel)) (by decide +kernel)
theorem cY_X11_fog : cr_Y yX11_fog cX11_fog 7 3 (some .int) := ⟨mc_X11_fog, mi_X11, by decide +kernel, by decide +kernel, by decide +kernel⟩
theorem mv_X11_fog : Cond.instanceMethod yX11_fog ∈ cr_T ∧ Cond.selects RX11 yX11_fog yX11_fog ∈ cr_T := ⟨cr_T_mem (List.mem_of_getElem? (i := 1238) (by decide +kernel)) (by decide +kernel), cr_T_mem (List.mem_of_getElem? (i := 1239) (by decide +kernel)) (by decide +kernel)⟩
theorem mc_X11_clears : Cond.code yX11_clears cX11_clears 10 (some .int) ∈ cr_T := cr_T_mem (List.mem_of_getElem? (i := 1244) (by decide +kernel)) (by decide +kernel)
theorem cY_X11_clears : cr_Y yX11_clears cX11_clears 10 2 (some .int) := ⟨mc_X11_clears, mi_X11, by decide +kernel, by decide +kernel, by decide +kernel⟩
theorem mv_X11_clears : Cond.instanceMethod yX11_clears ∈ cr_T ∧ Cond.selects RX11 yX11_clears yX11_clears ∈ cr_T := ⟨cr_T_mem (List.mem_of_getElem? (i := 1243) (by decide +kernel)) (by decide +kernel), cr_T_mem (List.mem_of_getElem? (i := 48) (by decide +kernel)) (by decide +kernel)⟩
theorem mc_X11_common : Cond.code yX11_common cX11_common 5 (some .int) ∈ cr_T := cr_T_mem (List.mem_of_getElem? (i := 1247) (by decide +kernel)) (by decide +kernel)
theorem cY_X11_common : cr_Y yX11_common cX11_common 5 2 (some .int) := ⟨mc_X11_common, mi_X11, by decide +kernel, by decide +kernel, by decide +kernel⟩
theorem mv_X11_common : Cond.static yX11_common ∈ cr_T := cr_T_mem (List.mem_of_getElem? (i := 1246) (by decide +kernel)) (by decide +kernel)
theorem mc_X11_sure : Cond.code yX11_sure cX11_sure 7 (some .int) ∈ cr_T := cr_T_mem (List.mem_of_getElem? (i := 1251) (by decide +kernel)) (by decide +kernel)
theorem cY_X11_sure : cr_Y yX11_sure cX11_sure 7 2 (some .int) := ⟨mc_X11_sure, mi_X11, by decide +kernel, by decide +kernel, by decide +kernel⟩
theorem mv_X11_sure : Cond.instanceMethod yX11_sure ∈ cr_T ∧ Cond.selects RX11 yX11_sure yX11_sure ∈ cr_T := ⟨cr_T_mem (List.mem_of_getElem? (i := 1249) (by decide +kernel)) (by decide +kernel), cr_T_mem (List.mem_of_getElem? (i := 1250) (by decide +kernel)) (by decide +kernel)⟩
theorem mc_X11_stones : Cond.code yX11_stones cX11_stones 10 (some .int) ∈ cr_T := cr_T_mem (List.mem_of_getElem? (i := 1255) (by decide +kernel)) (by decide +kernel)
theorem cY_X11_stones : cr_Y yX11_stones cX11_stones 10 3 (some .int) := ⟨mc_X11_stones, mi_X11, by decide +kernel, by decide +kernel, by decide +kernel⟩
theorem mv_X11_stones : Cond.instanceMethod yX11_stones ∈ cr_T ∧ Cond.selects RX11 yX11_stones yX11_stones ∈ cr_T := ⟨cr_T_mem (List.mem_of_getElem? (i := 1253) (by decide +kernel)) (by decide +kernel), cr_T_mem (List.mem_of_getElem? (i := 1254) (by decide +kernel)) (by decide +kernel)⟩
theorem mc_X11_convoy : Cond.code yX11_convoy cX11_convoy 9 (some .int) ∈ cr_T := cr_T_mem (List.mem_of_getElem? (i := 1260) (by decide +kernel)) (by decide +kernel)
theorem cY_X11_convoy : cr_Y yX11_convoy cX11_convoy 9 3 (some .int) := ⟨mc_X11_convoy, mi_X11, by decide +kernel, by decide +kernel, by decide +kernel⟩
theorem mv_X11_convoy : Cond.instanceMethod yX11_convoy ∈ cr_T ∧ Cond.selects RX11 yX11_convoy yX11_convoy ∈ cr_T := ⟨cr_T_mem (List.mem_of_getElem? (i := 1258) (by decide +kernel)) (by decide +kernel), cr_T_mem (List.mem_of_getElem? (i := 1259) (by decide +kernel)) (by decide +kernel)⟩
theorem mc_X11_many : Cond.code yX11_many cX11_many 3 (some .int) ∈ cr_T := cr_T_mem (List.mem_of_getElem? (i := 1263) (by decide +kernel)) (by decide +kernel)
theorem cY_X11_many : cr_Y yX11_many cX11_many 3 1 (some .int) := ⟨mc_X11_many, mi_X11, by decide +kernel, by decide +kernel, by decide +kernel⟩
theorem mv_X11_many : Cond.static yX11_many ∈ cr_T := cr_T_mem (List.mem_of_getElem? (i := 1262) (by decide +kernel)) (by decide +kernel)
theorem mc_X11_rudder : Cond.code yX11_rudder cX11_rudder 6 (some .int) ∈ cr_T := cr_T_mem (List.mem_of_getElem? (i := 1267) (by decide +kernel)) (by decide +kernel)
theorem cY_X11_rudder : cr_Y yX11_rudder cX11_rudder 6 3 (some .int) := ⟨mc_X11_rudder, mi_X11, by decide +kernel, by decide +kernel, by decide +kernel⟩
theorem mv_X11_rudder : Cond.instanceMethod yX11_rudder ∈ cr_T ∧ Cond.selects RX11 yX11_rudder yX11_rudder ∈ cr_T := ⟨cr_T_mem (List.mem_of_getElem? (i := 1265) (by decide +kernel)) (by decide +kernel), cr_T_mem (List.mem_of_getElem? (i := 1266) (by decide +kernel)) (by decide +kernel)⟩
theorem mc_X11_worth : Cond.code yX11_worth cX11_worth 7 (some .int) ∈ cr_T := cr_T_mem (List.mem_of_getElem? (i := 1272) (by decide +kernel)) (by decide +kernel)
theorem cY_X11_worth : cr_Y yX11_worth cX11_worth 7 2 (some .int) := ⟨mc_X11_worth, mi_X11, by decide +kernel, by decide +kernel, by decide +kernel⟩
theorem mv_X11_worth : Cond.instanceMethod yX11_worth ∈ cr_T ∧ Cond.selects RX11 yX11_worth yX11_worth ∈ cr_T := ⟨cr_T_mem (List.mem_of_getElem? (i := 1270) (by decide +kernel)) (by decide +kernel), cr_T_mem (List.mem_of_getElem? (i := 1271) (by decide +kernel)) (by decide +kernel)⟩
theorem mc_X11_isClean : Cond.code yX11_isClean cX11_isClean 1 (some .boolean) ∈ cr_T := cr_T_mem (List.mem_of_getElem? (i := 1276) (by decide +kernel)) (by decide +kernel)
theorem cY_X11_isClean : cr_Y yX11_isClean cX11_isClean 1 0 (some .boolean) := ⟨mc_X11_isClean, mi_X11, by decide +kernel, by decide +kernel, by decide +kernel⟩
theorem mv_X11_isClean : Cond.instanceMethod yX11_isClean ∈ cr_T ∧ Cond.selects RX11 yX11_isClean yX11_isClean ∈ cr_T := ⟨cr_T_mem (List.mem_of_getElem? (i := 1275) (by decide +kernel)) (by decide +kernel), cr_T_mem (List.mem_of_getElem? (i := 49) (by decide +kernel)) (by decide +kernel)⟩
theorem mc_X11_look : Cond.code yX11_look cX11_look 3 (some .int) ∈ cr_T := cr_T_mem (List.mem_of_getElem? (i := 1280) (by decide +kernel)) (by decide +kernel)
theorem cY_X11_look : cr_Y yX11_look cX11_look 3 2 (some .int) := ⟨mc_X11_look, mi_X11, by decide +kernel, by decide +kernel, by decide +kernel⟩
theorem mv_X11_look : Cond.instanceMethod yX11_look ∈ cr_T ∧ Cond.selects RX11 yX11_look yX11_look ∈ cr_T := ⟨cr_T_mem (List.mem_of_getElem? (i := 1278) (by decide +kernel)) (by decide +kernel), cr_T_mem (List.mem_of_getElem? (i := 1279) (by decide +kernel)) (by decide +kernel)⟩
theorem mc_X11_forget : Cond.code yX11_forget cX11_forget 2 (some .int) ∈ cr_T := cr_T_mem (List.mem_of_getElem? (i := 1284) (by decide +kernel)) (by decide +kernel)
theorem cY_X11_forget : cr_Y yX11_forget cX11_forget 2 0 (some .int) := ⟨mc_X11_forget, mi_X11, by decide +kernel, by decide +kernel, by decide +kernel⟩
theorem mv_X11_forget : Cond.instanceMethod yX11_forget ∈ cr_T ∧ Cond.selects RX11 yX11_forget yX11_forget ∈ cr_T := ⟨cr_T_mem (List.mem_of_getElem? (i := 1282) (by decide +kernel)) (by decide +kernel), cr_T_mem (List.mem_of_getElem? (i := 1283) (by decide +kernel)) (by decide +kernel)⟩
theorem mc_X11_fits : Cond.code yX11_fits cX11_fits 2 (some .int) ∈ cr_T := cr_T_mem (List.mem_of_getElem? (i := 1288) (by decide +kernel)) (by decide +kernel)
theorem cY_X11_fits : cr_Y yX11_fits cX11_fits 2 1 (some .int) := ⟨mc_X11_fits, mi_X11, by decide +kernel, by decide +kernel, by decide +kernel⟩
theorem mv_X11_fits : Cond.instanceMethod yX11_fits ∈ cr_T ∧ Cond.selects RX11 yX11_fits yX11_fits ∈ cr_T := ⟨cr_T_mem (List.mem_of_getElem? (i := 1286) (by decide +kernel)) (by decide +kernel), cr_T_mem (List.mem_of_getElem? (i := 1287) (by decide +kernel)) (by decide +kernel)⟩
theorem mc_X11_fit : Cond.code yX11_fit cX11_fit 7 none ∈ cr_T := cr_T_mem (List.mem_of_getElem? (i := 1292) (by decide +kernel)) (by decide +kernel)
theorem cY_X11_fit : cr_Y yX11_fit cX11_fit 7 1 none := ⟨mc_X11_fit, mi_X11, by decide +kernel, by decide +kernel, by decide +kernel⟩
theorem mv_X11_fit : Cond.instanceMethod yX11_fit ∈ cr_T ∧ Cond.selects RX11 yX11_fit yX11_fit ∈ cr_T := ⟨cr_T_mem (List.mem_of_getElem? (i := 1291) (by decide +kernel)) (by decide +kernel), cr_T_mem (List.mem_of_getElem? (i := 50) (by decide +kernel)) (by decide +kernel)⟩
theorem mc_X11_isSo : Cond.code yX11_isSo cX11_isSo 4 (some .int) ∈ cr_T := cr_T_mem (List.mem_of_getElem? (i := 1295) (by decide +kernel)) (by decide +kernel)
theorem cY_X11_isSo : cr_Y yX11_isSo cX11_isSo 4 4 (some .int) := ⟨mc_X11_isSo, mi_X11, by decide +kernel, by decide +kernel, by decide +kernel⟩
theorem mv_X11_isSo : Cond.static yX11_isSo ∈ cr_T := cr_T_mem (List.mem_of_getElem? (i := 1294) (by decide +kernel)) (by decide +kernel)
theorem mc_X11_foretell : Cond.code yX11_foretell cX11_foretell 2 (some .int) ∈ cr_T := cr_T_mem (List.mem_of_getElem? (i := 1299) (by decide +kernel)) (by decide +kernel)
theorem cY_X11_foretell : cr_Y yX11_foretell cX11_foretell 2 1 (some .int) := ⟨mc_X11_foretell, mi_X11, by decide +kernel, by decide +kernel, by decide +kernel⟩
theorem mv_X11_foretell : Cond.instanceMethod yX11_foretell ∈ cr_T ∧ Cond.selects RX11 yX11_foretell yX11_foretell ∈ cr_T := ⟨cr_T_mem (List.mem_of_getElem? (i := 1297) (by decide +kernel)) (by decide +kernel), cr_T_mem (List.mem_of_getElem? (i := 1298) (by decide +kernel)) (by decide +kernel)⟩
theorem mc_X11_next : Cond.code yX11_next cX11_next 7 (some .int) ∈ cr_T := cr_T_mem (List.mem_of_getElem? (i := 1303) (by decide +kernel)) (by decide +kernel)
theorem cY_X11_next : cr_Y yX11_next cX11_next 7 2 (some .int) := ⟨mc_X11_next, mi_X11, by decide +kernel, by decide +kernel, by decide +kernel⟩
theorem mv_X11_next : Cond.instanceMethod yX11_next ∈ cr_T ∧ Cond.selects RX11 yX11_next yX11_next ∈ cr_T := ⟨cr_T_mem (List.mem_of_getElem? (i := 1301) (by decide +kernel)) (by decide +kernel), cr_T_mem (List.mem_of_getElem? (i := 1302) (by decide +kernel)) (by decide +kernel)⟩
theorem mc_X11_image : Cond.code yX11_image cX11_image 2 (some .int) ∈ cr_T := cr_T_mem (List.mem_of_getElem? (i := 1307) (by decide +kernel)) (by decide +kernel)
theorem cY_X11_image : cr_Y yX11_image cX11_image 2 0 (some .int) := ⟨mc_X11_image, mi_X11, by decide +kernel, by decide +kernel, by decide +kernel⟩
theorem mv_X11_image : Cond.instanceMethod yX11_image ∈ cr_T ∧ Cond.selects RX11 yX11_image yX11_image ∈ cr_T := ⟨cr_T_mem (List.mem_of_getElem? (i := 1305) (by decide +kernel)) (by decide +kernel), cr_T_mem (List.mem_of_getElem? (i := 1306) (by decide +kernel)) (by decide +kernel)⟩
theorem mc_X11_notesRow : Cond.code yX11_notesRow cX11_notesRow 4 (some .int) ∈ cr_T := cr_T_mem (List.mem_of_getElem? (i := 1311) (by decide +kernel)) (by decide +kernel)
theorem cY_X11_notesRow : cr_Y yX11_notesRow cX11_notesRow 4 2 (some .int) := ⟨mc_X11_notesRow, mi_X11, by decide +kernel, by decide +kernel, by decide +kernel⟩
theorem mv_X11_notesRow : Cond.instanceMethod yX11_notesRow ∈ cr_T ∧ Cond.selects RX11 yX11_notesRow yX11_notesRow ∈ cr_T := ⟨cr_T_mem (List.mem_of_getElem? (i := 1310) (by decide +kernel)) (by decide +kernel), cr_T_mem (List.mem_of_getElem? (i := 51) (by decide +kernel)) (by decide +kernel)⟩
theorem mc_X11_restore : Cond.code yX11_restore cX11_restore 2 (some .int) ∈ cr_T := cr_T_mem (List.mem_of_getElem? (i := 1315) (by decide +kernel)) (by decide +kernel)
theorem cY_X11_restore : cr_Y yX11_restore cX11_restore 2 0 (some .int) := ⟨mc_X11_restore, mi_X11, by decide +kernel, by decide +kernel, by decide +kernel⟩
theorem mv_X11_restore : Cond.instanceMethod yX11_restore ∈ cr_T ∧ Cond.selects RX11 yX11_restore yX11_restore ∈ cr_T := ⟨cr_T_mem (List.mem_of_getElem? (i := 1313) (by decide +kernel)) (by decide +kernel), cr_T_mem (List.mem_of_getElem? (i := 1314) (by decide +kernel)) (by decide +kernel)⟩
theorem mc_X11_gives : Cond.code yX11_gives cX11_gives 4 (some .int) ∈ cr_T := cr_T_mem (List.mem_of_getElem? (i := 1319) (by decide +kernel)) (by decide +kernel)
theorem cY_X11_gives : cr_Y yX11_gives cX11_gives 4 2 (some .int) := ⟨mc_X11_gives, mi_X11, by decide +kernel, by decide +kernel, by decide +kernel⟩
theorem mv_X11_gives : Cond.instanceMethod yX11_gives ∈ cr_T ∧ Cond.selects RX11 yX11_gives yX11_gives ∈ cr_T := ⟨cr_T_mem (List.mem_of_getElem? (i := 1318) (by decide +kernel)) (by decide +kernel), cr_T_mem (List.mem_of_getElem? (i := 52) (by decide +kernel)) (by decide +kernel)⟩
theorem mc_X11_judged : Cond.code yX11_judged cX11_judged 11 (some .int) ∈ cr_T := cr_T_mem (List.mem_of_getElem? (i := 1323) (by decide +kernel)) (by decide +kernel)
theorem cY_X11_judged : cr_Y yX11_judged cX11_judged 11 6 (some .int) := ⟨mc_X11_judged, mi_X11, by decide +kernel, by decide +kernel, by decide +kernel⟩
theorem mv_X11_judged : Cond.instanceMethod yX11_judged ∈ cr_T ∧ Cond.selects RX11 yX11_judged yX11_judged ∈ cr_T := ⟨cr_T_mem (List.mem_of_getElem? (i := 1321) (by decide +kernel)) (by decide +kernel), cr_T_mem (List.mem_of_getElem? (i := 1322) (by decide +kernel)) (by decide +kernel)⟩
theorem mc_X11_isSheet : Cond.code yX11_isSheet cX11_isSheet 1 (some .boolean) ∈ cr_T := cr_T_mem (List.mem_of_getElem? (i := 1326) (by decide +kernel)) (by decide +kernel)
theorem cY_X11_isSheet : cr_Y yX11_isSheet cX11_isSheet 1 1 (some .boolean) := ⟨mc_X11_isSheet, mi_X11, by decide +kernel, by decide +kernel, by decide +kernel⟩
theorem mv_X11_isSheet : Cond.static yX11_isSheet ∈ cr_T := cr_T_mem (List.mem_of_getElem? (i := 1325) (by decide +kernel)) (by decide +kernel)
theorem mc_X11_isLane : Cond.code yX11_isLane cX11_isLane 1 (some .boolean) ∈ cr_T := cr_T_mem (List.mem_of_getElem? (i := 1329) (by decide +kernel)) (by decide +kernel)
theorem cY_X11_isLane : cr_Y yX11_isLane cX11_isLane 1 1 (some .boolean) := ⟨mc_X11_isLane, mi_X11, by decide +kernel, by decide +kernel, by decide +kernel⟩
theorem mv_X11_isLane : Cond.static yX11_isLane ∈ cr_T := cr_T_mem (List.mem_of_getElem? (i := 1328) (by decide +kernel)) (by decide +kernel)
theorem mc_X11_why : Cond.code yX11_why cX11_why 5 (some .int) ∈ cr_T := cr_T_mem (List.mem_of_getElem? (i := 1333) (by decide +kernel)) (by decide +kernel)
theorem cY_X11_why : cr_Y yX11_why cX11_why 5 4 (some .int) := ⟨mc_X11_why, mi_X11, by decide +kernel, by decide +kernel, by decide +kernel⟩
theorem mv_X11_why : Cond.instanceMethod yX11_why ∈ cr_T ∧ Cond.selects RX11 yX11_why yX11_why ∈ cr_T := ⟨cr_T_mem (List.mem_of_getElem? (i := 1332) (by decide +kernel)) (by decide +kernel), cr_T_mem (List.mem_of_getElem? (i := 53) (by decide +kernel)) (by decide +kernel)⟩
theorem mc_X11_film : Cond.code yX11_film cX11_film 7 (some .int) ∈ cr_T := cr_T_mem (List.mem_of_getElem? (i := 1337) (by decide +kernel)) (by decide +kernel)
theorem cY_X11_film : cr_Y yX11_film cX11_film 7 4 (some .int) := ⟨mc_X11_film, mi_X11, by decide +kernel, by decide +kernel, by decide +kernel⟩
theorem mv_X11_film : Cond.instanceMethod yX11_film ∈ cr_T ∧ Cond.selects RX11 yX11_film yX11_film ∈ cr_T := ⟨cr_T_mem (List.mem_of_getElem? (i := 1335) (by decide +kernel)) (by decide +kernel), cr_T_mem (List.mem_of_getElem? (i := 1336) (by decide +kernel)) (by decide +kernel)⟩
theorem mc_X11_puts : Cond.code yX11_puts cX11_puts 6 none ∈ cr_T := cr_T_mem (List.mem_of_getElem? (i := 1342) (by decide +kernel)) (by decide +kernel)
theorem cY_X11_puts : cr_Y yX11_puts cX11_puts 6 3 none := ⟨mc_X11_puts, mi_X11, by decide +kernel, by decide +kernel, by decide +kernel⟩
theorem mv_X11_puts : Cond.instanceMethod yX11_puts ∈ cr_T ∧ Cond.selects RX11 yX11_puts yX11_puts ∈ cr_T := ⟨cr_T_mem (List.mem_of_getElem? (i := 1341) (by decide +kernel)) (by decide +kernel), cr_T_mem (List.mem_of_getElem? (i := 54) (by decide +kernel)) (by decide +kernel)⟩
theorem mc_X11_sheet : Cond.code yX11_sheet cX11_sheet 5 (some .int) ∈ cr_T := cr_T_mem (List.mem_of_getElem? (i := 1346) (by decide +kernel)) (by decide +kernel)
theorem cY_X11_sheet : cr_Y yX11_sheet cX11_sheet 5 3 (some .int) := ⟨mc_X11_sheet, mi_X11, by decide +kernel, by decide +kernel, by decide +kernel⟩
theorem mv_X11_sheet : Cond.instanceMethod yX11_sheet ∈ cr_T ∧ Cond.selects RX11 yX11_sheet yX11_sheet ∈ cr_T := ⟨cr_T_mem (List.mem_of_getElem? (i := 1344) (by decide +kernel)) (by decide +kernel), cr_T_mem (List.mem_of_getElem? (i := 1345) (by decide +kernel)) (by decide +kernel)⟩
theorem mc_X11_drop : Cond.code yX11_drop cX11_drop 2 (some .int) ∈ cr_T := cr_T_mem (List.mem_of_getElem? (i := 1350) (by decide +kernel)) (by decide +kernel)
theorem cY_X11_drop : cr_Y yX11_drop cX11_drop 2 1 (some .int) := ⟨mc_X11_drop, mi_X11, by decide +kernel, by decide +kernel, by decide +kernel⟩
theorem mv_X11_drop : Cond.instanceMethod yX11_drop ∈ cr_T ∧ Cond.selects RX11 yX11_drop yX11_drop ∈ cr_T := ⟨cr_T_mem (List.mem_of_getElem? (i := 1348) (by decide +kernel)) (by decide +kernel), cr_T_mem (List.mem_of_getElem? (i := 1349) (by decide +kernel)) (by decide +kernel)⟩
theorem mc_X11_item : Cond.code yX11_item cX11_item 7 (some .int) ∈ cr_T := cr_T_mem (List.mem_of_getElem? (i := 1354) (by decide +kernel)) (by decide +kernel)
theorem cY_X11_item : cr_Y yX11_item cX11_item 7 4 (some .int) := ⟨mc_X11_item, mi_X11, by decide +kernel, by decide +kernel, by decide +kernel⟩
theorem mv_X11_item : Cond.instanceMethod yX11_item ∈ cr_T ∧ Cond.selects RX11 yX11_item yX11_item ∈ cr_T := ⟨cr_T_mem (List.mem_of_getElem? (i := 1352) (by decide +kernel)) (by decide +kernel), cr_T_mem (List.mem_of_getElem? (i := 1353) (by decide +kernel)) (by decide +kernel)⟩
theorem mc_X11_copy : Cond.code yX11_copy cX11_copy 7 (some .int) ∈ cr_T := cr_T_mem (List.mem_of_getElem? (i := 1358) (by decide +kernel)) (by decide +kernel)
theorem cY_X11_copy : cr_Y yX11_copy cX11_copy 7 5 (some .int) := ⟨mc_X11_copy, mi_X11, by decide +kernel, by decide +kernel, by decide +kernel⟩
theorem mv_X11_copy : Cond.instanceMethod yX11_copy ∈ cr_T ∧ Cond.selects RX11 yX11_copy yX11_copy ∈ cr_T := ⟨cr_T_mem (List.mem_of_getElem? (i := 1356) (by decide +kernel)) (by decide +kernel), cr_T_mem (List.mem_of_getElem? (i := 1357) (by decide +kernel)) (by decide +kernel)⟩
