theorem fl_X0_15 : gz_fl RX0 15 0 1 .int false := ⟨_, rfl, by decide, List.mem_of_getElem? (i := 313) (by decide +kernel), rfl, by decide, by decide +kernel, rfl, rfl⟩
theorem fl_X0_20 : gz_fl RX0 20 0 2 .int false := ⟨_, rfl, by decide, List.mem_of_getElem? (i := 315) (by decide +kernel), rfl, by decide, by decide +kernel, rfl, rfl⟩
theorem fl_X0_25 : gz_fl RX0 25 0 3 (.array (.array .int)) true := ⟨_, rfl, by decide, List.mem_of_getElem? (i := 317) (by decide +kernel), rfl, by decide, by decide +kernel, rfl, rfl⟩
theorem fl_X0_28 : gz_fl RX0 28 0 4 (.array (.array .int)) true := ⟨_, rfl, by decide, List.mem_of_getElem? (i := 318) (by decide +kernel), rfl, by decide, by decide +kernel, rfl, rfl⟩
theorem fl_X0_31 : gz_fl RX0 31 0 5 (.array .int) true := ⟨_, rfl, by decide, List.mem_of_getElem? (i := 319) (by decide +kernel), rfl, by decide, by decide +kernel, rfl, rfl⟩
theorem fl_X0_34 : gz_fl RX0 34 0 6 (.array .int) true := ⟨_, rfl, by decide, List.mem_of_getElem? (i := 320) (by decide +kernel), rfl, by decide, by decide +kernel, rfl, rfl⟩
theorem fl_X0_37 : gz_fl RX0 37 0 7 (.array .int) true := ⟨_, rfl, by decide, List.mem_of_getElem? (i := 321) (by decide +kernel), rfl, by decide, by decide +kernel, rfl, rfl⟩
theorem fl_X0_40 : gz_fl RX0 40 0 8 (.array .int) true := ⟨_, rfl, by decide, List.mem_of_getElem? (i := 322) (by decide +kernel), rfl, by decide, by decide +kernel, rfl, rfl⟩
theorem fl_X0_43 : gz_fl RX0 43 0 9 (.array .int) true := ⟨_, rfl, by decide, List.mem_of_getElem? (i := 323) (by decide +kernel), rfl, by decide, by decide +kernel, rfl, rfl⟩
theorem fl_X0_46 : gz_fl RX0 46 0 10 .int false := ⟨_, rfl, by decide, List.mem_of_getElem? (i := 324) (by decide +kernel), rfl, by decide, by decide +kernel, rfl, rfl⟩
theorem fl_X0_49 : gz_fl RX0 49 0 11 .int false := ⟨_, rfl, by decide, List.mem_of_getElem? (i := 325) (by decide +kernel), rfl, by decide, by decide +kernel, rfl, rfl⟩
theorem fl_X0_74 : gz_fl RX0 74 7 4 .int false := ⟨_, rfl, by decide, List.mem_of_getElem? (i := 169) (by decide +kernel), rfl, by decide, by decide +kernel, rfl, rfl⟩
theorem fl_X0_75 : gz_fl RX0 75 7 6 .int false := ⟨_, rfl, by decide, List.mem_of_getElem? (i := 179) (by decide +kernel), rfl, by decide, by decide +kernel, rfl, rfl⟩
theorem fl_X0_9 : gz_fl RX0 9 0 0 (.array .int) true := ⟨_, rfl, by decide, List.mem_of_getElem? (i := 311) (by decide +kernel), rfl, by decide, by decide +kernel, rfl, rfl⟩
theorem fl_X10_13 : gz_fl RX10 13 10 1 (.array .int) true := ⟨_, rfl, by decide, List.mem_of_getElem? (i := 1076) (by decide +kernel), rfl, by decide, by decide +kernel, rfl, rfl⟩
theorem fl_X10_136 : gz_fl RX10 136 10 9 .int false := ⟨_, rfl, by decide, List.mem_of_getElem? (i := 1084) (by decide +kernel), rfl, by decide, by decide +kernel, rfl, rfl⟩
theorem fl_X10_139 : gz_fl RX10 139 10 21 .int false := ⟨_, rfl, by decide, List.mem_of_getElem? (i := 1096) (by decide +kernel), rfl, by decide, by decide +kernel, rfl, rfl⟩
theorem fl_X10_142 : gz_fl RX10 142 10 23 .int false := ⟨_, rfl, by decide, List.mem_of_getElem? (i := 1098) (by decide +kernel), rfl, by decide, by decide +kernel, rfl, rfl⟩
theorem fl_X10_145 : gz_fl RX10 145 10 24 .long false := ⟨_, rfl, by decide, List.mem_of_getElem? (i := 1099) (by decide +kernel), rfl, by decide, by decide +kernel, rfl, rfl⟩
theorem fl_X10_149 : gz_fl RX10 149 10 22 .int false := ⟨_, rfl, by decide, List.mem_of_getElem? (i := 1097) (by decide +kernel), rfl, by decide, by decide +kernel, rfl, rfl⟩
theorem fl_X10_16 : gz_fl RX10 16 10 2 (.array .int) true := ⟨_, rfl, by decide, List.mem_of_getElem? (i := 1077) (by decide +kernel), rfl, by decide, by decide +kernel, rfl, rfl⟩
theorem fl_X10_164 : gz_fl RX10 164 10 25 .int false := ⟨_, rfl, by decide, List.mem_of_getElem? (i := 1100) (by decide +kernel), rfl, by decide, by decide +kernel, rfl, rfl⟩
theorem fl_X10_21 : gz_fl RX10 21 10 3 (.array (.array .long)) true := ⟨_, rfl, by decide, List.mem_of_getElem? (i := 1078) (by decide +kernel), rfl, by decide, by decide +kernel, rfl, rfl⟩
theorem fl_X10_24 : gz_fl RX10 24 10 4 (.array .long) true := ⟨_, rfl, by decide, List.mem_of_getElem? (i := 1079) (by decide +kernel), rfl, by decide, by decide +kernel, rfl, rfl⟩
theorem fl_X10_28 : gz_fl RX10 28 10 5 (.array .int) true := ⟨_, rfl, by decide, List.mem_of_getElem? (i := 1080) (by decide +kernel), rfl, by decide, by decide +kernel, rfl, rfl⟩
theorem fl_X10_288 : gz_fl RX10 288 10 16 .int false := ⟨_, rfl, by decide, List.mem_of_getElem? (i := 1091) (by decide +kernel), rfl, by decide, by decide +kernel, rfl, rfl⟩
theorem fl_X10_291 : gz_fl RX10 291 10 17 .int false := ⟨_, rfl, by decide, List.mem_of_getElem? (i := 1092) (by decide +kernel), rfl, by decide, by decide +kernel, rfl, rfl⟩
theorem fl_X10_294 : gz_fl RX10 294 10 19 .int false := ⟨_, rfl, by decide, List.mem_of_getElem? (i := 1094) (by decide +kernel), rfl, by decide, by decide +kernel, rfl, rfl⟩
theorem fl_X10_302 : gz_fl RX10 302 10 20 (.object "NineLastsModel") false := ⟨_, rfl, by decide, List.mem_of_getElem? (i := 1095) (by decide +kernel), rfl, by decide, by decide +kernel, rfl, rfl⟩
theorem fl_X10_31 : gz_fl RX10 31 10 6 (.array .int) true := ⟨_, rfl, by decide, List.mem_of_getElem? (i := 1081) (by decide +kernel), rfl, by decide, by decide +kernel, rfl, rfl⟩
theorem fl_X10_34 : gz_fl RX10 34 10 7 (.array .int) true := ⟨_, rfl, by decide, List.mem_of_getElem? (i := 1082) (by decide +kernel), rfl, by decide, by decide +kernel, rfl, rfl⟩
theorem fl_X10_37 : gz_fl RX10 37 10 8 (.array .int) true := ⟨_, rfl, by decide, List.mem_of_getElem? (i := 1083) (by decide +kernel), rfl, by decide, by decide +kernel, rfl, rfl⟩
theorem fl_X10_40 : gz_fl RX10 40 10 10 (.array .int) true := ⟨_, rfl, by decide, List.mem_of_getElem? (i := 1085) (by decide +kernel), rfl, by decide, by decide +kernel, rfl, rfl⟩
theorem fl_X10_45 : gz_fl RX10 45 10 12 (.array (.array .int)) true := ⟨_, rfl, by decide, List.mem_of_getElem? (i := 1087) (by decide +kernel), rfl, by decide, by decide +kernel, rfl, rfl⟩
theorem fl_X10_48 : gz_fl RX10 48 10 13 (.array (.array .int)) true := ⟨_, rfl, by decide, List.mem_of_getElem? (i := 1088) (by decide +kernel), rfl, by decide, by decide +kernel, rfl, rfl⟩
theorem fl_X10_51 : gz_fl RX10 51 10 14 (.array (.array .int)) true := ⟨_, rfl, by decide, List.mem_of_getElem? (i := 1089) (by decide +kernel), rfl, by decide, by decide +kernel, rfl, rfl⟩
theorem fl_X10_54 : gz_fl RX10 54 10 15 .int false := ⟨_, rfl, by decide, List.mem_of_getElem? (i := 1090) (by decide +kernel), rfl, by decide, by decide +kernel, rfl, rfl⟩
theorem fl_X10_58 : gz_fl RX10 58 10 18 .int false := ⟨_, rfl, by decide, List.mem_of_getElem? (i := 1093) (by decide +kernel), rfl, by decide, by decide +kernel, rfl, rfl⟩
theorem fl_X10_61 : gz_fl RX10 61 10 27 (.array .int) true := ⟨_, rfl, by decide, List.mem_of_getElem? (i := 1101) (by decide +kernel), rfl, by decide, by decide +kernel, rfl, rfl⟩
theorem fl_X10_64 : gz_fl RX10 64 10 28 (.array .int) true := ⟨_, rfl, by decide, List.mem_of_getElem? (i := 1102) (by decide +kernel), rfl, by decide, by decide +kernel, rfl, rfl⟩
theorem fl_X10_67 : gz_fl RX10 67 10 29 (.array (.array .int)) true := ⟨_, rfl, by decide, List.mem_of_getElem? (i := 1103) (by decide +kernel), rfl, by decide, by decide +kernel, rfl, rfl⟩
theorem fl_X10_7 : gz_fl RX10 7 10 0 (.array .int) true := ⟨_, rfl, by decide, List.mem_of_getElem? (i := 1075) (by decide +kernel), rfl, by decide, by decide +kernel, rfl, rfl⟩
theorem fl_X10_70 : gz_fl RX10 70 10 11 .int false := ⟨_, rfl, by decide, List.mem_of_getElem? (i := 1086) (by decide +kernel), rfl, by decide, by decide +kernel, rfl, rfl⟩
theorem fl_X1_12 : gz_fl RX1 12 1 0 (.object "NineLasts$Valley") true := ⟨_, rfl, by decide, List.mem_of_getElem? (i := 203) (by decide +kernel), rfl, by decide, by decide +kernel, rfl, rfl⟩
theorem fl_X1_18 : gz_fl RX1 18 1 1 .boolean false := ⟨_, rfl, by decide, List.mem_of_getElem? (i := 205) (by decide +kernel), rfl, by decide, by decide +kernel, rfl, rfl⟩
theorem fl_X1_22 : gz_fl RX1 22 1 2 .int false := ⟨_, rfl, by decide, List.mem_of_getElem? (i := 207) (by decide +kernel), rfl, by decide, by decide +kernel, rfl, rfl⟩
theorem fl_X1_26 : gz_fl RX1 26 1 3 .int false := ⟨_, rfl, by decide, List.mem_of_getElem? (i := 209) (by decide +kernel), rfl, by decide, by decide +kernel, rfl, rfl⟩
theorem fl_X1_29 : gz_fl RX1 29 1 4 .int false := ⟨_, rfl, by decide, List.mem_of_getElem? (i := 211) (by decide +kernel), rfl, by decide, by decide +kernel, rfl, rfl⟩
theorem fl_X1_32 : gz_fl RX1 32 1 5 .int false := ⟨_, rfl, by decide, List.mem_of_getElem? (i := 213) (by decide +kernel), rfl, by decide, by decide +kernel, rfl, rfl⟩
theorem fl_X1_35 : gz_fl RX1 35 1 6 .int false := ⟨_, rfl, by decide, List.mem_of_getElem? (i := 215) (by decide +kernel), rfl, by decide, by decide +kernel, rfl, rfl⟩
theorem fl_X1_42 : gz_fl RX1 42 7 5 .int false := ⟨_, rfl, by decide, List.mem_of_getElem? (i := 174) (by decide +kernel), rfl, by decide, by decide +kernel, rfl, rfl⟩
theorem fl_X1_59 : gz_fl RX1 59 3 0 (.array .int) true := ⟨_, rfl, by decide, List.mem_of_getElem? (i := 253) (by decide +kernel), rfl, by decide, by decide +kernel, rfl, rfl⟩
theorem fl_X2_103 : gz_fl RX2 103 7 7 .int false := ⟨_, rfl, by decide, List.mem_of_getElem? (i := 183) (by decide +kernel), rfl, by decide, by decide +kernel, rfl, rfl⟩
theorem fl_X2_106 : gz_fl RX2 106 7 4 .int false := ⟨_, rfl, by decide, List.mem_of_getElem? (i := 170) (by decide +kernel), rfl, by decide, by decide +kernel, rfl, rfl⟩
theorem fl_X2_11 : gz_fl RX2 11 2 1 .int false := ⟨_, rfl, by decide, List.mem_of_getElem? (i := 120) (by decide +kernel), rfl, by decide, by decide +kernel, rfl, rfl⟩
theorem fl_X2_120 : gz_fl RX2 120 7 5 .int false := ⟨_, rfl, by decide, List.mem_of_getElem? (i := 176) (by decide +kernel), rfl, by decide, by decide +kernel, rfl, rfl⟩
theorem fl_X2_15 : gz_fl RX2 15 2 2 .int false := ⟨_, rfl, by decide, List.mem_of_getElem? (i := 121) (by decide +kernel), rfl, by decide, by decide +kernel, rfl, rfl⟩
theorem fl_X2_18 : gz_fl RX2 18 2 3 .int false := ⟨_, rfl, by decide, List.mem_of_getElem? (i := 122) (by decide +kernel), rfl, by decide, by decide +kernel, rfl, rfl⟩
theorem fl_X2_21 : gz_fl RX2 21 2 4 .int false := ⟨_, rfl, by decide, List.mem_of_getElem? (i := 123) (by decide +kernel), rfl, by decide, by decide +kernel, rfl, rfl⟩
theorem fl_X2_24 : gz_fl RX2 24 2 0 (.object "NineLasts$Tape") true := ⟨_, rfl, by decide, List.mem_of_getElem? (i := 119) (by decide +kernel), rfl, by decide, by decide +kernel, rfl, rfl⟩
theorem fl_X2_43 : gz_fl RX2 43 6 1 .int false := ⟨_, rfl, by decide, List.mem_of_getElem? (i := 105) (by decide +kernel), rfl, by decide, by decide +kernel, rfl, rfl⟩
theorem fl_X2_81 : gz_fl RX2 81 7 2 (.array .int) true := ⟨_, rfl, by decide, List.mem_of_getElem? (i := 161) (by decide +kernel), rfl, by decide, by decide +kernel, rfl, rfl⟩
theorem fl_X2_90 : gz_fl RX2 90 7 3 (.array .int) true := ⟨_, rfl, by decide, List.mem_of_getElem? (i := 164) (by decide +kernel), rfl, by decide, by decide +kernel, rfl, rfl⟩
theorem fl_X2_98 : gz_fl RX2 98 7 6 .int false := ⟨_, rfl, by decide, List.mem_of_getElem? (i := 180) (by decide +kernel), rfl, by decide, by decide +kernel, rfl, rfl⟩
theorem fl_X3_15 : gz_fl RX3 15 3 1 (.array .int) true := ⟨_, rfl, by decide, List.mem_of_getElem? (i := 255) (by decide +kernel), rfl, by decide, by decide +kernel, rfl, rfl⟩
theorem fl_X3_18 : gz_fl RX3 18 3 2 (.array .int) true := ⟨_, rfl, by decide, List.mem_of_getElem? (i := 256) (by decide +kernel), rfl, by decide, by decide +kernel, rfl, rfl⟩
theorem fl_X3_21 : gz_fl RX3 21 3 3 (.array .int) true := ⟨_, rfl, by decide, List.mem_of_getElem? (i := 257) (by decide +kernel), rfl, by decide, by decide +kernel, rfl, rfl⟩
theorem fl_X3_24 : gz_fl RX3 24 3 4 .int false := ⟨_, rfl, by decide, List.mem_of_getElem? (i := 258) (by decide +kernel), rfl, by decide, by decide +kernel, rfl, rfl⟩
theorem fl_X3_28 : gz_fl RX3 28 7 5 .int false := ⟨_, rfl, by decide, List.mem_of_getElem? (i := 173) (by decide +kernel), rfl, by decide, by decide +kernel, rfl, rfl⟩
theorem fl_X3_37 : gz_fl RX3 37 7 4 .int false := ⟨_, rfl, by decide, List.mem_of_getElem? (i := 167) (by decide +kernel), rfl, by decide, by decide +kernel, rfl, rfl⟩
theorem fl_X3_9 : gz_fl RX3 9 3 0 (.array .int) true := ⟨_, rfl, by decide, List.mem_of_getElem? (i := 252) (by decide +kernel), rfl, by decide, by decide +kernel, rfl, rfl⟩
theorem fl_X4_15 : gz_fl RX4 15 4 1 .int false := ⟨_, rfl, by decide, List.mem_of_getElem? (i := 358) (by decide +kernel), rfl, by decide, by decide +kernel, rfl, rfl⟩
theorem fl_X4_19 : gz_fl RX4 19 4 2 .int false := ⟨_, rfl, by decide, List.mem_of_getElem? (i := 360) (by decide +kernel), rfl, by decide, by decide +kernel, rfl, rfl⟩
theorem fl_X4_22 : gz_fl RX4 22 4 3 .int false := ⟨_, rfl, by decide, List.mem_of_getElem? (i := 362) (by decide +kernel), rfl, by decide, by decide +kernel, rfl, rfl⟩
theorem fl_X4_25 : gz_fl RX4 25 4 4 .int false := ⟨_, rfl, by decide, List.mem_of_getElem? (i := 363) (by decide +kernel), rfl, by decide, by decide +kernel, rfl, rfl⟩
theorem fl_X4_44 : gz_fl RX4 44 7 5 .int false := ⟨_, rfl, by decide, List.mem_of_getElem? (i := 175) (by decide +kernel), rfl, by decide, by decide +kernel, rfl, rfl⟩
theorem fl_X4_60 : gz_fl RX4 60 7 7 .int false := ⟨_, rfl, by decide, List.mem_of_getElem? (i := 185) (by decide +kernel), rfl, by decide, by decide +kernel, rfl, rfl⟩
theorem fl_X4_9 : gz_fl RX4 9 4 0 (.array .long) true := ⟨_, rfl, by decide, List.mem_of_getElem? (i := 356) (by decide +kernel), rfl, by decide, by decide +kernel, rfl, rfl⟩
theorem fl_X5_15 : gz_fl RX5 15 5 1 .int false := ⟨_, rfl, by decide, List.mem_of_getElem? (i := 280) (by decide +kernel), rfl, by decide, by decide +kernel, rfl, rfl⟩
theorem fl_X5_19 : gz_fl RX5 19 5 2 .int false := ⟨_, rfl, by decide, List.mem_of_getElem? (i := 282) (by decide +kernel), rfl, by decide, by decide +kernel, rfl, rfl⟩
theorem fl_X5_22 : gz_fl RX5 22 5 3 (.array .int) true := ⟨_, rfl, by decide, List.mem_of_getElem? (i := 284) (by decide +kernel), rfl, by decide, by decide +kernel, rfl, rfl⟩
theorem fl_X5_25 : gz_fl RX5 25 5 4 (.array .int) true := ⟨_, rfl, by decide, List.mem_of_getElem? (i := 285) (by decide +kernel), rfl, by decide, by decide +kernel, rfl, rfl⟩
theorem fl_X5_30 : gz_fl RX5 30 5 5 (.array (.array .int)) true := ⟨_, rfl, by decide, List.mem_of_getElem? (i := 286) (by decide +kernel), rfl, by decide, by decide +kernel, rfl, rfl⟩
theorem fl_X5_33 : gz_fl RX5 33 5 6 .int false := ⟨_, rfl, by decide, List.mem_of_getElem? (i := 287) (by decide +kernel), rfl, by decide, by decide +kernel, rfl, rfl⟩
theorem fl_X5_53 : gz_fl RX5 53 7 4 .int false := ⟨_, rfl, by decide, List.mem_of_getElem? (i := 168) (by decide +kernel), rfl, by decide, by decide +kernel, rfl, rfl⟩
theorem fl_X5_60 : gz_fl RX5 60 7 2 (.array .int) true := ⟨_, rfl, by decide, List.mem_of_getElem? (i := 160) (by decide +kernel), rfl, by decide, by decide +kernel, rfl, rfl⟩
theorem fl_X5_9 : gz_fl RX5 9 5 0 (.array .int) true := ⟨_, rfl, by decide, List.mem_of_getElem? (i := 278) (by decide +kernel), rfl, by decide, by decide +kernel, rfl, rfl⟩
theorem fl_X6_15 : gz_fl RX6 15 6 1 .int false := ⟨_, rfl, by decide, List.mem_of_getElem? (i := 104) (by decide +kernel), rfl, by decide, by decide +kernel, rfl, rfl⟩
theorem fl_X6_9 : gz_fl RX6 9 6 0 (.array .int) true := ⟨_, rfl, by decide, List.mem_of_getElem? (i := 103) (by decide +kernel), rfl, by decide, by decide +kernel, rfl, rfl⟩
theorem fl_X7_15 : gz_fl RX7 15 7 1 (.array .int) true := ⟨_, rfl, by decide, List.mem_of_getElem? (i := 158) (by decide +kernel), rfl, by decide, by decide +kernel, rfl, rfl⟩
theorem fl_X7_18 : gz_fl RX7 18 7 2 (.array .int) true := ⟨_, rfl, by decide, List.mem_of_getElem? (i := 159) (by decide +kernel), rfl, by decide, by decide +kernel, rfl, rfl⟩
theorem fl_X7_21 : gz_fl RX7 21 7 3 (.array .int) true := ⟨_, rfl, by decide, List.mem_of_getElem? (i := 163) (by decide +kernel), rfl, by decide, by decide +kernel, rfl, rfl⟩
theorem fl_X7_24 : gz_fl RX7 24 7 4 .int false := ⟨_, rfl, by decide, List.mem_of_getElem? (i := 166) (by decide +kernel), rfl, by decide, by decide +kernel, rfl, rfl⟩
theorem fl_X7_28 : gz_fl RX7 28 7 5 .int false := ⟨_, rfl, by decide, List.mem_of_getElem? (i := 172) (by decide +kernel), rfl, by decide, by decide +kernel, rfl, rfl⟩
theorem fl_X7_31 : gz_fl RX7 31 7 6 .int false := ⟨_, rfl, by decide, List.mem_of_getElem? (i := 178) (by decide +kernel), rfl, by decide, by decide +kernel, rfl, rfl⟩
theorem fl_X7_34 : gz_fl RX7 34 7 7 .int false := ⟨_, rfl, by decide, List.mem_of_getElem? (i := 182) (by decide +kernel), rfl, by decide, by decide +kernel, rfl, rfl⟩
theorem fl_X7_9 : gz_fl RX7 9 7 0 (.array .int) true := ⟨_, rfl, by decide, List.mem_of_getElem? (i := 157) (by decide +kernel), rfl, by decide, by decide +kernel, rfl, rfl⟩
theorem fl_X8_11 : gz_fl RX8 11 8 0 (.array (.object "NineLasts$Valley")) true := ⟨_, rfl, by decide, List.mem_of_getElem? (i := 233) (by decide +kernel), rfl, by decide, by decide +kernel, rfl, rfl⟩
theorem fl_X8_20 : gz_fl RX8 20 8 1 (.object "NineLasts$GoingThrough") true := ⟨_, rfl, by decide, List.mem_of_getElem? (i := 235) (by decide +kernel), rfl, by decide, by decide +kernel, rfl, rfl⟩
theorem fl_X8_24 : gz_fl RX8 24 8 2 .int false := ⟨_, rfl, by decide, List.mem_of_getElem? (i := 237) (by decide +kernel), rfl, by decide, by decide +kernel, rfl, rfl⟩
theorem fl_X9_107 : gz_fl RX9 107 4 0 (.array .long) true := ⟨_, rfl, by decide, List.mem_of_getElem? (i := 357) (by decide +kernel), rfl, by decide, by decide +kernel, rfl, rfl⟩
theorem fl_X9_12 : gz_fl RX9 12 9 0 (.object "NineLasts$Tape") true := ⟨_, rfl, by decide, List.mem_of_getElem? (i := 376) (by decide +kernel), rfl, by decide, by decide +kernel, rfl, rfl⟩
theorem fl_X9_121 : gz_fl RX9 121 4 1 .int false := ⟨_, rfl, by decide, List.mem_of_getElem? (i := 359) (by decide +kernel), rfl, by decide, by decide +kernel, rfl, rfl⟩
theorem fl_X9_147 : gz_fl RX9 147 8 0 (.array (.object "NineLasts$Valley")) true := ⟨_, rfl, by decide, List.mem_of_getElem? (i := 234) (by decide +kernel), rfl, by decide, by decide +kernel, rfl, rfl⟩
theorem fl_X9_162 : gz_fl RX9 162 7 4 .int false := ⟨_, rfl, by decide, List.mem_of_getElem? (i := 171) (by decide +kernel), rfl, by decide, by decide +kernel, rfl, rfl⟩
theorem fl_X9_167 : gz_fl RX9 167 6 1 .int false := ⟨_, rfl, by decide, List.mem_of_getElem? (i := 106) (by decide +kernel), rfl, by decide, by decide +kernel, rfl, rfl⟩
theorem fl_X9_172 : gz_fl RX9 172 8 2 .int false := ⟨_, rfl, by decide, List.mem_of_getElem? (i := 238) (by decide +kernel), rfl, by decide, by decide +kernel, rfl, rfl⟩
theorem fl_X9_178 : gz_fl RX9 178 7 5 .int false := ⟨_, rfl, by decide, List.mem_of_getElem? (i := 177) (by decide +kernel), rfl, by decide, by decide +kernel, rfl, rfl⟩
theorem fl_X9_184 : gz_fl RX9 184 7 6 .int false := ⟨_, rfl, by decide, List.mem_of_getElem? (i := 181) (by decide +kernel), rfl, by decide, by decide +kernel, rfl, rfl⟩
theorem fl_X9_187 : gz_fl RX9 187 7 7 .int false := ⟨_, rfl, by decide, List.mem_of_getElem? (i := 184) (by decide +kernel), rfl, by decide, by decide +kernel, rfl, rfl⟩
theorem fl_X9_190 : gz_fl RX9 190 7 2 (.array .int) true := ⟨_, rfl, by decide, List.mem_of_getElem? (i := 162) (by decide +kernel), rfl, by decide, by decide +kernel, rfl, rfl⟩
theorem fl_X9_193 : gz_fl RX9 193 7 3 (.array .int) true := ⟨_, rfl, by decide, List.mem_of_getElem? (i := 165) (by decide +kernel), rfl, by decide, by decide +kernel, rfl, rfl⟩
theorem fl_X9_21 : gz_fl RX9 21 9 1 (.object "NineLasts$Reader") true := ⟨_, rfl, by decide, List.mem_of_getElem? (i := 377) (by decide +kernel), rfl, by decide, by decide +kernel, rfl, rfl⟩
theorem fl_X9_261 : gz_fl RX9 261 3 0 (.array .int) true := ⟨_, rfl, by decide, List.mem_of_getElem? (i := 254) (by decide +kernel), rfl, by decide, by decide +kernel, rfl, rfl⟩
theorem fl_X9_27 : gz_fl RX9 27 9 2 (.array (.object "NineLasts$Shelf")) true := ⟨_, rfl, by decide, List.mem_of_getElem? (i := 378) (by decide +kernel), rfl, by decide, by decide +kernel, rfl, rfl⟩
theorem fl_X9_280 : gz_fl RX9 280 5 2 .int false := ⟨_, rfl, by decide, List.mem_of_getElem? (i := 283) (by decide +kernel), rfl, by decide, by decide +kernel, rfl, rfl⟩
theorem fl_X9_283 : gz_fl RX9 283 5 1 .int false := ⟨_, rfl, by decide, List.mem_of_getElem? (i := 281) (by decide +kernel), rfl, by decide, by decide +kernel, rfl, rfl⟩
theorem fl_X9_286 : gz_fl RX9 286 5 0 (.array .int) true := ⟨_, rfl, by decide, List.mem_of_getElem? (i := 279) (by decide +kernel), rfl, by decide, by decide +kernel, rfl, rfl⟩
theorem fl_X9_295 : gz_fl RX9 295 0 1 .int false := ⟨_, rfl, by decide, List.mem_of_getElem? (i := 314) (by decide +kernel), rfl, by decide, by decide +kernel, rfl, rfl⟩
theorem fl_X9_298 : gz_fl RX9 298 0 2 .int false := ⟨_, rfl, by decide, List.mem_of_getElem? (i := 316) (by decide +kernel), rfl, by decide, by decide +kernel, rfl, rfl⟩
theorem fl_X9_301 : gz_fl RX9 301 0 0 (.array .int) true := ⟨_, rfl, by decide, List.mem_of_getElem? (i := 312) (by decide +kernel), rfl, by decide, by decide +kernel, rfl, rfl⟩
theorem fl_X9_314 : gz_fl RX9 314 8 1 (.object "NineLasts$GoingThrough") true := ⟨_, rfl, by decide, List.mem_of_getElem? (i := 236) (by decide +kernel), rfl, by decide, by decide +kernel, rfl, rfl⟩
theorem fl_X9_326 : gz_fl RX9 326 1 1 .boolean false := ⟨_, rfl, by decide, List.mem_of_getElem? (i := 206) (by decide +kernel), rfl, by decide, by decide +kernel, rfl, rfl⟩
theorem fl_X9_332 : gz_fl RX9 332 1 0 (.object "NineLasts$Valley") true := ⟨_, rfl, by decide, List.mem_of_getElem? (i := 204) (by decide +kernel), rfl, by decide, by decide +kernel, rfl, rfl⟩
theorem fl_X9_34 : gz_fl RX9 34 9 3 (.object "NineLasts$World") true := ⟨_, rfl, by decide, List.mem_of_getElem? (i := 379) (by decide +kernel), rfl, by decide, by decide +kernel, rfl, rfl⟩
theorem fl_X9_340 : gz_fl RX9 340 1 6 .int false := ⟨_, rfl, by decide, List.mem_of_getElem? (i := 216) (by decide +kernel), rfl, by decide, by decide +kernel, rfl, rfl⟩
theorem fl_X9_343 : gz_fl RX9 343 1 2 .int false := ⟨_, rfl, by decide, List.mem_of_getElem? (i := 208) (by decide +kernel), rfl, by decide, by decide +kernel, rfl, rfl⟩
theorem fl_X9_344 : gz_fl RX9 344 1 3 .int false := ⟨_, rfl, by decide, List.mem_of_getElem? (i := 210) (by decide +kernel), rfl, by decide, by decide +kernel, rfl, rfl⟩
theorem fl_X9_347 : gz_fl RX9 347 1 4 .int false := ⟨_, rfl, by decide, List.mem_of_getElem? (i := 212) (by decide +kernel), rfl, by decide, by decide +kernel, rfl, rfl⟩
theorem fl_X9_350 : gz_fl RX9 350 1 5 .int false := ⟨_, rfl, by decide, List.mem_of_getElem? (i := 214) (by decide +kernel), rfl, by decide, by decide +kernel, rfl, rfl⟩
theorem fl_X9_38 : gz_fl RX9 38 9 4 (.object "NineLasts$World") true := ⟨_, rfl, by decide, List.mem_of_getElem? (i := 380) (by decide +kernel), rfl, by decide, by decide +kernel, rfl, rfl⟩
theorem fl_X9_41 : gz_fl RX9 41 9 5 .boolean false := ⟨_, rfl, by decide, List.mem_of_getElem? (i := 381) (by decide +kernel), rfl, by decide, by decide +kernel, rfl, rfl⟩
theorem fl_X9_45 : gz_fl RX9 45 9 6 (.array .int) true := ⟨_, rfl, by decide, List.mem_of_getElem? (i := 382) (by decide +kernel), rfl, by decide, by decide +kernel, rfl, rfl⟩
theorem fl_X9_52 : gz_fl RX9 52 9 7 (.object "NineLasts$SetTable") true := ⟨_, rfl, by decide, List.mem_of_getElem? (i := 383) (by decide +kernel), rfl, by decide, by decide +kernel, rfl, rfl⟩
theorem fl_X9_59 : gz_fl RX9 59 9 8 (.object "NineLasts$SizeLine") true := ⟨_, rfl, by decide, List.mem_of_getElem? (i := 384) (by decide +kernel), rfl, by decide, by decide +kernel, rfl, rfl⟩
theorem fl_X9_66 : gz_fl RX9 66 9 9 (.object "NineLasts$CornerSeeker") true := ⟨_, rfl, by decide, List.mem_of_getElem? (i := 385) (by decide +kernel), rfl, by decide, by decide +kernel, rfl, rfl⟩
theorem fl_X9_91 : gz_fl RX9 91 4 2 .int false := ⟨_, rfl, by decide, List.mem_of_getElem? (i := 361) (by decide +kernel), rfl, by decide, by decide +kernel, rfl, rfl⟩
theorem fk_0_0 : gz_fk 0 0 = 3 := by decide
theorem fk_0_1 : gz_fk 0 1 < 2 := by decide
theorem fk_0_2 : gz_fk 0 2 < 2 := by decide
theorem fk_0_3 : gz_fk 0 3 = 3 := by decide
theorem fk_0_4 : gz_fk 0 4 = 3 := by decide
theorem fk_0_5 : gz_fk 0 5 = 3 := by decide
theorem fk_0_6 : gz_fk 0 6 = 3 := by decide
theorem fk_0_7 : gz_fk 0 7 = 3 := by decide
theorem fk_0_8 : gz_fk 0 8 = 3 := by decide
theorem fk_0_9 : gz_fk 0 9 = 3 := by decide
theorem fk_0_10 : gz_fk 0 10 < 2 := by decide
theorem fk_0_11 : gz_fk 0 11 < 2 := by decide
theorem fk_1_0 : gz_fk 1 0 = 3 := by decide
theorem fk_1_1 : gz_fk 1 1 < 2 := by decide
theorem fk_1_2 : gz_fk 1 2 < 2 := by decide
theorem fk_1_3 : gz_fk 1 3 < 2 := by decide
theorem fk_1_4 : gz_fk 1 4 < 2 := by decide
theorem fk_1_5 : gz_fk 1 5 < 2 := by decide
theorem fk_1_6 : gz_fk 1 6 < 2 := by decide
theorem fk_2_0 : gz_fk 2 0 = 3 := by decide
theorem fk_2_1 : gz_fk 2 1 < 2 := by decide
theorem fk_2_2 : gz_fk 2 2 < 2 := by decide
theorem fk_2_3 : gz_fk 2 3 < 2 := by decide
theorem fk_2_4 : gz_fk 2 4 < 2 := by decide
theorem fk_3_0 : gz_fk 3 0 = 3 := by decide
theorem fk_3_1 : gz_fk 3 1 = 3 := by decide
theorem fk_3_2 : gz_fk 3 2 = 3 := by decide
theorem fk_3_3 : gz_fk 3 3 = 3 := by decide
theorem fk_3_4 : gz_fk 3 4 < 2 := by decide
theorem fk_4_0 : gz_fk 4 0 = 3 := by decide
theorem fk_4_1 : gz_fk 4 1 < 2 := by decide
theorem fk_4_2 : gz_fk 4 2 < 2 := by decide
theorem fk_4_3 : gz_fk 4 3 < 2 := by decide
theorem fk_4_4 : gz_fk 4 4 < 2 := by decide
theorem fk_5_0 : gz_fk 5 0 = 3 := by decide
theorem fk_5_1 : gz_fk 5 1 < 2 := by decide
theorem fk_5_2 : gz_fk 5 2 < 2 := by decide
theorem fk_5_3 : gz_fk 5 3 = 3 := by decide
theorem fk_5_4 : gz_fk 5 4 = 3 := by decide
theorem fk_5_5 : gz_fk 5 5 = 3 := by decide
theorem fk_5_6 : gz_fk 5 6 < 2 := by decide
theorem fk_6_0 : gz_fk 6 0 = 3 := by decide
theorem fk_6_1 : gz_fk 6 1 < 2 := by decide
theorem fk_7_0 : gz_fk 7 0 = 3 := by decide
theorem fk_7_1 : gz_fk 7 1 = 3 := by decide
theorem fk_7_2 : gz_fk 7 2 = 3 := by decide
theorem fk_7_3 : gz_fk 7 3 = 3 := by decide
theorem fk_7_4 : gz_fk 7 4 < 2 := by decide
theorem fk_7_5 : gz_fk 7 5 < 2 := by decide
theorem fk_7_6 : gz_fk 7 6 < 2 := by decide
theorem fk_7_7 : gz_fk 7 7 < 2 := by decide
theorem fk_8_0 : gz_fk 8 0 = 3 := by decide
theorem fk_8_1 : gz_fk 8 1 = 3 := by decide
theorem fk_8_2 : gz_fk 8 2 < 2 := by decide
theorem fk_9_0 : gz_fk 9 0 = 3 := by decide
theorem fk_9_1 : gz_fk 9 1 = 3 := by decide
theorem fk_9_2 : gz_fk 9 2 = 3 := by decide
theorem fk_9_3 : gz_fk 9 3 = 3 := by decide
theorem fk_9_4 : gz_fk 9 4 = 3 := by decide
theorem fk_9_5 : gz_fk 9 5 < 2 := by decide
theorem fk_9_6 : gz_fk 9 6 = 3 := by decide
theorem fk_9_7 : gz_fk 9 7 = 3 := by decide
theorem fk_9_8 : gz_fk 9 8 = 3 := by decide
theorem fk_9_9 : gz_fk 9 9 = 3 := by decide
theorem fk_10_0 : gz_fk 10 0 = 3 := by decide
theorem fk_10_1 : gz_fk 10 1 = 3 := by decide
theorem fk_10_2 : gz_fk 10 2 = 3 := by decide
theorem fk_10_3 : gz_fk 10 3 = 3 := by decide
theorem fk_10_4 : gz_fk 10 4 = 3 := by decide
theorem fk_10_5 : gz_fk 10 5 = 3 := by decide
theorem fk_10_6 : gz_fk 10 6 = 3 := by decide
theorem fk_10_7 : gz_fk 10 7 = 3 := by decide
theorem fk_10_8 : gz_fk 10 8 = 3 := by decide
theorem fk_10_9 : gz_fk 10 9 < 2 := by decide
theorem fk_10_10 : gz_fk 10 10 = 3 := by decide
theorem fk_10_11 : gz_fk 10 11 < 2 := by decide
theorem fk_10_12 : gz_fk 10 12 = 3 := by decide
theorem fk_10_13 : gz_fk 10 13 = 3 := by decide
theorem fk_10_14 : gz_fk 10 14 = 3 := by decide
theorem fk_10_15 : gz_fk 10 15 < 2 := by decide
theorem fk_10_16 : gz_fk 10 16 < 2 := by decide
theorem fk_10_17 : gz_fk 10 17 < 2 := by decide
theorem fk_10_18 : gz_fk 10 18 < 2 := by decide
theorem fk_10_19 : gz_fk 10 19 < 2 := by decide
theorem fk_10_20 : gz_fk 10 20 = 3 := by decide
theorem fk_10_21 : gz_fk 10 21 < 2 := by decide
theorem fk_10_22 : gz_fk 10 22 < 2 := by decide
theorem fk_10_23 : gz_fk 10 23 < 2 := by decide
theorem fk_10_24 : gz_fk 10 24 = 2 := by decide
theorem fk_10_25 : gz_fk 10 25 < 2 := by decide
theorem fk_10_27 : gz_fk 10 27 = 3 := by decide
theorem fk_10_28 : gz_fk 10 28 = 3 := by decide
theorem fk_10_29 : gz_fk 10 29 = 3 := by decide
theorem q_71 : Cond.initialized RX6 ∈ lw_tbl := List.mem_of_getElem? (i := 71) (by decide +kernel)
theorem q_72 : Cond.initialized RX2 ∈ lw_tbl := List.mem_of_getElem? (i := 72) (by decide +kernel)
theorem q_73 : Cond.initialized RX8 ∈ lw_tbl := List.mem_of_getElem? (i := 73) (by decide +kernel)
theorem q_74 : Cond.initialized RX1 ∈ lw_tbl := List.mem_of_getElem? (i := 74) (by decide +kernel)
theorem q_75 : Cond.initialized RX7 ∈ lw_tbl := List.mem_of_getElem? (i := 75) (by decide +kernel)
theorem q_76 : Cond.initialized RX3 ∈ lw_tbl := List.mem_of_getElem? (i := 76) (by decide +kernel)
theorem q_77 : Cond.initialized RX5 ∈ lw_tbl := List.mem_of_getElem? (i := 77) (by decide +kernel)
theorem q_78 : Cond.initialized RX0 ∈ lw_tbl := List.mem_of_getElem? (i := 78) (by decide +kernel)
theorem q_79 : Cond.initialized RX4 ∈ lw_tbl := List.mem_of_getElem? (i := 79) (by decide +kernel)
theorem q_80 : Cond.initialized RX10 ∈ lw_tbl := List.mem_of_getElem? (i := 80) (by decide +kernel)
theorem q_94 : Cond.methodLink RX9 3 Lib.objectInit ∈ lw_tbl := List.mem_of_getElem? (i := 94) (by decide +kernel)
theorem q_97 : Cond.classLink RX9 9 RX6 ∈ lw_tbl := List.mem_of_getElem? (i := 97) (by decide +kernel)
theorem q_98 : Cond.instantiable RX6 2 ∈ lw_tbl := List.mem_of_getElem? (i := 98) (by decide +kernel)
theorem q_99 : Cond.methodLinkNest RX9 11 yX6_init "NineLasts" ∈ lw_tbl := List.mem_of_getElem? (i := 99) (by decide +kernel)
theorem q_102 : Cond.methodLink RX6 3 Lib.objectInit ∈ lw_tbl := List.mem_of_getElem? (i := 102) (by decide +kernel)
theorem q_112 : Cond.arrayClass .int ∈ lw_tbl := List.mem_of_getElem? (i := 112) (by decide +kernel)
theorem q_113 : Cond.classLink RX9 16 RX2 ∈ lw_tbl := List.mem_of_getElem? (i := 113) (by decide +kernel)
theorem q_114 : Cond.instantiable RX2 5 ∈ lw_tbl := List.mem_of_getElem? (i := 114) (by decide +kernel)
theorem q_115 : Cond.methodLink RX9 18 yX2_init ∈ lw_tbl := List.mem_of_getElem? (i := 115) (by decide +kernel)
theorem q_118 : Cond.methodLink RX2 3 Lib.objectInit ∈ lw_tbl := List.mem_of_getElem? (i := 118) (by decide +kernel)
theorem q_135 : Cond.classLink RX9 25 RX4 ∈ lw_tbl := List.mem_of_getElem? (i := 135) (by decide +kernel)
theorem q_136 : Cond.arrayOver (.object RX4) ∈ lw_tbl := List.mem_of_getElem? (i := 136) (by decide +kernel)
theorem q_137 : Cond.classLink RX9 31 RX8 ∈ lw_tbl := List.mem_of_getElem? (i := 137) (by decide +kernel)
theorem q_138 : Cond.instantiable RX8 3 ∈ lw_tbl := List.mem_of_getElem? (i := 138) (by decide +kernel)
theorem q_139 : Cond.methodLink RX9 33 yX8_init ∈ lw_tbl := List.mem_of_getElem? (i := 139) (by decide +kernel)
theorem q_142 : Cond.methodLink RX8 3 Lib.objectInit ∈ lw_tbl := List.mem_of_getElem? (i := 142) (by decide +kernel)
theorem q_143 : Cond.classLink RX8 9 RX7 ∈ lw_tbl := List.mem_of_getElem? (i := 143) (by decide +kernel)
theorem q_144 : Cond.arrayOver (.object RX7) ∈ lw_tbl := List.mem_of_getElem? (i := 144) (by decide +kernel)
theorem q_145 : Cond.classLink RX8 17 RX1 ∈ lw_tbl := List.mem_of_getElem? (i := 145) (by decide +kernel)
theorem q_146 : Cond.instantiable RX1 7 ∈ lw_tbl := List.mem_of_getElem? (i := 146) (by decide +kernel)
theorem q_147 : Cond.methodLinkNest RX8 19 yX1_init "NineLasts" ∈ lw_tbl := List.mem_of_getElem? (i := 147) (by decide +kernel)
theorem q_150 : Cond.methodLink RX1 3 Lib.objectInit ∈ lw_tbl := List.mem_of_getElem? (i := 150) (by decide +kernel)
theorem q_151 : Cond.classLink RX1 9 RX7 ∈ lw_tbl := List.mem_of_getElem? (i := 151) (by decide +kernel)
theorem q_152 : Cond.instantiable RX7 8 ∈ lw_tbl := List.mem_of_getElem? (i := 152) (by decide +kernel)
theorem q_153 : Cond.methodLinkNest RX1 11 yX7_init "NineLasts" ∈ lw_tbl := List.mem_of_getElem? (i := 153) (by decide +kernel)
theorem q_156 : Cond.methodLink RX7 3 Lib.objectInit ∈ lw_tbl := List.mem_of_getElem? (i := 156) (by decide +kernel)
theorem q_232 : Cond.methodLinkNest RX8 28 yX7_init "NineLasts" ∈ lw_tbl := List.mem_of_getElem? (i := 232) (by decide +kernel)
theorem q_246 : Cond.classLink RX9 49 RX3 ∈ lw_tbl := List.mem_of_getElem? (i := 246) (by decide +kernel)
theorem q_247 : Cond.instantiable RX3 5 ∈ lw_tbl := List.mem_of_getElem? (i := 247) (by decide +kernel)
theorem q_248 : Cond.methodLinkNest RX9 51 yX3_init "NineLasts" ∈ lw_tbl := List.mem_of_getElem? (i := 248) (by decide +kernel)
theorem q_251 : Cond.methodLink RX3 3 Lib.objectInit ∈ lw_tbl := List.mem_of_getElem? (i := 251) (by decide +kernel)
theorem q_270 : Cond.classLink RX9 56 RX5 ∈ lw_tbl := List.mem_of_getElem? (i := 270) (by decide +kernel)
theorem q_271 : Cond.instantiable RX5 7 ∈ lw_tbl := List.mem_of_getElem? (i := 271) (by decide +kernel)
theorem q_272 : Cond.methodLinkNest RX9 58 yX5_init "NineLasts" ∈ lw_tbl := List.mem_of_getElem? (i := 272) (by decide +kernel)
theorem q_275 : Cond.methodLink RX5 3 Lib.objectInit ∈ lw_tbl := List.mem_of_getElem? (i := 275) (by decide +kernel)
theorem q_276 : Cond.classLink RX5 28 "[[I" ∈ lw_tbl := List.mem_of_getElem? (i := 276) (by decide +kernel)
theorem q_277 : Cond.arrayOver (.array .int) ∈ lw_tbl := List.mem_of_getElem? (i := 277) (by decide +kernel)
theorem q_303 : Cond.classLink RX9 63 RX0 ∈ lw_tbl := List.mem_of_getElem? (i := 303) (by decide +kernel)
theorem q_304 : Cond.instantiable RX0 12 ∈ lw_tbl := List.mem_of_getElem? (i := 304) (by decide +kernel)
theorem q_305 : Cond.methodLinkNest RX9 65 yX0_init "NineLasts" ∈ lw_tbl := List.mem_of_getElem? (i := 305) (by decide +kernel)
theorem q_308 : Cond.methodLink RX0 3 Lib.objectInit ∈ lw_tbl := List.mem_of_getElem? (i := 308) (by decide +kernel)
theorem q_309 : Cond.constant RX0 19 (2147483647 : Int32) ∈ lw_tbl := List.mem_of_getElem? (i := 309) (by decide +kernel)
theorem q_310 : Cond.classLink RX0 23 "[[I" ∈ lw_tbl := List.mem_of_getElem? (i := 310) (by decide +kernel)
theorem q_351 : Cond.instantiable RX4 5 ∈ lw_tbl := List.mem_of_getElem? (i := 351) (by decide +kernel)
theorem q_352 : Cond.methodLinkNest RX9 70 yX4_init "NineLasts" ∈ lw_tbl := List.mem_of_getElem? (i := 352) (by decide +kernel)
theorem q_355 : Cond.methodLink RX4 3 Lib.objectInit ∈ lw_tbl := List.mem_of_getElem? (i := 355) (by decide +kernel)
theorem q_375 : Cond.arrayClass .long ∈ lw_tbl := List.mem_of_getElem? (i := 375) (by decide +kernel)
theorem q_411 : Cond.methodLink RX9 71 yX9_isShelf ∈ lw_tbl := List.mem_of_getElem? (i := 411) (by decide +kernel)
theorem q_414 : Cond.methodLink RX9 75 yX9_isWithin ∈ lw_tbl := List.mem_of_getElem? (i := 414) (by decide +kernel)
theorem q_417 : Cond.methodLink RX9 79 yX9_refuse ∈ lw_tbl := List.mem_of_getElem? (i := 417) (by decide +kernel)
theorem q_421 : Cond.methodLink RX9 83 yX4_becomeRow ∈ lw_tbl := List.mem_of_getElem? (i := 421) (by decide +kernel)
theorem q_425 : Cond.methodLink RX4 28 yJ7_fill_d0a16 ∈ lw_tbl := List.mem_of_getElem? (i := 425) (by decide +kernel)
theorem q_432 : Cond.methodLink RX9 87 yX4_rowRefusal ∈ lw_tbl := List.mem_of_getElem? (i := 432) (by decide +kernel)
theorem q_436 : Cond.methodLink RX4 34 yX4_isTool ∈ lw_tbl := List.mem_of_getElem? (i := 436) (by decide +kernel)
theorem q_440 : Cond.methodLink RX4 38 yX4_isFree ∈ lw_tbl := List.mem_of_getElem? (i := 440) (by decide +kernel)
theorem q_444 : Cond.methodLink RX9 95 yX4_put ∈ lw_tbl := List.mem_of_getElem? (i := 444) (by decide +kernel)
theorem q_452 : Cond.methodLink RX9 99 yX9_pairRefusal ∈ lw_tbl := List.mem_of_getElem? (i := 452) (by decide +kernel)
theorem q_455 : Cond.methodLink RX9 128 yX4_isRow ∈ lw_tbl := List.mem_of_getElem? (i := 455) (by decide +kernel)
theorem q_459 : Cond.methodLink RX9 132 yX4_isTool ∈ lw_tbl := List.mem_of_getElem? (i := 459) (by decide +kernel)
theorem q_460 : Cond.methodLink RX9 138 yX4_isFree ∈ lw_tbl := List.mem_of_getElem? (i := 460) (by decide +kernel)
theorem q_461 : Cond.methodLink RX9 103 yX4_hasSpan ∈ lw_tbl := List.mem_of_getElem? (i := 461) (by decide +kernel)
theorem q_465 : Cond.methodLink RX9 111 arraycopyName ∈ lw_tbl := List.mem_of_getElem? (i := 465) (by decide +kernel)
theorem q_472 : Cond.methodLink RX9 117 yX4_elementOrZero ∈ lw_tbl := List.mem_of_getElem? (i := 472) (by decide +kernel)
theorem q_476 : Cond.methodLink RX4 41 yX4_isRow ∈ lw_tbl := List.mem_of_getElem? (i := 476) (by decide +kernel)
theorem q_485 : Cond.methodLink RX9 124 yX4_becomeTool ∈ lw_tbl := List.mem_of_getElem? (i := 485) (by decide +kernel)
theorem q_493 : Cond.methodLink RX9 135 yX4_isOfKind ∈ lw_tbl := List.mem_of_getElem? (i := 493) (by decide +kernel)
theorem q_497 : Cond.methodLink RX9 141 yX4_saysAs ∈ lw_tbl := List.mem_of_getElem? (i := 497) (by decide +kernel)
theorem q_505 : Cond.methodLink RX9 144 yX9_isFoot ∈ lw_tbl := List.mem_of_getElem? (i := 505) (by decide +kernel)
theorem q_509 : Cond.methodLink RX9 159 yX9_isValley ∈ lw_tbl := List.mem_of_getElem? (i := 509) (by decide +kernel)
theorem q_513 : Cond.methodLink RX9 151 yX4_toolRefusal ∈ lw_tbl := List.mem_of_getElem? (i := 513) (by decide +kernel)
theorem q_517 : Cond.methodLink RX9 155 yX4_badnessFor ∈ lw_tbl := List.mem_of_getElem? (i := 517) (by decide +kernel)
theorem q_521 : Cond.methodLink RX4 53 yX4_builtBadness ∈ lw_tbl := List.mem_of_getElem? (i := 521) (by decide +kernel)
theorem q_525 : Cond.methodLink RX4 63 yX7_badness ∈ lw_tbl := List.mem_of_getElem? (i := 525) (by decide +kernel)
theorem q_529 : Cond.methodLink RX7 60 yX7_lastPart ∈ lw_tbl := List.mem_of_getElem? (i := 529) (by decide +kernel)
theorem q_533 : Cond.methodLink RX7 63 yX7_share ∈ lw_tbl := List.mem_of_getElem? (i := 533) (by decide +kernel)
theorem q_537 : Cond.methodLink RX7 56 yX7_footPart ∈ lw_tbl := List.mem_of_getElem? (i := 537) (by decide +kernel)
theorem q_541 : Cond.methodLink RX4 57 yX4_pairBadness ∈ lw_tbl := List.mem_of_getElem? (i := 541) (by decide +kernel)
theorem q_545 : Cond.methodLink RX4 71 yX7_lastPart ∈ lw_tbl := List.mem_of_getElem? (i := 545) (by decide +kernel)
theorem q_546 : Cond.methodLink RX4 74 yX7_footPart ∈ lw_tbl := List.mem_of_getElem? (i := 546) (by decide +kernel)
theorem q_547 : Cond.methodLink RX4 67 yX7_badnessOf ∈ lw_tbl := List.mem_of_getElem? (i := 547) (by decide +kernel)
theorem q_551 : Cond.methodLink RX7 67 yX7_badness ∈ lw_tbl := List.mem_of_getElem? (i := 551) (by decide +kernel)
theorem q_560 : Cond.methodLink RX9 168 yX6_add ∈ lw_tbl := List.mem_of_getElem? (i := 560) (by decide +kernel)
theorem q_572 : Cond.methodLink RX9 175 yX2_readInto ∈ lw_tbl := List.mem_of_getElem? (i := 572) (by decide +kernel)
theorem q_576 : Cond.methodLink RX2 28 yX7_becomeEmpty ∈ lw_tbl := List.mem_of_getElem? (i := 576) (by decide +kernel)
theorem q_580 : Cond.methodLink RX7 37 yJ7_fill_53178 ∈ lw_tbl := List.mem_of_getElem? (i := 580) (by decide +kernel)
theorem q_583 : Cond.methodLink RX2 33 yX2_next ∈ lw_tbl := List.mem_of_getElem? (i := 583) (by decide +kernel)
theorem q_587 : Cond.methodLink RX2 48 yX6_at ∈ lw_tbl := List.mem_of_getElem? (i := 587) (by decide +kernel)
theorem q_591 : Cond.methodLink RX2 52 yX2_kindOf ∈ lw_tbl := List.mem_of_getElem? (i := 591) (by decide +kernel)
theorem q_594 : Cond.methodLink RX2 36 yX2_readStatement ∈ lw_tbl := List.mem_of_getElem? (i := 594) (by decide +kernel)
theorem q_599 : Cond.methodLink RX2 67 yX2_isWord ∈ lw_tbl := List.mem_of_getElem? (i := 599) (by decide +kernel)
theorem q_603 : Cond.methodLink RX2 55 yJ0_length_8abf5 ∈ lw_tbl := List.mem_of_getElem? (i := 603) (by decide +kernel)
theorem q_613 : Cond.methodLink RX2 61 yJ0_charAt_5068e ∈ lw_tbl := List.mem_of_getElem? (i := 613) (by decide +kernel)
theorem q_651 : Cond.methodLink RX2 71 yX2_readFoot ∈ lw_tbl := List.mem_of_getElem? (i := 651) (by decide +kernel)
theorem q_655 : Cond.methodLink RX2 40 yX2_fail ∈ lw_tbl := List.mem_of_getElem? (i := 655) (by decide +kernel)
theorem q_659 : Cond.methodLink RX2 94 yX2_number ∈ lw_tbl := List.mem_of_getElem? (i := 659) (by decide +kernel)
theorem q_663 : Cond.methodLink RX2 109 yX7_addFoot ∈ lw_tbl := List.mem_of_getElem? (i := 663) (by decide +kernel)
theorem q_667 : Cond.methodLink RX7 49 yX7_putFootPart ∈ lw_tbl := List.mem_of_getElem? (i := 667) (by decide +kernel)
theorem q_672 : Cond.methodLink RX2 115 yX7_putFootPart ∈ lw_tbl := List.mem_of_getElem? (i := 672) (by decide +kernel)
theorem q_675 : Cond.methodLink RX2 76 yX2_readLast ∈ lw_tbl := List.mem_of_getElem? (i := 675) (by decide +kernel)
theorem q_679 : Cond.methodLink RX2 123 yX7_addLast ∈ lw_tbl := List.mem_of_getElem? (i := 679) (by decide +kernel)
theorem q_683 : Cond.methodLink RX7 53 yX7_putLastPart ∈ lw_tbl := List.mem_of_getElem? (i := 683) (by decide +kernel)
theorem q_688 : Cond.methodLink RX2 128 yX7_putLastPart ∈ lw_tbl := List.mem_of_getElem? (i := 688) (by decide +kernel)
theorem q_690 : Cond.methodLink RX2 84 yX2_readMeasures ∈ lw_tbl := List.mem_of_getElem? (i := 690) (by decide +kernel)
theorem q_702 : Cond.methodLink RX9 181 yX7_allTimes ∈ lw_tbl := List.mem_of_getElem? (i := 702) (by decide +kernel)
theorem q_710 : Cond.methodLink RX9 196 yX7_footPart ∈ lw_tbl := List.mem_of_getElem? (i := 710) (by decide +kernel)
theorem q_715 : Cond.methodLink RX9 200 yX9_isLast ∈ lw_tbl := List.mem_of_getElem? (i := 715) (by decide +kernel)
theorem q_719 : Cond.methodLink RX9 203 yX7_lastPart ∈ lw_tbl := List.mem_of_getElem? (i := 719) (by decide +kernel)
theorem q_724 : Cond.methodLink RX9 206 yX4_hasFootAt ∈ lw_tbl := List.mem_of_getElem? (i := 724) (by decide +kernel)
theorem q_728 : Cond.constantLong RX4 49 (30 : Int64) ∈ lw_tbl := List.mem_of_getElem? (i := 728) (by decide +kernel)
theorem q_729 : Cond.constantLong RX4 51 (99 : Int64) ∈ lw_tbl := List.mem_of_getElem? (i := 729) (by decide +kernel)
theorem q_730 : Cond.methodLink RX9 209 yX7_addFoot ∈ lw_tbl := List.mem_of_getElem? (i := 730) (by decide +kernel)
theorem q_731 : Cond.methodLink RX9 212 yX7_putFootPart ∈ lw_tbl := List.mem_of_getElem? (i := 731) (by decide +kernel)
theorem q_740 : Cond.methodLink RX9 215 yX7_putLastPart ∈ lw_tbl := List.mem_of_getElem? (i := 740) (by decide +kernel)
theorem q_745 : Cond.methodLink RX9 218 yX7_addLast ∈ lw_tbl := List.mem_of_getElem? (i := 745) (by decide +kernel)
theorem q_746 : Cond.methodLink RX9 221 Lib.Math.min.name ∈ lw_tbl := List.mem_of_getElem? (i := 746) (by decide +kernel)
theorem q_753 : Cond.methodLink RX9 226 yX7_growthIn ∈ lw_tbl := List.mem_of_getElem? (i := 753) (by decide +kernel)
theorem q_757 : Cond.methodLink RX7 75 Lib.Math.min.name ∈ lw_tbl := List.mem_of_getElem? (i := 757) (by decide +kernel)
theorem q_762 : Cond.methodLink RX9 229 yX7_badnessOf ∈ lw_tbl := List.mem_of_getElem? (i := 762) (by decide +kernel)
theorem q_771 : Cond.methodLink RX9 232 yX9_isSet ∈ lw_tbl := List.mem_of_getElem? (i := 771) (by decide +kernel)
theorem q_775 : Cond.methodLink RX9 267 yX7_allLasts ∈ lw_tbl := List.mem_of_getElem? (i := 775) (by decide +kernel)
theorem q_779 : Cond.methodLink RX9 235 yX7_ownLast ∈ lw_tbl := List.mem_of_getElem? (i := 779) (by decide +kernel)
theorem q_783 : Cond.constant RX7 71 (2147483647 : Int32) ∈ lw_tbl := List.mem_of_getElem? (i := 783) (by decide +kernel)
theorem q_784 : Cond.methodLink RX7 72 yX7_badnessOf ∈ lw_tbl := List.mem_of_getElem? (i := 784) (by decide +kernel)
theorem q_789 : Cond.methodLink RX9 238 yX7_prices ∈ lw_tbl := List.mem_of_getElem? (i := 789) (by decide +kernel)
theorem q_793 : Cond.methodLink RX9 241 yX7_ownBadness ∈ lw_tbl := List.mem_of_getElem? (i := 793) (by decide +kernel)
theorem q_797 : Cond.methodLink RX9 245 yX7_costAt ∈ lw_tbl := List.mem_of_getElem? (i := 797) (by decide +kernel)
theorem q_809 : Cond.methodLink RX9 248 yX4_toldLast ∈ lw_tbl := List.mem_of_getElem? (i := 809) (by decide +kernel)
theorem q_817 : Cond.methodLink RX9 251 yX9_isCount ∈ lw_tbl := List.mem_of_getElem? (i := 817) (by decide +kernel)
theorem q_820 : Cond.methodLink RX9 254 yX3_fillFor ∈ lw_tbl := List.mem_of_getElem? (i := 820) (by decide +kernel)
theorem q_824 : Cond.methodLink RX3 33 yX3_startWithPrices ∈ lw_tbl := List.mem_of_getElem? (i := 824) (by decide +kernel)
theorem q_828 : Cond.methodLink RX3 47 yJ7_fill_fda19 ∈ lw_tbl := List.mem_of_getElem? (i := 828) (by decide +kernel)
theorem q_831 : Cond.methodLink RJ7 13 yJ7_rangeCheck_23922 ∈ lw_tbl := List.mem_of_getElem? (i := 831) (by decide +kernel)
theorem q_834 : Cond.methodLink RX3 53 yX7_lastPart ∈ lw_tbl := List.mem_of_getElem? (i := 834) (by decide +kernel)
theorem q_835 : Cond.methodLink RX3 40 yX3_fillLeast ∈ lw_tbl := List.mem_of_getElem? (i := 835) (by decide +kernel)
theorem q_839 : Cond.constant RX3 57 (2147483647 : Int32) ∈ lw_tbl := List.mem_of_getElem? (i := 839) (by decide +kernel)
theorem q_840 : Cond.methodLink RX3 58 yX7_badnessOf ∈ lw_tbl := List.mem_of_getElem? (i := 840) (by decide +kernel)
theorem q_841 : Cond.methodLink RX3 61 Lib.Math.min.name ∈ lw_tbl := List.mem_of_getElem? (i := 841) (by decide +kernel)
theorem q_842 : Cond.methodLink RX3 44 yX3_addFoot ∈ lw_tbl := List.mem_of_getElem? (i := 842) (by decide +kernel)
theorem q_846 : Cond.methodLink RX3 66 yX7_footPart ∈ lw_tbl := List.mem_of_getElem? (i := 846) (by decide +kernel)
theorem q_847 : Cond.methodLink RX3 69 yX7_costAt ∈ lw_tbl := List.mem_of_getElem? (i := 847) (by decide +kernel)
theorem q_848 : Cond.methodLink RX3 72 Lib.Math.max.name ∈ lw_tbl := List.mem_of_getElem? (i := 848) (by decide +kernel)
theorem q_851 : Cond.methodLink RX9 258 yX3_leastTotal ∈ lw_tbl := List.mem_of_getElem? (i := 851) (by decide +kernel)
theorem q_855 : Cond.methodLink RX3 75 yJ6_bitCount_0f7a4 ∈ lw_tbl := List.mem_of_getElem? (i := 855) (by decide +kernel)
theorem q_858 : Cond.constant RJ6 265 (1431655765 : Int32) ∈ lw_tbl := List.mem_of_getElem? (i := 858) (by decide +kernel)
theorem q_859 : Cond.constant RJ6 266 (858993459 : Int32) ∈ lw_tbl := List.mem_of_getElem? (i := 859) (by decide +kernel)
theorem q_860 : Cond.constant RJ6 267 (252645135 : Int32) ∈ lw_tbl := List.mem_of_getElem? (i := 860) (by decide +kernel)
theorem q_873 : Cond.methodLink RX9 264 yX3_changedFrom ∈ lw_tbl := List.mem_of_getElem? (i := 873) (by decide +kernel)
theorem q_877 : Cond.methodLink RX3 85 yX3_bestChange ∈ lw_tbl := List.mem_of_getElem? (i := 877) (by decide +kernel)
theorem q_889 : Cond.methodLink RX9 270 yX3_fairest ∈ lw_tbl := List.mem_of_getElem? (i := 889) (by decide +kernel)
theorem q_893 : Cond.methodLink RX3 81 yX3_isBefore ∈ lw_tbl := List.mem_of_getElem? (i := 893) (by decide +kernel)
theorem q_901 : Cond.methodLink RX9 273 yX3_mostShod ∈ lw_tbl := List.mem_of_getElem? (i := 901) (by decide +kernel)
theorem q_909 : Cond.methodLink RX9 276 yX5_solve ∈ lw_tbl := List.mem_of_getElem? (i := 909) (by decide +kernel)
theorem q_913 : Cond.methodLink RX5 36 yX7_sizesOf ∈ lw_tbl := List.mem_of_getElem? (i := 913) (by decide +kernel)
theorem q_917 : Cond.methodLink RX7 83 yX7_hasFootOf ∈ lw_tbl := List.mem_of_getElem? (i := 917) (by decide +kernel)
theorem q_921 : Cond.methodLink RX5 42 yX5_weigh ∈ lw_tbl := List.mem_of_getElem? (i := 921) (by decide +kernel)
theorem q_925 : Cond.methodLink RX5 56 yX7_footPart ∈ lw_tbl := List.mem_of_getElem? (i := 925) (by decide +kernel)
theorem q_926 : Cond.methodLink RX5 46 yX5_fillLeast ∈ lw_tbl := List.mem_of_getElem? (i := 926) (by decide +kernel)
theorem q_930 : Cond.constant RX5 63 (2147483647 : Int32) ∈ lw_tbl := List.mem_of_getElem? (i := 930) (by decide +kernel)
theorem q_931 : Cond.methodLink RX5 64 yX5_sumBy ∈ lw_tbl := List.mem_of_getElem? (i := 931) (by decide +kernel)
theorem q_935 : Cond.methodLink RX5 68 Lib.Math.min.name ∈ lw_tbl := List.mem_of_getElem? (i := 935) (by decide +kernel)
theorem q_936 : Cond.methodLink RX5 50 yX5_choose ∈ lw_tbl := List.mem_of_getElem? (i := 936) (by decide +kernel)
theorem q_944 : Cond.methodLink RX9 289 yX0_countIn ∈ lw_tbl := List.mem_of_getElem? (i := 944) (by decide +kernel)
theorem q_948 : Cond.methodLink RX0 52 yX7_sizesOf ∈ lw_tbl := List.mem_of_getElem? (i := 948) (by decide +kernel)
theorem q_953 : Cond.methodLink RX9 292 yX0_seekIn ∈ lw_tbl := List.mem_of_getElem? (i := 953) (by decide +kernel)
theorem q_957 : Cond.methodLink RX0 58 yX0_countIn ∈ lw_tbl := List.mem_of_getElem? (i := 957) (by decide +kernel)
theorem q_958 : Cond.methodLink RX0 62 yX0_readFeet ∈ lw_tbl := List.mem_of_getElem? (i := 958) (by decide +kernel)
theorem q_962 : Cond.methodLink RX0 76 yX7_footPart ∈ lw_tbl := List.mem_of_getElem? (i := 962) (by decide +kernel)
theorem q_963 : Cond.methodLink RX0 80 yX7_share ∈ lw_tbl := List.mem_of_getElem? (i := 963) (by decide +kernel)
theorem q_964 : Cond.methodLink RX0 66 yX0_addShares ∈ lw_tbl := List.mem_of_getElem? (i := 964) (by decide +kernel)
theorem q_968 : Cond.methodLink RX0 70 yX0_sumWith ∈ lw_tbl := List.mem_of_getElem? (i := 968) (by decide +kernel)
theorem q_976 : Cond.methodLink RX9 304 yX7_doesForYears ∈ lw_tbl := List.mem_of_getElem? (i := 976) (by decide +kernel)
theorem q_980 : Cond.methodLink RX7 80 yX7_growthIn ∈ lw_tbl := List.mem_of_getElem? (i := 980) (by decide +kernel)
theorem q_985 : Cond.methodLink RX9 307 yX9_lentCosts ∈ lw_tbl := List.mem_of_getElem? (i := 985) (by decide +kernel)
theorem q_992 : Cond.methodLink RX9 311 yX3_doubtIn ∈ lw_tbl := List.mem_of_getElem? (i := 992) (by decide +kernel)
theorem q_996 : Cond.methodLink RX3 88 yX3_leastTotal ∈ lw_tbl := List.mem_of_getElem? (i := 996) (by decide +kernel)
theorem q_997 : Cond.methodLink RX3 91 yX3_leastTotalWithout ∈ lw_tbl := List.mem_of_getElem? (i := 997) (by decide +kernel)
theorem q_1009 : Cond.methodLink RX9 318 yX1_start ∈ lw_tbl := List.mem_of_getElem? (i := 1009) (by decide +kernel)
theorem q_1013 : Cond.methodLink RX1 38 yX7_takeFrom ∈ lw_tbl := List.mem_of_getElem? (i := 1013) (by decide +kernel)
theorem q_1017 : Cond.methodLink RX7 43 arraycopyName ∈ lw_tbl := List.mem_of_getElem? (i := 1017) (by decide +kernel)
theorem q_1018 : Cond.methodLink RX9 323 yX1_sets ∈ lw_tbl := List.mem_of_getElem? (i := 1018) (by decide +kernel)
theorem q_1026 : Cond.methodLink RX9 329 yX1_isDone ∈ lw_tbl := List.mem_of_getElem? (i := 1026) (by decide +kernel)
theorem q_1030 : Cond.methodLink RX1 45 yX1_sets ∈ lw_tbl := List.mem_of_getElem? (i := 1030) (by decide +kernel)
theorem q_1031 : Cond.methodLink RX9 336 yX1_lookAt ∈ lw_tbl := List.mem_of_getElem? (i := 1031) (by decide +kernel)
theorem q_1035 : Cond.methodLink RX1 49 yX1_isDone ∈ lw_tbl := List.mem_of_getElem? (i := 1035) (by decide +kernel)
theorem q_1036 : Cond.methodLink RX1 53 yJ6_bitCount_0f7a4 ∈ lw_tbl := List.mem_of_getElem? (i := 1036) (by decide +kernel)
theorem q_1045 : Cond.methodLink RX9 353 yX8_takeFrom ∈ lw_tbl := List.mem_of_getElem? (i := 1045) (by decide +kernel)
theorem q_1049 : Cond.methodLink RX8 29 yX7_takeFrom ∈ lw_tbl := List.mem_of_getElem? (i := 1049) (by decide +kernel)
theorem q_1050 : Cond.methodLink RX8 33 yX1_takeFrom ∈ lw_tbl := List.mem_of_getElem? (i := 1050) (by decide +kernel)
theorem q_1062 : Cond.methodLink RX9 357 yX9_shelvesInUse ∈ lw_tbl := List.mem_of_getElem? (i := 1062) (by decide +kernel)
theorem q_1067 : Cond.instantiable RX10 30 ∈ lw_tbl := List.mem_of_getElem? (i := 1067) (by decide +kernel)
theorem q_1071 : Cond.methodLink RX10 1 Lib.objectInit ∈ lw_tbl := List.mem_of_getElem? (i := 1071) (by decide +kernel)
theorem q_1072 : Cond.classLink RX10 19 "[[J" ∈ lw_tbl := List.mem_of_getElem? (i := 1072) (by decide +kernel)
theorem q_1073 : Cond.arrayOver (.array .long) ∈ lw_tbl := List.mem_of_getElem? (i := 1073) (by decide +kernel)
theorem q_1074 : Cond.classLink RX10 43 "[[I" ∈ lw_tbl := List.mem_of_getElem? (i := 1074) (by decide +kernel)
theorem q_1169 : Cond.constantLong RX10 91 (7 : Int64) ∈ lw_tbl := List.mem_of_getElem? (i := 1169) (by decide +kernel)
theorem q_1170 : Cond.methodLink RX10 73 yX10_in ∈ lw_tbl := List.mem_of_getElem? (i := 1170) (by decide +kernel)
theorem q_1173 : Cond.constantLong RX10 93 (4 : Int64) ∈ lw_tbl := List.mem_of_getElem? (i := 1173) (by decide +kernel)
theorem q_1174 : Cond.constantLong RX10 95 (40 : Int64) ∈ lw_tbl := List.mem_of_getElem? (i := 1174) (by decide +kernel)
theorem q_1175 : Cond.methodLink RX10 97 yX10_refuse ∈ lw_tbl := List.mem_of_getElem? (i := 1175) (by decide +kernel)
theorem q_1183 : Cond.methodLink RX10 100 yX10_fit ∈ lw_tbl := List.mem_of_getElem? (i := 1183) (by decide +kernel)
theorem q_1202 : Cond.constantLong RX10 104 (5 : Int64) ∈ lw_tbl := List.mem_of_getElem? (i := 1202) (by decide +kernel)
theorem q_1203 : Cond.constantLong RX10 106 (9 : Int64) ∈ lw_tbl := List.mem_of_getElem? (i := 1203) (by decide +kernel)
theorem q_1204 : Cond.constantLong RX10 108 (30 : Int64) ∈ lw_tbl := List.mem_of_getElem? (i := 1204) (by decide +kernel)
theorem q_1213 : Cond.methodLink RX10 125 yX10_isFoot ∈ lw_tbl := List.mem_of_getElem? (i := 1213) (by decide +kernel)
theorem q_1217 : Cond.methodLink RX10 77 yX10_isValley ∈ lw_tbl := List.mem_of_getElem? (i := 1217) (by decide +kernel)
theorem q_1221 : Cond.methodLink RX10 81 yX10_feetOf ∈ lw_tbl := List.mem_of_getElem? (i := 1221) (by decide +kernel)
theorem q_1225 : Cond.methodLink RX10 129 yX10_noTool ∈ lw_tbl := List.mem_of_getElem? (i := 1225) (by decide +kernel)
theorem q_1229 : Cond.methodLink RX10 85 yX10_lastsOf ∈ lw_tbl := List.mem_of_getElem? (i := 1229) (by decide +kernel)
theorem q_1233 : Cond.methodLink RX10 133 yX10_tried ∈ lw_tbl := List.mem_of_getElem? (i := 1233) (by decide +kernel)
theorem q_1237 : Cond.methodLink RX10 110 yX10_lastIs ∈ lw_tbl := List.mem_of_getElem? (i := 1237) (by decide +kernel)
theorem q_1241 : Cond.methodLink RX10 114 yX10_of ∈ lw_tbl := List.mem_of_getElem? (i := 1241) (by decide +kernel)
theorem q_1245 : Cond.methodLink RX10 117 yX10_badBy ∈ lw_tbl := List.mem_of_getElem? (i := 1245) (by decide +kernel)
theorem q_1249 : Cond.methodLink RX10 121 yX10_badOf ∈ lw_tbl := List.mem_of_getElem? (i := 1249) (by decide +kernel)
theorem q_1269 : Cond.methodLink RX10 215 yX10_read ∈ lw_tbl := List.mem_of_getElem? (i := 1269) (by decide +kernel)
theorem q_1273 : Cond.methodLink RX10 181 yX10_look ∈ lw_tbl := List.mem_of_getElem? (i := 1273) (by decide +kernel)
theorem q_1277 : Cond.methodLink RX10 152 yX10_isLetter ∈ lw_tbl := List.mem_of_getElem? (i := 1277) (by decide +kernel)
theorem q_1280 : Cond.methodLink RX10 155 yX10_isDigit ∈ lw_tbl := List.mem_of_getElem? (i := 1280) (by decide +kernel)
theorem q_1283 : Cond.constantLong RX10 158 (10 : Int64) ∈ lw_tbl := List.mem_of_getElem? (i := 1283) (by decide +kernel)
theorem q_1284 : Cond.constantLong RX10 160 (48 : Int64) ∈ lw_tbl := List.mem_of_getElem? (i := 1284) (by decide +kernel)
theorem q_1285 : Cond.constantLong RX10 162 (100000 : Int64) ∈ lw_tbl := List.mem_of_getElem? (i := 1285) (by decide +kernel)
theorem q_1286 : Cond.methodLink RX10 212 yX10_statement ∈ lw_tbl := List.mem_of_getElem? (i := 1286) (by decide +kernel)
theorem q_1291 : Cond.methodLink RX10 189 yX10_isWord ∈ lw_tbl := List.mem_of_getElem? (i := 1291) (by decide +kernel)
theorem q_1295 : Cond.methodLink RX10 167 yJ0_length_8abf5 ∈ lw_tbl := List.mem_of_getElem? (i := 1295) (by decide +kernel)
theorem q_1296 : Cond.methodLink RX10 173 yJ0_charAt_5068e ∈ lw_tbl := List.mem_of_getElem? (i := 1296) (by decide +kernel)
theorem q_1297 : Cond.methodLink RX10 193 yX10_three ∈ lw_tbl := List.mem_of_getElem? (i := 1297) (by decide +kernel)
theorem q_1301 : Cond.methodLink RX10 184 yX10_number ∈ lw_tbl := List.mem_of_getElem? (i := 1301) (by decide +kernel)
theorem q_1305 : Cond.methodLink RX10 177 yX10_wrong ∈ lw_tbl := List.mem_of_getElem? (i := 1305) (by decide +kernel)
theorem q_1321 : Cond.methodLink RX10 218 yX10_times ∈ lw_tbl := List.mem_of_getElem? (i := 1321) (by decide +kernel)
theorem q_1333 : Cond.methodLink RX10 220 yX10_isLast ∈ lw_tbl := List.mem_of_getElem? (i := 1333) (by decide +kernel)
theorem q_1337 : Cond.constantLong RX10 223 (3 : Int64) ∈ lw_tbl := List.mem_of_getElem? (i := 1337) (by decide +kernel)
theorem q_1342 : Cond.constantLong RX10 225 (99 : Int64) ∈ lw_tbl := List.mem_of_getElem? (i := 1342) (by decide +kernel)
theorem q_1359 : Cond.methodLink RX10 227 yX10_grown ∈ lw_tbl := List.mem_of_getElem? (i := 1359) (by decide +kernel)
theorem q_1375 : Cond.methodLink RX10 239 yX10_isSet ∈ lw_tbl := List.mem_of_getElem? (i := 1375) (by decide +kernel)
theorem q_1379 : Cond.methodLink RX10 88 yX10_all ∈ lw_tbl := List.mem_of_getElem? (i := 1379) (by decide +kernel)
theorem q_1383 : Cond.methodLink RX10 230 yX10_ownOf ∈ lw_tbl := List.mem_of_getElem? (i := 1383) (by decide +kernel)
theorem q_1391 : Cond.methodLink RX10 242 yX10_totalOf ∈ lw_tbl := List.mem_of_getElem? (i := 1391) (by decide +kernel)
theorem q_1395 : Cond.methodLink RX10 233 yX10_pricesOf ∈ lw_tbl := List.mem_of_getElem? (i := 1395) (by decide +kernel)
theorem q_1399 : Cond.methodLink RX10 236 yX10_costOf ∈ lw_tbl := List.mem_of_getElem? (i := 1399) (by decide +kernel)
theorem q_1415 : Cond.methodLink RX10 248 yX10_isMany ∈ lw_tbl := List.mem_of_getElem? (i := 1415) (by decide +kernel)
theorem q_1419 : Cond.methodLink RX10 252 yX10_bestOf ∈ lw_tbl := List.mem_of_getElem? (i := 1419) (by decide +kernel)
theorem q_1423 : Cond.methodLink RX10 245 yX10_bits ∈ lw_tbl := List.mem_of_getElem? (i := 1423) (by decide +kernel)
theorem q_1430 : Cond.methodLink RX10 255 yX10_leastOf ∈ lw_tbl := List.mem_of_getElem? (i := 1430) (by decide +kernel)
theorem q_1450 : Cond.methodLink RX10 258 yX10_worstOf ∈ lw_tbl := List.mem_of_getElem? (i := 1450) (by decide +kernel)
theorem q_1458 : Cond.methodLink RX10 261 yX10_outTimes ∈ lw_tbl := List.mem_of_getElem? (i := 1458) (by decide +kernel)
theorem q_1466 : Cond.constantLong RX10 264 (2 : Int64) ∈ lw_tbl := List.mem_of_getElem? (i := 1466) (by decide +kernel)
theorem q_1467 : Cond.constantLong RX10 266 (6 : Int64) ∈ lw_tbl := List.mem_of_getElem? (i := 1467) (by decide +kernel)
theorem q_1468 : Cond.methodLink RX10 268 yX10_measures ∈ lw_tbl := List.mem_of_getElem? (i := 1468) (by decide +kernel)
theorem q_1472 : Cond.methodLink RX10 272 yX10_lineSum ∈ lw_tbl := List.mem_of_getElem? (i := 1472) (by decide +kernel)
theorem q_1476 : Cond.methodLink RX10 275 yX10_isLess ∈ lw_tbl := List.mem_of_getElem? (i := 1476) (by decide +kernel)
theorem q_1496 : Cond.methodLink RX10 282 yX10_lentAll ∈ lw_tbl := List.mem_of_getElem? (i := 1496) (by decide +kernel)
theorem q_1500 : Cond.methodLink RX10 278 yX10_lentOf ∈ lw_tbl := List.mem_of_getElem? (i := 1500) (by decide +kernel)
theorem q_1516 : Cond.methodLink RX10 285 yX10_over ∈ lw_tbl := List.mem_of_getElem? (i := 1516) (by decide +kernel)
theorem q_1523 : Cond.constantLong RX10 297 (999 : Int64) ∈ lw_tbl := List.mem_of_getElem? (i := 1523) (by decide +kernel)
theorem q_1524 : Cond.methodLink RX10 299 yX10_isDone ∈ lw_tbl := List.mem_of_getElem? (i := 1524) (by decide +kernel)
theorem q_1536 : Cond.classLink RX10 8 RX10 ∈ lw_tbl := List.mem_of_getElem? (i := 1536) (by decide +kernel)
theorem q_1537 : Cond.methodLink RX10 306 yX10_init ∈ lw_tbl := List.mem_of_getElem? (i := 1537) (by decide +kernel)
theorem q_1538 : Cond.methodLink RX10 307 yX10_takeFrom ∈ lw_tbl := List.mem_of_getElem? (i := 1538) (by decide +kernel)
theorem q_1550 : Cond.constantLong RX10 311 (12 : Int64) ∈ lw_tbl := List.mem_of_getElem? (i := 1550) (by decide +kernel)
theorem q_1551 : Cond.constantLong RX10 313 (16 : Int64) ∈ lw_tbl := List.mem_of_getElem? (i := 1551) (by decide +kernel)
theorem yl_J6_bitCount_0f7a4 : gz_yl yJ6_bitCount_0f7a4 cJ6_bitCount_0f7a4 1 (some .int) 1 := ⟨List.mem_of_getElem? (i := 857) (by decide +kernel), List.mem_of_getElem? (i := 88) (by decide +kernel), by decide +kernel, by decide +kernel⟩
theorem yv_J6_bitCount_0f7a4 : Cond.static yJ6_bitCount_0f7a4 ∈ lw_tbl := List.mem_of_getElem? (i := 856) (by decide +kernel)
theorem yl_J7_fill_53178 : gz_yl yJ7_fill_53178 cJ7_fill_53178 4 none 2 := ⟨List.mem_of_getElem? (i := 582) (by decide +kernel), List.mem_of_getElem? (i := 81) (by decide +kernel), by decide +kernel, by decide +kernel⟩
theorem yv_J7_fill_53178 : Cond.static yJ7_fill_53178 ∈ lw_tbl := List.mem_of_getElem? (i := 581) (by decide +kernel)
theorem yl_J7_fill_d0a16 : gz_yl yJ7_fill_d0a16 cJ7_fill_d0a16 5 none 2 := ⟨List.mem_of_getElem? (i := 427) (by decide +kernel), List.mem_of_getElem? (i := 81) (by decide +kernel), by decide +kernel, by decide +kernel⟩
theorem yv_J7_fill_d0a16 : Cond.static yJ7_fill_d0a16 ∈ lw_tbl := List.mem_of_getElem? (i := 426) (by decide +kernel)
theorem yl_J7_fill_fda19 : gz_yl yJ7_fill_fda19 cJ7_fill_fda19 5 none 4 := ⟨List.mem_of_getElem? (i := 830) (by decide +kernel), List.mem_of_getElem? (i := 81) (by decide +kernel), by decide +kernel, by decide +kernel⟩
theorem yv_J7_fill_fda19 : Cond.static yJ7_fill_fda19 ∈ lw_tbl := List.mem_of_getElem? (i := 829) (by decide +kernel)
theorem yl_J7_rangeCheck_23922 : gz_yl yJ7_rangeCheck_23922 cJ7_rangeCheck_23922 3 none 3 := ⟨List.mem_of_getElem? (i := 833) (by decide +kernel), List.mem_of_getElem? (i := 81) (by decide +kernel), by decide +kernel, by decide +kernel⟩
theorem yv_J7_rangeCheck_23922 : Cond.static yJ7_rangeCheck_23922 ∈ lw_tbl := List.mem_of_getElem? (i := 832) (by decide +kernel)
theorem yl_X0_addShares : gz_yl yX0_addShares cX0_addShares 7 none 4 := ⟨List.mem_of_getElem? (i := 967) (by decide +kernel), List.mem_of_getElem? (i := 78) (by decide +kernel), by decide +kernel, by decide +kernel⟩
theorem yv_X0_addShares : gz_yv yX0_addShares 0 := ⟨List.mem_of_getElem? (i := 966) (by decide +kernel), List.mem_of_getElem? (i := 26) (by decide +kernel), by decide, _, rfl, rfl⟩
theorem yl_X0_countIn : gz_yl yX0_countIn cX0_countIn 4 (some .int) 1 := ⟨List.mem_of_getElem? (i := 947) (by decide +kernel), List.mem_of_getElem? (i := 78) (by decide +kernel), by decide +kernel, by decide +kernel⟩
theorem yv_X0_countIn : gz_yv yX0_countIn 0 := ⟨List.mem_of_getElem? (i := 945) (by decide +kernel), List.mem_of_getElem? (i := 946) (by decide +kernel), by decide, _, rfl, rfl⟩
theorem yl_X0_readFeet : gz_yl yX0_readFeet cX0_readFeet 5 none 1 := ⟨List.mem_of_getElem? (i := 961) (by decide +kernel), List.mem_of_getElem? (i := 78) (by decide +kernel), by decide +kernel, by decide +kernel⟩
theorem yv_X0_readFeet : gz_yv yX0_readFeet 0 := ⟨List.mem_of_getElem? (i := 960) (by decide +kernel), List.mem_of_getElem? (i := 25) (by decide +kernel), by decide, _, rfl, rfl⟩
theorem yl_X0_seekIn : gz_yl yX0_seekIn cX0_seekIn 7 none 1 := ⟨List.mem_of_getElem? (i := 956) (by decide +kernel), List.mem_of_getElem? (i := 78) (by decide +kernel), by decide +kernel, by decide +kernel⟩
theorem yv_X0_seekIn : gz_yv yX0_seekIn 0 := ⟨List.mem_of_getElem? (i := 954) (by decide +kernel), List.mem_of_getElem? (i := 955) (by decide +kernel), by decide, _, rfl, rfl⟩
theorem yl_X0_sumWith : gz_yl yX0_sumWith cX0_sumWith 6 (some .int) 1 := ⟨List.mem_of_getElem? (i := 971) (by decide +kernel), List.mem_of_getElem? (i := 78) (by decide +kernel), by decide +kernel, by decide +kernel⟩
theorem yv_X0_sumWith : gz_yv yX0_sumWith 0 := ⟨List.mem_of_getElem? (i := 970) (by decide +kernel), List.mem_of_getElem? (i := 27) (by decide +kernel), by decide, _, rfl, rfl⟩
theorem yl_X10_all : gz_yl yX10_all cX10_all 2 (some .int) 1 := ⟨List.mem_of_getElem? (i := 1382) (by decide +kernel), List.mem_of_getElem? (i := 80) (by decide +kernel), by decide +kernel, by decide +kernel⟩
theorem yv_X10_all : gz_yv yX10_all 10 := ⟨List.mem_of_getElem? (i := 1381) (by decide +kernel), List.mem_of_getElem? (i := 52) (by decide +kernel), by decide, _, rfl, rfl⟩
theorem yl_X10_badBy : gz_yl yX10_badBy cX10_badBy 13 (some .int) 8 := ⟨List.mem_of_getElem? (i := 1248) (by decide +kernel), List.mem_of_getElem? (i := 80) (by decide +kernel), by decide +kernel, by decide +kernel⟩
theorem yv_X10_badBy : gz_yv yX10_badBy 10 := ⟨List.mem_of_getElem? (i := 1247) (by decide +kernel), List.mem_of_getElem? (i := 39) (by decide +kernel), by decide, _, rfl, rfl⟩
theorem yl_X10_badOf : gz_yl yX10_badOf cX10_badOf 5 (some .int) 4 := ⟨List.mem_of_getElem? (i := 1252) (by decide +kernel), List.mem_of_getElem? (i := 80) (by decide +kernel), by decide +kernel, by decide +kernel⟩
theorem yv_X10_badOf : gz_yv yX10_badOf 10 := ⟨List.mem_of_getElem? (i := 1251) (by decide +kernel), List.mem_of_getElem? (i := 40) (by decide +kernel), by decide, _, rfl, rfl⟩
theorem yl_X10_bestOf : gz_yl yX10_bestOf cX10_bestOf 8 (some .int) 3 := ⟨List.mem_of_getElem? (i := 1422) (by decide +kernel), List.mem_of_getElem? (i := 80) (by decide +kernel), by decide +kernel, by decide +kernel⟩
theorem yv_X10_bestOf : gz_yv yX10_bestOf 10 := ⟨List.mem_of_getElem? (i := 1421) (by decide +kernel), List.mem_of_getElem? (i := 58) (by decide +kernel), by decide, _, rfl, rfl⟩
theorem yl_X10_bits : gz_yl yX10_bits cX10_bits 3 (some .int) 1 := ⟨List.mem_of_getElem? (i := 1425) (by decide +kernel), List.mem_of_getElem? (i := 80) (by decide +kernel), by decide +kernel, by decide +kernel⟩
theorem yv_X10_bits : Cond.static yX10_bits ∈ lw_tbl := List.mem_of_getElem? (i := 1424) (by decide +kernel)
theorem yl_X10_costOf : gz_yl yX10_costOf cX10_costOf 5 (some .int) 3 := ⟨List.mem_of_getElem? (i := 1402) (by decide +kernel), List.mem_of_getElem? (i := 80) (by decide +kernel), by decide +kernel, by decide +kernel⟩
theorem yv_X10_costOf : gz_yv yX10_costOf 10 := ⟨List.mem_of_getElem? (i := 1401) (by decide +kernel), List.mem_of_getElem? (i := 56) (by decide +kernel), by decide, _, rfl, rfl⟩
theorem yl_X10_feetOf : gz_yl yX10_feetOf cX10_feetOf 2 (some .int) 1 := ⟨List.mem_of_getElem? (i := 1224) (by decide +kernel), List.mem_of_getElem? (i := 80) (by decide +kernel), by decide +kernel, by decide +kernel⟩
theorem yv_X10_feetOf : gz_yv yX10_feetOf 10 := ⟨List.mem_of_getElem? (i := 1223) (by decide +kernel), List.mem_of_getElem? (i := 33) (by decide +kernel), by decide, _, rfl, rfl⟩
theorem yl_X10_fit : gz_yl yX10_fit cX10_fit 3 (some .long) 2 := ⟨List.mem_of_getElem? (i := 1185) (by decide +kernel), List.mem_of_getElem? (i := 80) (by decide +kernel), by decide +kernel, by decide +kernel⟩
theorem yv_X10_fit : Cond.static yX10_fit ∈ lw_tbl := List.mem_of_getElem? (i := 1184) (by decide +kernel)
theorem yl_X10_grown : gz_yl yX10_grown cX10_grown 5 (some .int) 3 := ⟨List.mem_of_getElem? (i := 1362) (by decide +kernel), List.mem_of_getElem? (i := 80) (by decide +kernel), by decide +kernel, by decide +kernel⟩
theorem yv_X10_grown : gz_yv yX10_grown 10 := ⟨List.mem_of_getElem? (i := 1361) (by decide +kernel), List.mem_of_getElem? (i := 50) (by decide +kernel), by decide, _, rfl, rfl⟩
theorem yl_X10_in : gz_yl yX10_in cX10_in 6 (some .boolean) 3 := ⟨List.mem_of_getElem? (i := 1172) (by decide +kernel), List.mem_of_getElem? (i := 80) (by decide +kernel), by decide +kernel, by decide +kernel⟩
theorem yv_X10_in : Cond.static yX10_in ∈ lw_tbl := List.mem_of_getElem? (i := 1171) (by decide +kernel)
theorem yl_X10_isDigit : gz_yl yX10_isDigit cX10_isDigit 1 (some .boolean) 1 := ⟨List.mem_of_getElem? (i := 1282) (by decide +kernel), List.mem_of_getElem? (i := 80) (by decide +kernel), by decide +kernel, by decide +kernel⟩
theorem yv_X10_isDigit : Cond.static yX10_isDigit ∈ lw_tbl := List.mem_of_getElem? (i := 1281) (by decide +kernel)
theorem yl_X10_isDone : gz_yl yX10_isDone cX10_isDone 1 (some .boolean) 0 := ⟨List.mem_of_getElem? (i := 1527) (by decide +kernel), List.mem_of_getElem? (i := 80) (by decide +kernel), by decide +kernel, by decide +kernel⟩
theorem yv_X10_isDone : gz_yv yX10_isDone 10 := ⟨List.mem_of_getElem? (i := 1526) (by decide +kernel), List.mem_of_getElem? (i := 67) (by decide +kernel), by decide, _, rfl, rfl⟩
theorem yl_X10_isFoot : gz_yl yX10_isFoot cX10_isFoot 3 (some .boolean) 2 := ⟨List.mem_of_getElem? (i := 1216) (by decide +kernel), List.mem_of_getElem? (i := 80) (by decide +kernel), by decide +kernel, by decide +kernel⟩
theorem yv_X10_isFoot : gz_yv yX10_isFoot 10 := ⟨List.mem_of_getElem? (i := 1215) (by decide +kernel), List.mem_of_getElem? (i := 31) (by decide +kernel), by decide, _, rfl, rfl⟩
theorem yl_X10_isLast : gz_yl yX10_isLast cX10_isLast 3 (some .boolean) 2 := ⟨List.mem_of_getElem? (i := 1336) (by decide +kernel), List.mem_of_getElem? (i := 80) (by decide +kernel), by decide +kernel, by decide +kernel⟩
theorem yv_X10_isLast : gz_yv yX10_isLast 10 := ⟨List.mem_of_getElem? (i := 1335) (by decide +kernel), List.mem_of_getElem? (i := 49) (by decide +kernel), by decide, _, rfl, rfl⟩
theorem yl_X10_isLess : gz_yl yX10_isLess cX10_isLess 6 (some .boolean) 3 := ⟨List.mem_of_getElem? (i := 1479) (by decide +kernel), List.mem_of_getElem? (i := 80) (by decide +kernel), by decide +kernel, by decide +kernel⟩
theorem yv_X10_isLess : gz_yv yX10_isLess 10 := ⟨List.mem_of_getElem? (i := 1478) (by decide +kernel), List.mem_of_getElem? (i := 64) (by decide +kernel), by decide, _, rfl, rfl⟩
theorem yl_X10_isLetter : gz_yl yX10_isLetter cX10_isLetter 1 (some .boolean) 1 := ⟨List.mem_of_getElem? (i := 1279) (by decide +kernel), List.mem_of_getElem? (i := 80) (by decide +kernel), by decide +kernel, by decide +kernel⟩
theorem yv_X10_isLetter : Cond.static yX10_isLetter ∈ lw_tbl := List.mem_of_getElem? (i := 1278) (by decide +kernel)
theorem yl_X10_isMany : gz_yl yX10_isMany cX10_isMany 4 (some .boolean) 3 := ⟨List.mem_of_getElem? (i := 1418) (by decide +kernel), List.mem_of_getElem? (i := 80) (by decide +kernel), by decide +kernel, by decide +kernel⟩
theorem yv_X10_isMany : gz_yv yX10_isMany 10 := ⟨List.mem_of_getElem? (i := 1417) (by decide +kernel), List.mem_of_getElem? (i := 57) (by decide +kernel), by decide, _, rfl, rfl⟩
theorem yl_X10_isSet : gz_yl yX10_isSet cX10_isSet 3 (some .boolean) 2 := ⟨List.mem_of_getElem? (i := 1378) (by decide +kernel), List.mem_of_getElem? (i := 80) (by decide +kernel), by decide +kernel, by decide +kernel⟩
theorem yv_X10_isSet : gz_yv yX10_isSet 10 := ⟨List.mem_of_getElem? (i := 1377) (by decide +kernel), List.mem_of_getElem? (i := 51) (by decide +kernel), by decide, _, rfl, rfl⟩
theorem yl_X10_isValley : gz_yl yX10_isValley cX10_isValley 2 (some .boolean) 1 := ⟨List.mem_of_getElem? (i := 1220) (by decide +kernel), List.mem_of_getElem? (i := 80) (by decide +kernel), by decide +kernel, by decide +kernel⟩
theorem yv_X10_isValley : gz_yv yX10_isValley 10 := ⟨List.mem_of_getElem? (i := 1219) (by decide +kernel), List.mem_of_getElem? (i := 32) (by decide +kernel), by decide, _, rfl, rfl⟩
theorem yl_X10_isWord : gz_yl yX10_isWord cX10_isWord 3 (some .boolean) 1 := ⟨List.mem_of_getElem? (i := 1294) (by decide +kernel), List.mem_of_getElem? (i := 80) (by decide +kernel), by decide +kernel, by decide +kernel⟩
theorem yv_X10_isWord : gz_yv yX10_isWord 10 := ⟨List.mem_of_getElem? (i := 1293) (by decide +kernel), List.mem_of_getElem? (i := 44) (by decide +kernel), by decide, _, rfl, rfl⟩
theorem yl_X10_lastIs : gz_yl yX10_lastIs cX10_lastIs 4 (some .int) 3 := ⟨List.mem_of_getElem? (i := 1240) (by decide +kernel), List.mem_of_getElem? (i := 80) (by decide +kernel), by decide +kernel, by decide +kernel⟩
theorem yv_X10_lastIs : gz_yv yX10_lastIs 10 := ⟨List.mem_of_getElem? (i := 1239) (by decide +kernel), List.mem_of_getElem? (i := 37) (by decide +kernel), by decide, _, rfl, rfl⟩
theorem yl_X10_lastsOf : gz_yl yX10_lastsOf cX10_lastsOf 2 (some .int) 1 := ⟨List.mem_of_getElem? (i := 1232) (by decide +kernel), List.mem_of_getElem? (i := 80) (by decide +kernel), by decide +kernel, by decide +kernel⟩
theorem yv_X10_lastsOf : gz_yv yX10_lastsOf 10 := ⟨List.mem_of_getElem? (i := 1231) (by decide +kernel), List.mem_of_getElem? (i := 35) (by decide +kernel), by decide, _, rfl, rfl⟩
theorem yl_X10_leastOf : gz_yl yX10_leastOf cX10_leastOf 3 (some .int) 2 := ⟨List.mem_of_getElem? (i := 1433) (by decide +kernel), List.mem_of_getElem? (i := 80) (by decide +kernel), by decide +kernel, by decide +kernel⟩
theorem yv_X10_leastOf : gz_yv yX10_leastOf 10 := ⟨List.mem_of_getElem? (i := 1432) (by decide +kernel), List.mem_of_getElem? (i := 59) (by decide +kernel), by decide, _, rfl, rfl⟩
theorem yl_X10_lentAll : gz_yl yX10_lentAll cX10_lentAll 8 (some .int) 4 := ⟨List.mem_of_getElem? (i := 1499) (by decide +kernel), List.mem_of_getElem? (i := 80) (by decide +kernel), by decide +kernel, by decide +kernel⟩
theorem yv_X10_lentAll : gz_yv yX10_lentAll 10 := ⟨List.mem_of_getElem? (i := 1498) (by decide +kernel), List.mem_of_getElem? (i := 65) (by decide +kernel), by decide, _, rfl, rfl⟩
theorem yl_X10_lentOf : gz_yl yX10_lentOf cX10_lentOf 9 (some .int) 5 := ⟨List.mem_of_getElem? (i := 1503) (by decide +kernel), List.mem_of_getElem? (i := 80) (by decide +kernel), by decide +kernel, by decide +kernel⟩
theorem yv_X10_lentOf : gz_yv yX10_lentOf 10 := ⟨List.mem_of_getElem? (i := 1502) (by decide +kernel), List.mem_of_getElem? (i := 66) (by decide +kernel), by decide, _, rfl, rfl⟩
theorem yl_X10_lineSum : gz_yl yX10_lineSum cX10_lineSum 7 (some .int) 3 := ⟨List.mem_of_getElem? (i := 1475) (by decide +kernel), List.mem_of_getElem? (i := 80) (by decide +kernel), by decide +kernel, by decide +kernel⟩
theorem yv_X10_lineSum : gz_yv yX10_lineSum 10 := ⟨List.mem_of_getElem? (i := 1474) (by decide +kernel), List.mem_of_getElem? (i := 63) (by decide +kernel), by decide, _, rfl, rfl⟩
theorem yl_X10_look : gz_yl yX10_look cX10_look 1 none 0 := ⟨List.mem_of_getElem? (i := 1276) (by decide +kernel), List.mem_of_getElem? (i := 80) (by decide +kernel), by decide +kernel, by decide +kernel⟩
theorem yv_X10_look : gz_yv yX10_look 10 := ⟨List.mem_of_getElem? (i := 1275) (by decide +kernel), List.mem_of_getElem? (i := 42) (by decide +kernel), by decide, _, rfl, rfl⟩
theorem yl_X10_measures : gz_yl yX10_measures cX10_measures 8 (some .int) 3 := ⟨List.mem_of_getElem? (i := 1471) (by decide +kernel), List.mem_of_getElem? (i := 80) (by decide +kernel), by decide +kernel, by decide +kernel⟩
theorem yv_X10_measures : gz_yv yX10_measures 10 := ⟨List.mem_of_getElem? (i := 1470) (by decide +kernel), List.mem_of_getElem? (i := 62) (by decide +kernel), by decide, _, rfl, rfl⟩
theorem yl_X10_noTool : gz_yl yX10_noTool cX10_noTool 3 (some .int) 2 := ⟨List.mem_of_getElem? (i := 1228) (by decide +kernel), List.mem_of_getElem? (i := 80) (by decide +kernel), by decide +kernel, by decide +kernel⟩
theorem yv_X10_noTool : gz_yv yX10_noTool 10 := ⟨List.mem_of_getElem? (i := 1227) (by decide +kernel), List.mem_of_getElem? (i := 34) (by decide +kernel), by decide, _, rfl, rfl⟩
theorem yl_X10_number : gz_yl yX10_number cX10_number 5 (some .boolean) 4 := ⟨List.mem_of_getElem? (i := 1304) (by decide +kernel), List.mem_of_getElem? (i := 80) (by decide +kernel), by decide +kernel, by decide +kernel⟩
theorem yv_X10_number : gz_yv yX10_number 10 := ⟨List.mem_of_getElem? (i := 1303) (by decide +kernel), List.mem_of_getElem? (i := 46) (by decide +kernel), by decide, _, rfl, rfl⟩
theorem yl_X10_of : gz_yl yX10_of cX10_of 4 (some .int) 3 := ⟨List.mem_of_getElem? (i := 1244) (by decide +kernel), List.mem_of_getElem? (i := 80) (by decide +kernel), by decide +kernel, by decide +kernel⟩
theorem yv_X10_of : gz_yv yX10_of 10 := ⟨List.mem_of_getElem? (i := 1243) (by decide +kernel), List.mem_of_getElem? (i := 38) (by decide +kernel), by decide, _, rfl, rfl⟩
theorem yl_X10_outTimes : gz_yl yX10_outTimes cX10_outTimes 5 (some .int) 2 := ⟨List.mem_of_getElem? (i := 1461) (by decide +kernel), List.mem_of_getElem? (i := 80) (by decide +kernel), by decide +kernel, by decide +kernel⟩
theorem yv_X10_outTimes : gz_yv yX10_outTimes 10 := ⟨List.mem_of_getElem? (i := 1460) (by decide +kernel), List.mem_of_getElem? (i := 61) (by decide +kernel), by decide, _, rfl, rfl⟩
theorem yl_X10_over : gz_yl yX10_over cX10_over 3 none 2 := ⟨List.mem_of_getElem? (i := 1518) (by decide +kernel), List.mem_of_getElem? (i := 80) (by decide +kernel), by decide +kernel, by decide +kernel⟩
theorem yv_X10_over : Cond.static yX10_over ∈ lw_tbl := List.mem_of_getElem? (i := 1517) (by decide +kernel)
theorem yl_X10_ownOf : gz_yl yX10_ownOf cX10_ownOf 8 (some .int) 3 := ⟨List.mem_of_getElem? (i := 1386) (by decide +kernel), List.mem_of_getElem? (i := 80) (by decide +kernel), by decide +kernel, by decide +kernel⟩
theorem yv_X10_ownOf : gz_yv yX10_ownOf 10 := ⟨List.mem_of_getElem? (i := 1385) (by decide +kernel), List.mem_of_getElem? (i := 53) (by decide +kernel), by decide, _, rfl, rfl⟩
theorem yl_X10_pricesOf : gz_yl yX10_pricesOf cX10_pricesOf 5 (some .int) 2 := ⟨List.mem_of_getElem? (i := 1398) (by decide +kernel), List.mem_of_getElem? (i := 80) (by decide +kernel), by decide +kernel, by decide +kernel⟩
theorem yv_X10_pricesOf : gz_yv yX10_pricesOf 10 := ⟨List.mem_of_getElem? (i := 1397) (by decide +kernel), List.mem_of_getElem? (i := 55) (by decide +kernel), by decide, _, rfl, rfl⟩
theorem yl_X10_read : gz_yl yX10_read cX10_read 4 (some .boolean) 1 := ⟨List.mem_of_getElem? (i := 1272) (by decide +kernel), List.mem_of_getElem? (i := 80) (by decide +kernel), by decide +kernel, by decide +kernel⟩
theorem yv_X10_read : gz_yv yX10_read 10 := ⟨List.mem_of_getElem? (i := 1271) (by decide +kernel), List.mem_of_getElem? (i := 41) (by decide +kernel), by decide, _, rfl, rfl⟩
theorem yl_X10_refuse : gz_yl yX10_refuse cX10_refuse 2 (some .int) 1 := ⟨List.mem_of_getElem? (i := 1178) (by decide +kernel), List.mem_of_getElem? (i := 80) (by decide +kernel), by decide +kernel, by decide +kernel⟩
theorem yv_X10_refuse : gz_yv yX10_refuse 10 := ⟨List.mem_of_getElem? (i := 1177) (by decide +kernel), List.mem_of_getElem? (i := 30) (by decide +kernel), by decide, _, rfl, rfl⟩
theorem yl_X10_statement : gz_yl yX10_statement cX10_statement 3 (some .boolean) 1 := ⟨List.mem_of_getElem? (i := 1289) (by decide +kernel), List.mem_of_getElem? (i := 80) (by decide +kernel), by decide +kernel, by decide +kernel⟩
theorem yv_X10_statement : gz_yv yX10_statement 10 := ⟨List.mem_of_getElem? (i := 1288) (by decide +kernel), List.mem_of_getElem? (i := 43) (by decide +kernel), by decide, _, rfl, rfl⟩
theorem yl_X10_takeFrom : gz_yl yX10_takeFrom cX10_takeFrom 3 none 1 := ⟨List.mem_of_getElem? (i := 1541) (by decide +kernel), List.mem_of_getElem? (i := 80) (by decide +kernel), by decide +kernel, by decide +kernel⟩
theorem yv_X10_takeFrom : gz_yv yX10_takeFrom 10 := ⟨List.mem_of_getElem? (i := 1540) (by decide +kernel), List.mem_of_getElem? (i := 68) (by decide +kernel), by decide, _, rfl, rfl⟩
theorem yl_X10_three : gz_yl yX10_three cX10_three 4 (some .boolean) 3 := ⟨List.mem_of_getElem? (i := 1300) (by decide +kernel), List.mem_of_getElem? (i := 80) (by decide +kernel), by decide +kernel, by decide +kernel⟩
theorem yv_X10_three : gz_yv yX10_three 10 := ⟨List.mem_of_getElem? (i := 1299) (by decide +kernel), List.mem_of_getElem? (i := 45) (by decide +kernel), by decide, _, rfl, rfl⟩
theorem yl_X10_times : gz_yl yX10_times cX10_times 4 (some .int) 1 := ⟨List.mem_of_getElem? (i := 1324) (by decide +kernel), List.mem_of_getElem? (i := 80) (by decide +kernel), by decide +kernel, by decide +kernel⟩
theorem yv_X10_times : gz_yv yX10_times 10 := ⟨List.mem_of_getElem? (i := 1323) (by decide +kernel), List.mem_of_getElem? (i := 48) (by decide +kernel), by decide, _, rfl, rfl⟩
theorem yl_X10_totalOf : gz_yl yX10_totalOf cX10_totalOf 6 (some .int) 3 := ⟨List.mem_of_getElem? (i := 1394) (by decide +kernel), List.mem_of_getElem? (i := 80) (by decide +kernel), by decide +kernel, by decide +kernel⟩
theorem yv_X10_totalOf : gz_yv yX10_totalOf 10 := ⟨List.mem_of_getElem? (i := 1393) (by decide +kernel), List.mem_of_getElem? (i := 54) (by decide +kernel), by decide, _, rfl, rfl⟩
theorem yl_X10_tried : gz_yl yX10_tried cX10_tried 13 (some .int) 3 := ⟨List.mem_of_getElem? (i := 1236) (by decide +kernel), List.mem_of_getElem? (i := 80) (by decide +kernel), by decide +kernel, by decide +kernel⟩
theorem yv_X10_tried : gz_yv yX10_tried 10 := ⟨List.mem_of_getElem? (i := 1235) (by decide +kernel), List.mem_of_getElem? (i := 36) (by decide +kernel), by decide, _, rfl, rfl⟩
theorem yl_X10_worstOf : gz_yl yX10_worstOf cX10_worstOf 7 (some .int) 2 := ⟨List.mem_of_getElem? (i := 1453) (by decide +kernel), List.mem_of_getElem? (i := 80) (by decide +kernel), by decide +kernel, by decide +kernel⟩
theorem yv_X10_worstOf : gz_yv yX10_worstOf 10 := ⟨List.mem_of_getElem? (i := 1452) (by decide +kernel), List.mem_of_getElem? (i := 60) (by decide +kernel), by decide, _, rfl, rfl⟩
theorem yl_X10_wrong : gz_yl yX10_wrong cX10_wrong 1 (some .boolean) 0 := ⟨List.mem_of_getElem? (i := 1308) (by decide +kernel), List.mem_of_getElem? (i := 80) (by decide +kernel), by decide +kernel, by decide +kernel⟩
theorem yv_X10_wrong : gz_yv yX10_wrong 10 := ⟨List.mem_of_getElem? (i := 1307) (by decide +kernel), List.mem_of_getElem? (i := 47) (by decide +kernel), by decide, _, rfl, rfl⟩
theorem yl_X1_isDone : gz_yl yX1_isDone cX1_isDone 1 (some .boolean) 0 := ⟨List.mem_of_getElem? (i := 1029) (by decide +kernel), List.mem_of_getElem? (i := 74) (by decide +kernel), by decide +kernel, by decide +kernel⟩
theorem yv_X1_isDone : gz_yv yX1_isDone 1 := ⟨List.mem_of_getElem? (i := 1027) (by decide +kernel), List.mem_of_getElem? (i := 1028) (by decide +kernel), by decide, _, rfl, rfl⟩
theorem yl_X1_lookAt : gz_yl yX1_lookAt cX1_lookAt 5 none 2 := ⟨List.mem_of_getElem? (i := 1034) (by decide +kernel), List.mem_of_getElem? (i := 74) (by decide +kernel), by decide +kernel, by decide +kernel⟩
theorem yv_X1_lookAt : gz_yv yX1_lookAt 1 := ⟨List.mem_of_getElem? (i := 1032) (by decide +kernel), List.mem_of_getElem? (i := 1033) (by decide +kernel), by decide, _, rfl, rfl⟩
theorem yl_X1_sets : gz_yl yX1_sets cX1_sets 1 (some .int) 0 := ⟨List.mem_of_getElem? (i := 1021) (by decide +kernel), List.mem_of_getElem? (i := 74) (by decide +kernel), by decide +kernel, by decide +kernel⟩
theorem yv_X1_sets : gz_yv yX1_sets 1 := ⟨List.mem_of_getElem? (i := 1019) (by decide +kernel), List.mem_of_getElem? (i := 1020) (by decide +kernel), by decide, _, rfl, rfl⟩
theorem yl_X1_start : gz_yl yX1_start cX1_start 4 none 3 := ⟨List.mem_of_getElem? (i := 1012) (by decide +kernel), List.mem_of_getElem? (i := 74) (by decide +kernel), by decide +kernel, by decide +kernel⟩
theorem yv_X1_start : gz_yv yX1_start 1 := ⟨List.mem_of_getElem? (i := 1010) (by decide +kernel), List.mem_of_getElem? (i := 1011) (by decide +kernel), by decide, _, rfl, rfl⟩
theorem yl_X1_takeFrom : gz_yl yX1_takeFrom cX1_takeFrom 2 none 1 := ⟨List.mem_of_getElem? (i := 1053) (by decide +kernel), List.mem_of_getElem? (i := 74) (by decide +kernel), by decide +kernel, by decide +kernel⟩
theorem yv_X1_takeFrom : gz_yv yX1_takeFrom 1 := ⟨List.mem_of_getElem? (i := 1051) (by decide +kernel), List.mem_of_getElem? (i := 1052) (by decide +kernel), by decide, _, rfl, rfl⟩
theorem yl_X2_fail : gz_yl yX2_fail cX2_fail 1 none 0 := ⟨List.mem_of_getElem? (i := 658) (by decide +kernel), List.mem_of_getElem? (i := 72) (by decide +kernel), by decide +kernel, by decide +kernel⟩
theorem yv_X2_fail : gz_yv yX2_fail 2 := ⟨List.mem_of_getElem? (i := 657) (by decide +kernel), List.mem_of_getElem? (i := 9) (by decide +kernel), by decide, _, rfl, rfl⟩
theorem yl_X2_isWord : gz_yl yX2_isWord cX2_isWord 3 (some .boolean) 1 := ⟨List.mem_of_getElem? (i := 602) (by decide +kernel), List.mem_of_getElem? (i := 72) (by decide +kernel), by decide +kernel, by decide +kernel⟩
theorem yv_X2_isWord : gz_yv yX2_isWord 2 := ⟨List.mem_of_getElem? (i := 601) (by decide +kernel), List.mem_of_getElem? (i := 7) (by decide +kernel), by decide, _, rfl, rfl⟩
theorem yl_X2_kindOf : gz_yl yX2_kindOf cX2_kindOf 1 (some .int) 1 := ⟨List.mem_of_getElem? (i := 593) (by decide +kernel), List.mem_of_getElem? (i := 72) (by decide +kernel), by decide +kernel, by decide +kernel⟩
theorem yv_X2_kindOf : Cond.static yX2_kindOf ∈ lw_tbl := List.mem_of_getElem? (i := 592) (by decide +kernel)
theorem yl_X2_next : gz_yl yX2_next cX2_next 1 none 0 := ⟨List.mem_of_getElem? (i := 586) (by decide +kernel), List.mem_of_getElem? (i := 72) (by decide +kernel), by decide +kernel, by decide +kernel⟩
theorem yv_X2_next : gz_yv yX2_next 2 := ⟨List.mem_of_getElem? (i := 585) (by decide +kernel), List.mem_of_getElem? (i := 5) (by decide +kernel), by decide, _, rfl, rfl⟩
theorem yl_X2_number : gz_yl yX2_number cX2_number 5 (some .int) 2 := ⟨List.mem_of_getElem? (i := 662) (by decide +kernel), List.mem_of_getElem? (i := 72) (by decide +kernel), by decide +kernel, by decide +kernel⟩
theorem yv_X2_number : gz_yv yX2_number 2 := ⟨List.mem_of_getElem? (i := 661) (by decide +kernel), List.mem_of_getElem? (i := 10) (by decide +kernel), by decide, _, rfl, rfl⟩
theorem yl_X2_readFoot : gz_yl yX2_readFoot cX2_readFoot 6 none 1 := ⟨List.mem_of_getElem? (i := 654) (by decide +kernel), List.mem_of_getElem? (i := 72) (by decide +kernel), by decide +kernel, by decide +kernel⟩
theorem yv_X2_readFoot : gz_yv yX2_readFoot 2 := ⟨List.mem_of_getElem? (i := 653) (by decide +kernel), List.mem_of_getElem? (i := 8) (by decide +kernel), by decide, _, rfl, rfl⟩
theorem yl_X2_readInto : gz_yl yX2_readInto cX2_readInto 3 (some .int) 1 := ⟨List.mem_of_getElem? (i := 575) (by decide +kernel), List.mem_of_getElem? (i := 72) (by decide +kernel), by decide +kernel, by decide +kernel⟩
theorem yv_X2_readInto : gz_yv yX2_readInto 2 := ⟨List.mem_of_getElem? (i := 573) (by decide +kernel), List.mem_of_getElem? (i := 574) (by decide +kernel), by decide, _, rfl, rfl⟩
theorem yl_X2_readLast : gz_yl yX2_readLast cX2_readLast 5 none 1 := ⟨List.mem_of_getElem? (i := 678) (by decide +kernel), List.mem_of_getElem? (i := 72) (by decide +kernel), by decide +kernel, by decide +kernel⟩
theorem yv_X2_readLast : gz_yv yX2_readLast 2 := ⟨List.mem_of_getElem? (i := 677) (by decide +kernel), List.mem_of_getElem? (i := 11) (by decide +kernel), by decide, _, rfl, rfl⟩
theorem yl_X2_readMeasures : gz_yl yX2_readMeasures cX2_readMeasures 4 none 2 := ⟨List.mem_of_getElem? (i := 693) (by decide +kernel), List.mem_of_getElem? (i := 72) (by decide +kernel), by decide +kernel, by decide +kernel⟩
theorem yv_X2_readMeasures : gz_yv yX2_readMeasures 2 := ⟨List.mem_of_getElem? (i := 692) (by decide +kernel), List.mem_of_getElem? (i := 12) (by decide +kernel), by decide, _, rfl, rfl⟩
theorem yl_X2_readStatement : gz_yl yX2_readStatement cX2_readStatement 2 none 1 := ⟨List.mem_of_getElem? (i := 597) (by decide +kernel), List.mem_of_getElem? (i := 72) (by decide +kernel), by decide +kernel, by decide +kernel⟩
theorem yv_X2_readStatement : gz_yv yX2_readStatement 2 := ⟨List.mem_of_getElem? (i := 596) (by decide +kernel), List.mem_of_getElem? (i := 6) (by decide +kernel), by decide, _, rfl, rfl⟩
theorem yl_X3_addFoot : gz_yl yX3_addFoot cX3_addFoot 7 none 2 := ⟨List.mem_of_getElem? (i := 845) (by decide +kernel), List.mem_of_getElem? (i := 76) (by decide +kernel), by decide +kernel, by decide +kernel⟩
theorem yv_X3_addFoot : gz_yv yX3_addFoot 3 := ⟨List.mem_of_getElem? (i := 844) (by decide +kernel), List.mem_of_getElem? (i := 17) (by decide +kernel), by decide, _, rfl, rfl⟩
theorem yl_X3_bestChange : gz_yl yX3_bestChange cX3_bestChange 6 (some .int) 1 := ⟨List.mem_of_getElem? (i := 880) (by decide +kernel), List.mem_of_getElem? (i := 76) (by decide +kernel), by decide +kernel, by decide +kernel⟩
theorem yv_X3_bestChange : gz_yv yX3_bestChange 3 := ⟨List.mem_of_getElem? (i := 879) (by decide +kernel), List.mem_of_getElem? (i := 18) (by decide +kernel), by decide, _, rfl, rfl⟩
theorem yl_X3_changedFrom : gz_yl yX3_changedFrom cX3_changedFrom 5 (some .int) 1 := ⟨List.mem_of_getElem? (i := 876) (by decide +kernel), List.mem_of_getElem? (i := 76) (by decide +kernel), by decide +kernel, by decide +kernel⟩
theorem yv_X3_changedFrom : gz_yv yX3_changedFrom 3 := ⟨List.mem_of_getElem? (i := 874) (by decide +kernel), List.mem_of_getElem? (i := 875) (by decide +kernel), by decide, _, rfl, rfl⟩
theorem yl_X3_doubtIn : gz_yl yX3_doubtIn cX3_doubtIn 8 (some .int) 2 := ⟨List.mem_of_getElem? (i := 995) (by decide +kernel), List.mem_of_getElem? (i := 76) (by decide +kernel), by decide +kernel, by decide +kernel⟩
theorem yv_X3_doubtIn : gz_yv yX3_doubtIn 3 := ⟨List.mem_of_getElem? (i := 993) (by decide +kernel), List.mem_of_getElem? (i := 994) (by decide +kernel), by decide, _, rfl, rfl⟩
theorem yl_X3_fairest : gz_yl yX3_fairest cX3_fairest 4 (some .int) 1 := ⟨List.mem_of_getElem? (i := 892) (by decide +kernel), List.mem_of_getElem? (i := 76) (by decide +kernel), by decide +kernel, by decide +kernel⟩
theorem yv_X3_fairest : gz_yv yX3_fairest 3 := ⟨List.mem_of_getElem? (i := 890) (by decide +kernel), List.mem_of_getElem? (i := 891) (by decide +kernel), by decide, _, rfl, rfl⟩
theorem yl_X3_fillFor : gz_yl yX3_fillFor cX3_fillFor 3 none 1 := ⟨List.mem_of_getElem? (i := 823) (by decide +kernel), List.mem_of_getElem? (i := 76) (by decide +kernel), by decide +kernel, by decide +kernel⟩
theorem yv_X3_fillFor : gz_yv yX3_fillFor 3 := ⟨List.mem_of_getElem? (i := 821) (by decide +kernel), List.mem_of_getElem? (i := 822) (by decide +kernel), by decide, _, rfl, rfl⟩
theorem yl_X3_fillLeast : gz_yl yX3_fillLeast cX3_fillLeast 8 none 2 := ⟨List.mem_of_getElem? (i := 838) (by decide +kernel), List.mem_of_getElem? (i := 76) (by decide +kernel), by decide +kernel, by decide +kernel⟩
theorem yv_X3_fillLeast : gz_yv yX3_fillLeast 3 := ⟨List.mem_of_getElem? (i := 837) (by decide +kernel), List.mem_of_getElem? (i := 16) (by decide +kernel), by decide, _, rfl, rfl⟩
theorem yl_X3_isBefore : gz_yl yX3_isBefore cX3_isBefore 4 (some .boolean) 3 := ⟨List.mem_of_getElem? (i := 896) (by decide +kernel), List.mem_of_getElem? (i := 76) (by decide +kernel), by decide +kernel, by decide +kernel⟩
theorem yv_X3_isBefore : gz_yv yX3_isBefore 3 := ⟨List.mem_of_getElem? (i := 895) (by decide +kernel), List.mem_of_getElem? (i := 19) (by decide +kernel), by decide, _, rfl, rfl⟩
theorem yl_X3_leastTotal : gz_yl yX3_leastTotal cX3_leastTotal 4 (some .int) 1 := ⟨List.mem_of_getElem? (i := 854) (by decide +kernel), List.mem_of_getElem? (i := 76) (by decide +kernel), by decide +kernel, by decide +kernel⟩
theorem yv_X3_leastTotal : gz_yv yX3_leastTotal 3 := ⟨List.mem_of_getElem? (i := 852) (by decide +kernel), List.mem_of_getElem? (i := 853) (by decide +kernel), by decide, _, rfl, rfl⟩
theorem yl_X3_leastTotalWithout : gz_yl yX3_leastTotalWithout cX3_leastTotalWithout 10 (some .int) 3 := ⟨List.mem_of_getElem? (i := 1000) (by decide +kernel), List.mem_of_getElem? (i := 76) (by decide +kernel), by decide +kernel, by decide +kernel⟩
theorem yv_X3_leastTotalWithout : gz_yv yX3_leastTotalWithout 3 := ⟨List.mem_of_getElem? (i := 999) (by decide +kernel), List.mem_of_getElem? (i := 28) (by decide +kernel), by decide, _, rfl, rfl⟩
theorem yl_X3_mostShod : gz_yl yX3_mostShod cX3_mostShod 4 (some .int) 1 := ⟨List.mem_of_getElem? (i := 904) (by decide +kernel), List.mem_of_getElem? (i := 76) (by decide +kernel), by decide +kernel, by decide +kernel⟩
theorem yv_X3_mostShod : gz_yv yX3_mostShod 3 := ⟨List.mem_of_getElem? (i := 902) (by decide +kernel), List.mem_of_getElem? (i := 903) (by decide +kernel), by decide, _, rfl, rfl⟩
theorem yl_X3_startWithPrices : gz_yl yX3_startWithPrices cX3_startWithPrices 6 none 1 := ⟨List.mem_of_getElem? (i := 827) (by decide +kernel), List.mem_of_getElem? (i := 76) (by decide +kernel), by decide +kernel, by decide +kernel⟩
theorem yv_X3_startWithPrices : gz_yv yX3_startWithPrices 3 := ⟨List.mem_of_getElem? (i := 826) (by decide +kernel), List.mem_of_getElem? (i := 15) (by decide +kernel), by decide, _, rfl, rfl⟩
theorem yl_X4_badnessFor : gz_yl yX4_badnessFor cX4_badnessFor 3 (some .int) 2 := ⟨List.mem_of_getElem? (i := 520) (by decide +kernel), List.mem_of_getElem? (i := 79) (by decide +kernel), by decide +kernel, by decide +kernel⟩
theorem yv_X4_badnessFor : gz_yv yX4_badnessFor 4 := ⟨List.mem_of_getElem? (i := 518) (by decide +kernel), List.mem_of_getElem? (i := 519) (by decide +kernel), by decide, _, rfl, rfl⟩
theorem yl_X4_becomeRow : gz_yl yX4_becomeRow cX4_becomeRow 3 none 2 := ⟨List.mem_of_getElem? (i := 424) (by decide +kernel), List.mem_of_getElem? (i := 79) (by decide +kernel), by decide +kernel, by decide +kernel⟩
theorem yv_X4_becomeRow : gz_yv yX4_becomeRow 4 := ⟨List.mem_of_getElem? (i := 422) (by decide +kernel), List.mem_of_getElem? (i := 423) (by decide +kernel), by decide, _, rfl, rfl⟩
theorem yl_X4_becomeTool : gz_yl yX4_becomeTool cX4_becomeTool 4 none 3 := ⟨List.mem_of_getElem? (i := 488) (by decide +kernel), List.mem_of_getElem? (i := 79) (by decide +kernel), by decide +kernel, by decide +kernel⟩
theorem yv_X4_becomeTool : gz_yv yX4_becomeTool 4 := ⟨List.mem_of_getElem? (i := 486) (by decide +kernel), List.mem_of_getElem? (i := 487) (by decide +kernel), by decide, _, rfl, rfl⟩
theorem yl_X4_builtBadness : gz_yl yX4_builtBadness cX4_builtBadness 4 (some .int) 2 := ⟨List.mem_of_getElem? (i := 524) (by decide +kernel), List.mem_of_getElem? (i := 79) (by decide +kernel), by decide +kernel, by decide +kernel⟩
theorem yv_X4_builtBadness : gz_yv yX4_builtBadness 4 := ⟨List.mem_of_getElem? (i := 523) (by decide +kernel), List.mem_of_getElem? (i := 3) (by decide +kernel), by decide, _, rfl, rfl⟩
theorem yl_X4_elementOrZero : gz_yl yX4_elementOrZero cX4_elementOrZero 2 (some .long) 1 := ⟨List.mem_of_getElem? (i := 475) (by decide +kernel), List.mem_of_getElem? (i := 79) (by decide +kernel), by decide +kernel, by decide +kernel⟩
theorem yv_X4_elementOrZero : gz_yv yX4_elementOrZero 4 := ⟨List.mem_of_getElem? (i := 473) (by decide +kernel), List.mem_of_getElem? (i := 474) (by decide +kernel), by decide, _, rfl, rfl⟩
theorem yl_X4_hasFootAt : gz_yl yX4_hasFootAt cX4_hasFootAt 3 (some .boolean) 1 := ⟨List.mem_of_getElem? (i := 727) (by decide +kernel), List.mem_of_getElem? (i := 79) (by decide +kernel), by decide +kernel, by decide +kernel⟩
theorem yv_X4_hasFootAt : gz_yv yX4_hasFootAt 4 := ⟨List.mem_of_getElem? (i := 725) (by decide +kernel), List.mem_of_getElem? (i := 726) (by decide +kernel), by decide, _, rfl, rfl⟩
theorem yl_X4_hasSpan : gz_yl yX4_hasSpan cX4_hasSpan 3 (some .boolean) 2 := ⟨List.mem_of_getElem? (i := 464) (by decide +kernel), List.mem_of_getElem? (i := 79) (by decide +kernel), by decide +kernel, by decide +kernel⟩
theorem yv_X4_hasSpan : gz_yv yX4_hasSpan 4 := ⟨List.mem_of_getElem? (i := 462) (by decide +kernel), List.mem_of_getElem? (i := 463) (by decide +kernel), by decide, _, rfl, rfl⟩
theorem yl_X4_isFree : gz_yl yX4_isFree cX4_isFree 1 (some .boolean) 0 := ⟨List.mem_of_getElem? (i := 443) (by decide +kernel), List.mem_of_getElem? (i := 79) (by decide +kernel), by decide +kernel, by decide +kernel⟩
theorem yv_X4_isFree : gz_yv yX4_isFree 4 := ⟨List.mem_of_getElem? (i := 441) (by decide +kernel), List.mem_of_getElem? (i := 442) (by decide +kernel), by decide, _, rfl, rfl⟩
theorem yl_X4_isOfKind : gz_yl yX4_isOfKind cX4_isOfKind 4 (some .boolean) 1 := ⟨List.mem_of_getElem? (i := 496) (by decide +kernel), List.mem_of_getElem? (i := 79) (by decide +kernel), by decide +kernel, by decide +kernel⟩
theorem yv_X4_isOfKind : gz_yv yX4_isOfKind 4 := ⟨List.mem_of_getElem? (i := 494) (by decide +kernel), List.mem_of_getElem? (i := 495) (by decide +kernel), by decide, _, rfl, rfl⟩
theorem yl_X4_isRow : gz_yl yX4_isRow cX4_isRow 1 (some .boolean) 0 := ⟨List.mem_of_getElem? (i := 458) (by decide +kernel), List.mem_of_getElem? (i := 79) (by decide +kernel), by decide +kernel, by decide +kernel⟩
theorem yv_X4_isRow : gz_yv yX4_isRow 4 := ⟨List.mem_of_getElem? (i := 456) (by decide +kernel), List.mem_of_getElem? (i := 457) (by decide +kernel), by decide, _, rfl, rfl⟩
theorem yl_X4_isTool : gz_yl yX4_isTool cX4_isTool 1 (some .boolean) 0 := ⟨List.mem_of_getElem? (i := 439) (by decide +kernel), List.mem_of_getElem? (i := 79) (by decide +kernel), by decide +kernel, by decide +kernel⟩
theorem yv_X4_isTool : gz_yv yX4_isTool 4 := ⟨List.mem_of_getElem? (i := 437) (by decide +kernel), List.mem_of_getElem? (i := 438) (by decide +kernel), by decide, _, rfl, rfl⟩
theorem yl_X4_pairBadness : gz_yl yX4_pairBadness cX4_pairBadness 5 (some .int) 2 := ⟨List.mem_of_getElem? (i := 544) (by decide +kernel), List.mem_of_getElem? (i := 79) (by decide +kernel), by decide +kernel, by decide +kernel⟩
theorem yv_X4_pairBadness : gz_yv yX4_pairBadness 4 := ⟨List.mem_of_getElem? (i := 543) (by decide +kernel), List.mem_of_getElem? (i := 4) (by decide +kernel), by decide, _, rfl, rfl⟩
theorem yl_X4_put : gz_yl yX4_put cX4_put 4 none 2 := ⟨List.mem_of_getElem? (i := 447) (by decide +kernel), List.mem_of_getElem? (i := 79) (by decide +kernel), by decide +kernel, by decide +kernel⟩
theorem yv_X4_put : gz_yv yX4_put 4 := ⟨List.mem_of_getElem? (i := 445) (by decide +kernel), List.mem_of_getElem? (i := 446) (by decide +kernel), by decide, _, rfl, rfl⟩
theorem yl_X4_rowRefusal : gz_yl yX4_rowRefusal cX4_rowRefusal 1 (some .int) 0 := ⟨List.mem_of_getElem? (i := 435) (by decide +kernel), List.mem_of_getElem? (i := 79) (by decide +kernel), by decide +kernel, by decide +kernel⟩
theorem yv_X4_rowRefusal : gz_yv yX4_rowRefusal 4 := ⟨List.mem_of_getElem? (i := 433) (by decide +kernel), List.mem_of_getElem? (i := 434) (by decide +kernel), by decide, _, rfl, rfl⟩
theorem yl_X4_saysAs : gz_yl yX4_saysAs cX4_saysAs 2 (some .int) 1 := ⟨List.mem_of_getElem? (i := 500) (by decide +kernel), List.mem_of_getElem? (i := 79) (by decide +kernel), by decide +kernel, by decide +kernel⟩
theorem yv_X4_saysAs : gz_yv yX4_saysAs 4 := ⟨List.mem_of_getElem? (i := 498) (by decide +kernel), List.mem_of_getElem? (i := 499) (by decide +kernel), by decide, _, rfl, rfl⟩
theorem yl_X4_toldLast : gz_yl yX4_toldLast cX4_toldLast 3 (some .int) 2 := ⟨List.mem_of_getElem? (i := 812) (by decide +kernel), List.mem_of_getElem? (i := 79) (by decide +kernel), by decide +kernel, by decide +kernel⟩
theorem yv_X4_toldLast : gz_yv yX4_toldLast 4 := ⟨List.mem_of_getElem? (i := 810) (by decide +kernel), List.mem_of_getElem? (i := 811) (by decide +kernel), by decide, _, rfl, rfl⟩
theorem yl_X4_toolRefusal : gz_yl yX4_toolRefusal cX4_toolRefusal 2 (some .int) 1 := ⟨List.mem_of_getElem? (i := 516) (by decide +kernel), List.mem_of_getElem? (i := 79) (by decide +kernel), by decide +kernel, by decide +kernel⟩
theorem yv_X4_toolRefusal : gz_yv yX4_toolRefusal 4 := ⟨List.mem_of_getElem? (i := 514) (by decide +kernel), List.mem_of_getElem? (i := 515) (by decide +kernel), by decide, _, rfl, rfl⟩
theorem yl_X5_choose : gz_yl yX5_choose cX5_choose 4 none 0 := ⟨List.mem_of_getElem? (i := 939) (by decide +kernel), List.mem_of_getElem? (i := 77) (by decide +kernel), by decide +kernel, by decide +kernel⟩
theorem yv_X5_choose : gz_yv yX5_choose 5 := ⟨List.mem_of_getElem? (i := 938) (by decide +kernel), List.mem_of_getElem? (i := 24) (by decide +kernel), by decide, _, rfl, rfl⟩
theorem yl_X5_fillLeast : gz_yl yX5_fillLeast cX5_fillLeast 5 none 1 := ⟨List.mem_of_getElem? (i := 929) (by decide +kernel), List.mem_of_getElem? (i := 77) (by decide +kernel), by decide +kernel, by decide +kernel⟩
theorem yv_X5_fillLeast : gz_yv yX5_fillLeast 5 := ⟨List.mem_of_getElem? (i := 928) (by decide +kernel), List.mem_of_getElem? (i := 22) (by decide +kernel), by decide, _, rfl, rfl⟩
theorem yl_X5_solve : gz_yl yX5_solve cX5_solve 5 none 3 := ⟨List.mem_of_getElem? (i := 912) (by decide +kernel), List.mem_of_getElem? (i := 77) (by decide +kernel), by decide +kernel, by decide +kernel⟩
theorem yv_X5_solve : gz_yv yX5_solve 5 := ⟨List.mem_of_getElem? (i := 910) (by decide +kernel), List.mem_of_getElem? (i := 911) (by decide +kernel), by decide, _, rfl, rfl⟩
theorem yl_X5_sumBy : gz_yl yX5_sumBy cX5_sumBy 7 (some .int) 3 := ⟨List.mem_of_getElem? (i := 934) (by decide +kernel), List.mem_of_getElem? (i := 77) (by decide +kernel), by decide +kernel, by decide +kernel⟩
theorem yv_X5_sumBy : gz_yv yX5_sumBy 5 := ⟨List.mem_of_getElem? (i := 933) (by decide +kernel), List.mem_of_getElem? (i := 23) (by decide +kernel), by decide, _, rfl, rfl⟩
theorem yl_X5_weigh : gz_yl yX5_weigh cX5_weigh 6 none 2 := ⟨List.mem_of_getElem? (i := 924) (by decide +kernel), List.mem_of_getElem? (i := 77) (by decide +kernel), by decide +kernel, by decide +kernel⟩
theorem yv_X5_weigh : gz_yv yX5_weigh 5 := ⟨List.mem_of_getElem? (i := 923) (by decide +kernel), List.mem_of_getElem? (i := 21) (by decide +kernel), by decide, _, rfl, rfl⟩
theorem yl_X6_add : gz_yl yX6_add cX6_add 2 none 1 := ⟨List.mem_of_getElem? (i := 563) (by decide +kernel), List.mem_of_getElem? (i := 71) (by decide +kernel), by decide +kernel, by decide +kernel⟩
theorem yv_X6_add : gz_yv yX6_add 6 := ⟨List.mem_of_getElem? (i := 561) (by decide +kernel), List.mem_of_getElem? (i := 562) (by decide +kernel), by decide, _, rfl, rfl⟩
theorem yl_X6_at : gz_yl yX6_at cX6_at 2 (some .int) 1 := ⟨List.mem_of_getElem? (i := 590) (by decide +kernel), List.mem_of_getElem? (i := 71) (by decide +kernel), by decide +kernel, by decide +kernel⟩
theorem yv_X6_at : gz_yv yX6_at 6 := ⟨List.mem_of_getElem? (i := 588) (by decide +kernel), List.mem_of_getElem? (i := 589) (by decide +kernel), by decide, _, rfl, rfl⟩
theorem yl_X7_addFoot : gz_yl yX7_addFoot cX7_addFoot 5 none 3 := ⟨List.mem_of_getElem? (i := 666) (by decide +kernel), List.mem_of_getElem? (i := 75) (by decide +kernel), by decide +kernel, by decide +kernel⟩
theorem yv_X7_addFoot : gz_yv yX7_addFoot 7 := ⟨List.mem_of_getElem? (i := 664) (by decide +kernel), List.mem_of_getElem? (i := 665) (by decide +kernel), by decide, _, rfl, rfl⟩
theorem yl_X7_addLast : gz_yl yX7_addLast cX7_addLast 5 none 3 := ⟨List.mem_of_getElem? (i := 682) (by decide +kernel), List.mem_of_getElem? (i := 75) (by decide +kernel), by decide +kernel, by decide +kernel⟩
theorem yv_X7_addLast : gz_yv yX7_addLast 7 := ⟨List.mem_of_getElem? (i := 680) (by decide +kernel), List.mem_of_getElem? (i := 681) (by decide +kernel), by decide, _, rfl, rfl⟩
theorem yl_X7_allLasts : gz_yl yX7_allLasts cX7_allLasts 1 (some .int) 0 := ⟨List.mem_of_getElem? (i := 778) (by decide +kernel), List.mem_of_getElem? (i := 75) (by decide +kernel), by decide +kernel, by decide +kernel⟩
theorem yv_X7_allLasts : gz_yv yX7_allLasts 7 := ⟨List.mem_of_getElem? (i := 776) (by decide +kernel), List.mem_of_getElem? (i := 777) (by decide +kernel), by decide, _, rfl, rfl⟩
theorem yl_X7_allTimes : gz_yl yX7_allTimes cX7_allTimes 3 (some .int) 0 := ⟨List.mem_of_getElem? (i := 705) (by decide +kernel), List.mem_of_getElem? (i := 75) (by decide +kernel), by decide +kernel, by decide +kernel⟩
theorem yv_X7_allTimes : gz_yv yX7_allTimes 7 := ⟨List.mem_of_getElem? (i := 703) (by decide +kernel), List.mem_of_getElem? (i := 704) (by decide +kernel), by decide, _, rfl, rfl⟩
theorem yl_X7_badness : gz_yl yX7_badness cX7_badness 10 (some .int) 6 := ⟨List.mem_of_getElem? (i := 528) (by decide +kernel), List.mem_of_getElem? (i := 75) (by decide +kernel), by decide +kernel, by decide +kernel⟩
theorem yv_X7_badness : gz_yv yX7_badness 7 := ⟨List.mem_of_getElem? (i := 526) (by decide +kernel), List.mem_of_getElem? (i := 527) (by decide +kernel), by decide, _, rfl, rfl⟩
theorem yl_X7_badnessOf : gz_yl yX7_badnessOf cX7_badnessOf 3 (some .int) 2 := ⟨List.mem_of_getElem? (i := 550) (by decide +kernel), List.mem_of_getElem? (i := 75) (by decide +kernel), by decide +kernel, by decide +kernel⟩
theorem yv_X7_badnessOf : gz_yv yX7_badnessOf 7 := ⟨List.mem_of_getElem? (i := 548) (by decide +kernel), List.mem_of_getElem? (i := 549) (by decide +kernel), by decide, _, rfl, rfl⟩
theorem yl_X7_becomeEmpty : gz_yl yX7_becomeEmpty cX7_becomeEmpty 1 none 0 := ⟨List.mem_of_getElem? (i := 579) (by decide +kernel), List.mem_of_getElem? (i := 75) (by decide +kernel), by decide +kernel, by decide +kernel⟩
theorem yv_X7_becomeEmpty : gz_yv yX7_becomeEmpty 7 := ⟨List.mem_of_getElem? (i := 577) (by decide +kernel), List.mem_of_getElem? (i := 578) (by decide +kernel), by decide, _, rfl, rfl⟩
theorem yl_X7_costAt : gz_yl yX7_costAt cX7_costAt 3 (some .int) 2 := ⟨List.mem_of_getElem? (i := 800) (by decide +kernel), List.mem_of_getElem? (i := 75) (by decide +kernel), by decide +kernel, by decide +kernel⟩
theorem yv_X7_costAt : gz_yv yX7_costAt 7 := ⟨List.mem_of_getElem? (i := 798) (by decide +kernel), List.mem_of_getElem? (i := 799) (by decide +kernel), by decide, _, rfl, rfl⟩
theorem yl_X7_doesForYears : gz_yl yX7_doesForYears cX7_doesForYears 5 (some .boolean) 3 := ⟨List.mem_of_getElem? (i := 979) (by decide +kernel), List.mem_of_getElem? (i := 75) (by decide +kernel), by decide +kernel, by decide +kernel⟩
theorem yv_X7_doesForYears : gz_yv yX7_doesForYears 7 := ⟨List.mem_of_getElem? (i := 977) (by decide +kernel), List.mem_of_getElem? (i := 978) (by decide +kernel), by decide, _, rfl, rfl⟩
theorem yl_X7_footPart : gz_yl yX7_footPart cX7_footPart 3 (some .int) 2 := ⟨List.mem_of_getElem? (i := 540) (by decide +kernel), List.mem_of_getElem? (i := 75) (by decide +kernel), by decide +kernel, by decide +kernel⟩
theorem yv_X7_footPart : gz_yv yX7_footPart 7 := ⟨List.mem_of_getElem? (i := 538) (by decide +kernel), List.mem_of_getElem? (i := 539) (by decide +kernel), by decide, _, rfl, rfl⟩
theorem yl_X7_growthIn : gz_yl yX7_growthIn cX7_growthIn 4 (some .int) 2 := ⟨List.mem_of_getElem? (i := 756) (by decide +kernel), List.mem_of_getElem? (i := 75) (by decide +kernel), by decide +kernel, by decide +kernel⟩
theorem yv_X7_growthIn : gz_yv yX7_growthIn 7 := ⟨List.mem_of_getElem? (i := 754) (by decide +kernel), List.mem_of_getElem? (i := 755) (by decide +kernel), by decide, _, rfl, rfl⟩
theorem yl_X7_hasFootOf : gz_yl yX7_hasFootOf cX7_hasFootOf 4 (some .boolean) 2 := ⟨List.mem_of_getElem? (i := 920) (by decide +kernel), List.mem_of_getElem? (i := 75) (by decide +kernel), by decide +kernel, by decide +kernel⟩
theorem yv_X7_hasFootOf : gz_yv yX7_hasFootOf 7 := ⟨List.mem_of_getElem? (i := 919) (by decide +kernel), List.mem_of_getElem? (i := 20) (by decide +kernel), by decide, _, rfl, rfl⟩
theorem yl_X7_lastPart : gz_yl yX7_lastPart cX7_lastPart 3 (some .int) 2 := ⟨List.mem_of_getElem? (i := 532) (by decide +kernel), List.mem_of_getElem? (i := 75) (by decide +kernel), by decide +kernel, by decide +kernel⟩
theorem yv_X7_lastPart : gz_yv yX7_lastPart 7 := ⟨List.mem_of_getElem? (i := 530) (by decide +kernel), List.mem_of_getElem? (i := 531) (by decide +kernel), by decide, _, rfl, rfl⟩
theorem yl_X7_ownBadness : gz_yl yX7_ownBadness cX7_ownBadness 7 (some .int) 3 := ⟨List.mem_of_getElem? (i := 796) (by decide +kernel), List.mem_of_getElem? (i := 75) (by decide +kernel), by decide +kernel, by decide +kernel⟩
theorem yv_X7_ownBadness : gz_yv yX7_ownBadness 7 := ⟨List.mem_of_getElem? (i := 794) (by decide +kernel), List.mem_of_getElem? (i := 795) (by decide +kernel), by decide, _, rfl, rfl⟩
theorem yl_X7_ownLast : gz_yl yX7_ownLast cX7_ownLast 7 (some .int) 2 := ⟨List.mem_of_getElem? (i := 782) (by decide +kernel), List.mem_of_getElem? (i := 75) (by decide +kernel), by decide +kernel, by decide +kernel⟩
theorem yv_X7_ownLast : gz_yv yX7_ownLast 7 := ⟨List.mem_of_getElem? (i := 780) (by decide +kernel), List.mem_of_getElem? (i := 781) (by decide +kernel), by decide, _, rfl, rfl⟩
theorem yl_X7_prices : gz_yl yX7_prices cX7_prices 4 (some .int) 1 := ⟨List.mem_of_getElem? (i := 792) (by decide +kernel), List.mem_of_getElem? (i := 75) (by decide +kernel), by decide +kernel, by decide +kernel⟩
theorem yv_X7_prices : gz_yv yX7_prices 7 := ⟨List.mem_of_getElem? (i := 790) (by decide +kernel), List.mem_of_getElem? (i := 791) (by decide +kernel), by decide, _, rfl, rfl⟩
theorem yl_X7_putFootPart : gz_yl yX7_putFootPart cX7_putFootPart 4 none 3 := ⟨List.mem_of_getElem? (i := 670) (by decide +kernel), List.mem_of_getElem? (i := 75) (by decide +kernel), by decide +kernel, by decide +kernel⟩
theorem yv_X7_putFootPart : gz_yv yX7_putFootPart 7 := ⟨List.mem_of_getElem? (i := 668) (by decide +kernel), List.mem_of_getElem? (i := 669) (by decide +kernel), by decide, _, rfl, rfl⟩
theorem yl_X7_putLastPart : gz_yl yX7_putLastPart cX7_putLastPart 4 none 3 := ⟨List.mem_of_getElem? (i := 686) (by decide +kernel), List.mem_of_getElem? (i := 75) (by decide +kernel), by decide +kernel, by decide +kernel⟩
theorem yv_X7_putLastPart : gz_yv yX7_putLastPart 7 := ⟨List.mem_of_getElem? (i := 684) (by decide +kernel), List.mem_of_getElem? (i := 685) (by decide +kernel), by decide, _, rfl, rfl⟩
theorem yl_X7_share : gz_yl yX7_share cX7_share 6 (some .int) 4 := ⟨List.mem_of_getElem? (i := 536) (by decide +kernel), List.mem_of_getElem? (i := 75) (by decide +kernel), by decide +kernel, by decide +kernel⟩
theorem yv_X7_share : gz_yv yX7_share 7 := ⟨List.mem_of_getElem? (i := 534) (by decide +kernel), List.mem_of_getElem? (i := 535) (by decide +kernel), by decide, _, rfl, rfl⟩
theorem yl_X7_sizesOf : gz_yl yX7_sizesOf cX7_sizesOf 5 (some .int) 2 := ⟨List.mem_of_getElem? (i := 916) (by decide +kernel), List.mem_of_getElem? (i := 75) (by decide +kernel), by decide +kernel, by decide +kernel⟩
theorem yv_X7_sizesOf : gz_yv yX7_sizesOf 7 := ⟨List.mem_of_getElem? (i := 914) (by decide +kernel), List.mem_of_getElem? (i := 915) (by decide +kernel), by decide, _, rfl, rfl⟩
theorem yl_X7_takeFrom : gz_yl yX7_takeFrom cX7_takeFrom 2 none 1 := ⟨List.mem_of_getElem? (i := 1016) (by decide +kernel), List.mem_of_getElem? (i := 75) (by decide +kernel), by decide +kernel, by decide +kernel⟩
theorem yv_X7_takeFrom : gz_yv yX7_takeFrom 7 := ⟨List.mem_of_getElem? (i := 1014) (by decide +kernel), List.mem_of_getElem? (i := 1015) (by decide +kernel), by decide, _, rfl, rfl⟩
theorem yl_X8_takeFrom : gz_yl yX8_takeFrom cX8_takeFrom 3 none 1 := ⟨List.mem_of_getElem? (i := 1048) (by decide +kernel), List.mem_of_getElem? (i := 73) (by decide +kernel), by decide +kernel, by decide +kernel⟩
theorem yv_X8_takeFrom : gz_yv yX8_takeFrom 8 := ⟨List.mem_of_getElem? (i := 1046) (by decide +kernel), List.mem_of_getElem? (i := 1047) (by decide +kernel), by decide, _, rfl, rfl⟩
theorem yl_X9_isCount : gz_yl yX9_isCount cX9_isCount 1 (some .boolean) 1 := ⟨List.mem_of_getElem? (i := 819) (by decide +kernel), List.mem_of_getElem? (i := 70) (by decide +kernel), by decide +kernel, by decide +kernel⟩
theorem yv_X9_isCount : Cond.static yX9_isCount ∈ lw_tbl := List.mem_of_getElem? (i := 818) (by decide +kernel)
theorem yl_X9_isFoot : gz_yl yX9_isFoot cX9_isFoot 3 (some .boolean) 2 := ⟨List.mem_of_getElem? (i := 508) (by decide +kernel), List.mem_of_getElem? (i := 70) (by decide +kernel), by decide +kernel, by decide +kernel⟩
theorem yv_X9_isFoot : gz_yv yX9_isFoot 9 := ⟨List.mem_of_getElem? (i := 507) (by decide +kernel), List.mem_of_getElem? (i := 1) (by decide +kernel), by decide, _, rfl, rfl⟩
theorem yl_X9_isLast : gz_yl yX9_isLast cX9_isLast 3 (some .boolean) 2 := ⟨List.mem_of_getElem? (i := 718) (by decide +kernel), List.mem_of_getElem? (i := 70) (by decide +kernel), by decide +kernel, by decide +kernel⟩
theorem yv_X9_isLast : gz_yv yX9_isLast 9 := ⟨List.mem_of_getElem? (i := 717) (by decide +kernel), List.mem_of_getElem? (i := 13) (by decide +kernel), by decide, _, rfl, rfl⟩
theorem yl_X9_isSet : gz_yl yX9_isSet cX9_isSet 3 (some .boolean) 2 := ⟨List.mem_of_getElem? (i := 774) (by decide +kernel), List.mem_of_getElem? (i := 70) (by decide +kernel), by decide +kernel, by decide +kernel⟩
theorem yv_X9_isSet : gz_yv yX9_isSet 9 := ⟨List.mem_of_getElem? (i := 773) (by decide +kernel), List.mem_of_getElem? (i := 14) (by decide +kernel), by decide, _, rfl, rfl⟩
theorem yl_X9_isShelf : gz_yl yX9_isShelf cX9_isShelf 1 (some .boolean) 1 := ⟨List.mem_of_getElem? (i := 413) (by decide +kernel), List.mem_of_getElem? (i := 70) (by decide +kernel), by decide +kernel, by decide +kernel⟩
theorem yv_X9_isShelf : Cond.static yX9_isShelf ∈ lw_tbl := List.mem_of_getElem? (i := 412) (by decide +kernel)
theorem yl_X9_isValley : gz_yl yX9_isValley cX9_isValley 2 (some .boolean) 1 := ⟨List.mem_of_getElem? (i := 512) (by decide +kernel), List.mem_of_getElem? (i := 70) (by decide +kernel), by decide +kernel, by decide +kernel⟩
theorem yv_X9_isValley : gz_yv yX9_isValley 9 := ⟨List.mem_of_getElem? (i := 511) (by decide +kernel), List.mem_of_getElem? (i := 2) (by decide +kernel), by decide, _, rfl, rfl⟩
theorem yl_X9_isWithin : gz_yl yX9_isWithin cX9_isWithin 3 (some .boolean) 3 := ⟨List.mem_of_getElem? (i := 416) (by decide +kernel), List.mem_of_getElem? (i := 70) (by decide +kernel), by decide +kernel, by decide +kernel⟩
theorem yv_X9_isWithin : Cond.static yX9_isWithin ∈ lw_tbl := List.mem_of_getElem? (i := 415) (by decide +kernel)
theorem yl_X9_lentCosts : gz_yl yX9_lentCosts cX9_lentCosts 8 (some .int) 4 := ⟨List.mem_of_getElem? (i := 987) (by decide +kernel), List.mem_of_getElem? (i := 70) (by decide +kernel), by decide +kernel, by decide +kernel⟩
theorem yv_X9_lentCosts : Cond.static yX9_lentCosts ∈ lw_tbl := List.mem_of_getElem? (i := 986) (by decide +kernel)
theorem yl_X9_pairRefusal : gz_yl yX9_pairRefusal cX9_pairRefusal 3 (some .int) 2 := ⟨List.mem_of_getElem? (i := 454) (by decide +kernel), List.mem_of_getElem? (i := 70) (by decide +kernel), by decide +kernel, by decide +kernel⟩
theorem yv_X9_pairRefusal : Cond.static yX9_pairRefusal ∈ lw_tbl := List.mem_of_getElem? (i := 453) (by decide +kernel)
theorem yl_X9_refuse : gz_yl yX9_refuse cX9_refuse 3 (some .int) 1 := ⟨List.mem_of_getElem? (i := 420) (by decide +kernel), List.mem_of_getElem? (i := 70) (by decide +kernel), by decide +kernel, by decide +kernel⟩
theorem yv_X9_refuse : gz_yv yX9_refuse 9 := ⟨List.mem_of_getElem? (i := 419) (by decide +kernel), List.mem_of_getElem? (i := 0) (by decide +kernel), by decide, _, rfl, rfl⟩
theorem yl_X9_shelvesInUse : gz_yl yX9_shelvesInUse cX9_shelvesInUse 3 (some .int) 0 := ⟨List.mem_of_getElem? (i := 1065) (by decide +kernel), List.mem_of_getElem? (i := 70) (by decide +kernel), by decide +kernel, by decide +kernel⟩
theorem yv_X9_shelvesInUse : gz_yv yX9_shelvesInUse 9 := ⟨List.mem_of_getElem? (i := 1064) (by decide +kernel), List.mem_of_getElem? (i := 29) (by decide +kernel), by decide, _, rfl, rfl⟩
theorem yl_X0_init : gz_yl yX0_init cX0_init 1 none 0 := ⟨List.mem_of_getElem? (i := 307) (by decide +kernel), List.mem_of_getElem? (i := 78) (by decide +kernel), by decide +kernel, by decide +kernel⟩
theorem yi_X0_init : yX0_init.name = "<init>" ∧ Cond.instanceMethod yX0_init ∈ lw_tbl := ⟨rfl, List.mem_of_getElem? (i := 306) (by decide +kernel)⟩
theorem yl_X10_init : gz_yl yX10_init cX10_init 1 none 0 := ⟨List.mem_of_getElem? (i := 1070) (by decide +kernel), List.mem_of_getElem? (i := 80) (by decide +kernel), by decide +kernel, by decide +kernel⟩
theorem yi_X10_init : yX10_init.name = "<init>" ∧ Cond.instanceMethod yX10_init ∈ lw_tbl := ⟨rfl, List.mem_of_getElem? (i := 1069) (by decide +kernel)⟩
theorem yl_X1_init : gz_yl yX1_init cX1_init 1 none 0 := ⟨List.mem_of_getElem? (i := 149) (by decide +kernel), List.mem_of_getElem? (i := 74) (by decide +kernel), by decide +kernel, by decide +kernel⟩
theorem yi_X1_init : yX1_init.name = "<init>" ∧ Cond.instanceMethod yX1_init ∈ lw_tbl := ⟨rfl, List.mem_of_getElem? (i := 148) (by decide +kernel)⟩
theorem yl_X2_init : gz_yl yX2_init cX2_init 2 none 1 := ⟨List.mem_of_getElem? (i := 117) (by decide +kernel), List.mem_of_getElem? (i := 72) (by decide +kernel), by decide +kernel, by decide +kernel⟩
theorem yi_X2_init : yX2_init.name = "<init>" ∧ Cond.instanceMethod yX2_init ∈ lw_tbl := ⟨rfl, List.mem_of_getElem? (i := 116) (by decide +kernel)⟩
theorem yl_X3_init : gz_yl yX3_init cX3_init 1 none 0 := ⟨List.mem_of_getElem? (i := 250) (by decide +kernel), List.mem_of_getElem? (i := 76) (by decide +kernel), by decide +kernel, by decide +kernel⟩
theorem yi_X3_init : yX3_init.name = "<init>" ∧ Cond.instanceMethod yX3_init ∈ lw_tbl := ⟨rfl, List.mem_of_getElem? (i := 249) (by decide +kernel)⟩
theorem yl_X4_init : gz_yl yX4_init cX4_init 1 none 0 := ⟨List.mem_of_getElem? (i := 354) (by decide +kernel), List.mem_of_getElem? (i := 79) (by decide +kernel), by decide +kernel, by decide +kernel⟩
theorem yi_X4_init : yX4_init.name = "<init>" ∧ Cond.instanceMethod yX4_init ∈ lw_tbl := ⟨rfl, List.mem_of_getElem? (i := 353) (by decide +kernel)⟩
theorem yl_X5_init : gz_yl yX5_init cX5_init 1 none 0 := ⟨List.mem_of_getElem? (i := 274) (by decide +kernel), List.mem_of_getElem? (i := 77) (by decide +kernel), by decide +kernel, by decide +kernel⟩
theorem yi_X5_init : yX5_init.name = "<init>" ∧ Cond.instanceMethod yX5_init ∈ lw_tbl := ⟨rfl, List.mem_of_getElem? (i := 273) (by decide +kernel)⟩
theorem yl_X6_init : gz_yl yX6_init cX6_init 1 none 0 := ⟨List.mem_of_getElem? (i := 101) (by decide +kernel), List.mem_of_getElem? (i := 71) (by decide +kernel), by decide +kernel, by decide +kernel⟩
theorem yi_X6_init : yX6_init.name = "<init>" ∧ Cond.instanceMethod yX6_init ∈ lw_tbl := ⟨rfl, List.mem_of_getElem? (i := 100) (by decide +kernel)⟩
theorem yl_X7_init : gz_yl yX7_init cX7_init 1 none 0 := ⟨List.mem_of_getElem? (i := 155) (by decide +kernel), List.mem_of_getElem? (i := 75) (by decide +kernel), by decide +kernel, by decide +kernel⟩
theorem yi_X7_init : yX7_init.name = "<init>" ∧ Cond.instanceMethod yX7_init ∈ lw_tbl := ⟨rfl, List.mem_of_getElem? (i := 154) (by decide +kernel)⟩
theorem yl_X8_init : gz_yl yX8_init cX8_init 2 none 0 := ⟨List.mem_of_getElem? (i := 141) (by decide +kernel), List.mem_of_getElem? (i := 73) (by decide +kernel), by decide +kernel, by decide +kernel⟩
theorem yi_X8_init : yX8_init.name = "<init>" ∧ Cond.instanceMethod yX8_init ∈ lw_tbl := ⟨rfl, List.mem_of_getElem? (i := 140) (by decide +kernel)⟩
theorem gz_bm20 : (Int8.ofInt (-20)).toInt32 = (-20 : Int32) := by decide
theorem gz_bm6 : (Int8.ofInt (-6)).toInt32 = (-6 : Int32) := by decide
theorem gz_bm5 : (Int8.ofInt (-5)).toInt32 = (-5 : Int32) := by decide
theorem gz_bm4 : (Int8.ofInt (-4)).toInt32 = (-4 : Int32) := by decide
theorem gz_bm3 : (Int8.ofInt (-3)).toInt32 = (-3 : Int32) := by decide
theorem gz_bm2 : (Int8.ofInt (-2)).toInt32 = (-2 : Int32) := by decide
theorem gz_b6 : (Int8.ofInt (6)).toInt32 = (6 : Int32) := by decide
theorem gz_b7 : (Int8.ofInt (7)).toInt32 = (7 : Int32) := by decide
theorem gz_b8 : (Int8.ofInt (8)).toInt32 = (8 : Int32) := by decide
theorem gz_b9 : (Int8.ofInt (9)).toInt32 = (9 : Int32) := by decide
theorem gz_b10 : (Int8.ofInt (10)).toInt32 = (10 : Int32) := by decide
theorem gz_b12 : (Int8.ofInt (12)).toInt32 = (12 : Int32) := by decide
theorem gz_b13 : (Int8.ofInt (13)).toInt32 = (13 : Int32) := by decide
theorem gz_b15 : (Int8.ofInt (15)).toInt32 = (15 : Int32) := by decide
theorem gz_b16 : (Int8.ofInt (16)).toInt32 = (16 : Int32) := by decide
theorem gz_b30 : (Int8.ofInt (30)).toInt32 = (30 : Int32) := by decide
theorem gz_b32 : (Int8.ofInt (32)).toInt32 = (32 : Int32) := by decide
theorem gz_b40 : (Int8.ofInt (40)).toInt32 = (40 : Int32) := by decide
theorem gz_b48 : (Int8.ofInt (48)).toInt32 = (48 : Int32) := by decide
theorem gz_b50 : (Int8.ofInt (50)).toInt32 = (50 : Int32) := by decide
theorem gz_b57 : (Int8.ofInt (57)).toInt32 = (57 : Int32) := by decide
theorem gz_b59 : (Int8.ofInt (59)).toInt32 = (59 : Int32) := by decide
theorem gz_b60 : (Int8.ofInt (60)).toInt32 = (60 : Int32) := by decide
theorem gz_b63 : (Int8.ofInt (63)).toInt32 = (63 : Int32) := by decide
theorem gz_b97 : (Int8.ofInt (97)).toInt32 = (97 : Int32) := by decide
theorem gz_b99 : (Int8.ofInt (99)).toInt32 = (99 : Int32) := by decide
theorem gz_b122 : (Int8.ofInt (122)).toInt32 = (122 : Int32) := by decide
theorem gz_km1 : Int32.ofInt (-1) = (-1 : Int32) := by decide
theorem gz_k0 : Int32.ofInt (0) = (0 : Int32) := by decide
theorem gz_k1 : Int32.ofInt (1) = (1 : Int32) := by decide
theorem gz_k2 : Int32.ofInt (2) = (2 : Int32) := by decide
theorem gz_k3 : Int32.ofInt (3) = (3 : Int32) := by decide
theorem gz_k4 : Int32.ofInt (4) = (4 : Int32) := by decide
theorem gz_k5 : Int32.ofInt (5) = (5 : Int32) := by decide
theorem gz_l0 : Int64.ofNat ((0 : Fin 2) : Nat) = (0 : Int64) := by decide
theorem gz_l1 : Int64.ofNat ((1 : Fin 2) : Nat) = (1 : Int64) := by decide
theorem gz_s144 : (Int16.ofInt (144)).toInt32 = (144 : Int32) := by decide
theorem gz_s250 : (Int16.ofInt (250)).toInt32 = (250 : Int32) := by decide
theorem gz_s255 : (Int16.ofInt (255)).toInt32 = (255 : Int32) := by decide
theorem gz_s999 : (Int16.ofInt (999)).toInt32 = (999 : Int32) := by decide
theorem gz_s1024 : (Int16.ofInt (1024)).toInt32 = (1024 : Int32) := by decide
