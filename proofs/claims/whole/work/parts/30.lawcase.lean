theorem q_407 : Cond.methodLink RL 13 yX9_row ∈ lw_tbl := List.mem_of_getElem? (i := 407) (by decide +kernel)
theorem q_428 : Cond.methodLink RL 20 yX9_set ∈ lw_tbl := List.mem_of_getElem? (i := 428) (by decide +kernel)
theorem q_448 : Cond.methodLink RL 25 yX9_copy ∈ lw_tbl := List.mem_of_getElem? (i := 448) (by decide +kernel)
theorem q_468 : Cond.methodLink RL 30 yX9_element ∈ lw_tbl := List.mem_of_getElem? (i := 468) (by decide +kernel)
theorem q_477 : Cond.methodLink RL 35 yX9_holds ∈ lw_tbl := List.mem_of_getElem? (i := 477) (by decide +kernel)
theorem q_481 : Cond.methodLink RL 40 yX9_tool ∈ lw_tbl := List.mem_of_getElem? (i := 481) (by decide +kernel)
theorem q_489 : Cond.methodLink RL 45 yX9_says ∈ lw_tbl := List.mem_of_getElem? (i := 489) (by decide +kernel)
theorem q_501 : Cond.methodLink RL 50 yX9_tries ∈ lw_tbl := List.mem_of_getElem? (i := 501) (by decide +kernel)
theorem q_552 : Cond.methodLink RL 54 yX9_shoes ∈ lw_tbl := List.mem_of_getElem? (i := 552) (by decide +kernel)
theorem q_556 : Cond.methodLink RL 58 yX9_feed ∈ lw_tbl := List.mem_of_getElem? (i := 556) (by decide +kernel)
theorem q_564 : Cond.methodLink RL 62 yX9_wipe ∈ lw_tbl := List.mem_of_getElem? (i := 564) (by decide +kernel)
theorem q_568 : Cond.methodLink RL 67 yX9_valley ∈ lw_tbl := List.mem_of_getElem? (i := 568) (by decide +kernel)
theorem q_698 : Cond.methodLink RL 71 yX9_valleyOf ∈ lw_tbl := List.mem_of_getElem? (i := 698) (by decide +kernel)
theorem q_706 : Cond.methodLink RL 75 yX9_footOf ∈ lw_tbl := List.mem_of_getElem? (i := 706) (by decide +kernel)
theorem q_711 : Cond.methodLink RL 79 yX9_lastOf ∈ lw_tbl := List.mem_of_getElem? (i := 711) (by decide +kernel)
theorem q_720 : Cond.methodLink RL 83 yX9_feet ∈ lw_tbl := List.mem_of_getElem? (i := 720) (by decide +kernel)
theorem q_732 : Cond.methodLink RL 87 yX9_alter ∈ lw_tbl := List.mem_of_getElem? (i := 732) (by decide +kernel)
theorem q_736 : Cond.methodLink RL 91 yX9_carve ∈ lw_tbl := List.mem_of_getElem? (i := 736) (by decide +kernel)
theorem q_741 : Cond.methodLink RL 95 yX9_build ∈ lw_tbl := List.mem_of_getElem? (i := 741) (by decide +kernel)
theorem q_749 : Cond.methodLink RL 99 yX9_year ∈ lw_tbl := List.mem_of_getElem? (i := 749) (by decide +kernel)
theorem q_758 : Cond.methodLink RL 103 yX9_does ∈ lw_tbl := List.mem_of_getElem? (i := 758) (by decide +kernel)
theorem q_763 : Cond.methodLink RL 107 yX9_bad ∈ lw_tbl := List.mem_of_getElem? (i := 763) (by decide +kernel)
theorem q_767 : Cond.methodLink RL 111 yX9_whose ∈ lw_tbl := List.mem_of_getElem? (i := 767) (by decide +kernel)
theorem q_785 : Cond.methodLink RL 115 yX9_total ∈ lw_tbl := List.mem_of_getElem? (i := 785) (by decide +kernel)
theorem q_801 : Cond.methodLink RL 119 yX9_out ∈ lw_tbl := List.mem_of_getElem? (i := 801) (by decide +kernel)
theorem q_805 : Cond.methodLink RL 123 yX9_judge ∈ lw_tbl := List.mem_of_getElem? (i := 805) (by decide +kernel)
theorem q_813 : Cond.methodLink RL 127 yX9_best ∈ lw_tbl := List.mem_of_getElem? (i := 813) (by decide +kernel)
theorem q_861 : Cond.methodLink RL 131 yX9_more ∈ lw_tbl := List.mem_of_getElem? (i := 861) (by decide +kernel)
theorem q_865 : Cond.methodLink RL 135 yX9_enough ∈ lw_tbl := List.mem_of_getElem? (i := 865) (by decide +kernel)
theorem q_869 : Cond.methodLink RL 139 yX9_changed ∈ lw_tbl := List.mem_of_getElem? (i := 869) (by decide +kernel)
theorem q_881 : Cond.methodLink RL 143 yX9_bound ∈ lw_tbl := List.mem_of_getElem? (i := 881) (by decide +kernel)
theorem q_885 : Cond.methodLink RL 147 yX9_fair ∈ lw_tbl := List.mem_of_getElem? (i := 885) (by decide +kernel)
theorem q_897 : Cond.methodLink RL 151 yX9_shod ∈ lw_tbl := List.mem_of_getElem? (i := 897) (by decide +kernel)
theorem q_905 : Cond.methodLink RL 155 yX9_line ∈ lw_tbl := List.mem_of_getElem? (i := 905) (by decide +kernel)
theorem q_940 : Cond.methodLink RL 159 yX9_corners ∈ lw_tbl := List.mem_of_getElem? (i := 940) (by decide +kernel)
theorem q_949 : Cond.methodLink RL 163 yX9_corner ∈ lw_tbl := List.mem_of_getElem? (i := 949) (by decide +kernel)
theorem q_972 : Cond.methodLink RL 167 yX9_keeps ∈ lw_tbl := List.mem_of_getElem? (i := 972) (by decide +kernel)
theorem q_981 : Cond.methodLink RL 171 yX9_lend ∈ lw_tbl := List.mem_of_getElem? (i := 981) (by decide +kernel)
theorem q_988 : Cond.methodLink RL 175 yX9_doubt ∈ lw_tbl := List.mem_of_getElem? (i := 988) (by decide +kernel)
theorem q_1001 : Cond.methodLink RL 179 yX9_idle ∈ lw_tbl := List.mem_of_getElem? (i := 1001) (by decide +kernel)
theorem q_1005 : Cond.methodLink RL 183 yX9_begin ∈ lw_tbl := List.mem_of_getElem? (i := 1005) (by decide +kernel)
theorem q_1022 : Cond.methodLink RL 187 yX9_step ∈ lw_tbl := List.mem_of_getElem? (i := 1022) (by decide +kernel)
theorem q_1037 : Cond.methodLink RL 191 yX9_search ∈ lw_tbl := List.mem_of_getElem? (i := 1037) (by decide +kernel)
theorem q_1041 : Cond.methodLink RL 195 yX9_image ∈ lw_tbl := List.mem_of_getElem? (i := 1041) (by decide +kernel)
theorem q_1054 : Cond.methodLink RL 199 yX9_back ∈ lw_tbl := List.mem_of_getElem? (i := 1054) (by decide +kernel)
theorem q_1058 : Cond.methodLink RL 203 yX9_status ∈ lw_tbl := List.mem_of_getElem? (i := 1058) (by decide +kernel)
theorem q_1165 : Cond.methodLink RL 17 yX10_row ∈ lw_tbl := List.mem_of_getElem? (i := 1165) (by decide +kernel)
theorem q_1179 : Cond.methodLink RL 24 yX10_set ∈ lw_tbl := List.mem_of_getElem? (i := 1179) (by decide +kernel)
theorem q_1186 : Cond.methodLink RL 29 yX10_copy ∈ lw_tbl := List.mem_of_getElem? (i := 1186) (by decide +kernel)
theorem q_1190 : Cond.methodLink RL 34 yX10_element ∈ lw_tbl := List.mem_of_getElem? (i := 1190) (by decide +kernel)
theorem q_1194 : Cond.methodLink RL 39 yX10_holds ∈ lw_tbl := List.mem_of_getElem? (i := 1194) (by decide +kernel)
theorem q_1198 : Cond.methodLink RL 44 yX10_tool ∈ lw_tbl := List.mem_of_getElem? (i := 1198) (by decide +kernel)
theorem q_1205 : Cond.methodLink RL 49 yX10_says ∈ lw_tbl := List.mem_of_getElem? (i := 1205) (by decide +kernel)
theorem q_1209 : Cond.methodLink RL 53 yX10_tries ∈ lw_tbl := List.mem_of_getElem? (i := 1209) (by decide +kernel)
theorem q_1253 : Cond.methodLink RL 57 yX10_shoes ∈ lw_tbl := List.mem_of_getElem? (i := 1253) (by decide +kernel)
theorem q_1257 : Cond.methodLink RL 61 yX10_feed ∈ lw_tbl := List.mem_of_getElem? (i := 1257) (by decide +kernel)
theorem q_1261 : Cond.methodLink RL 66 yX10_wipe ∈ lw_tbl := List.mem_of_getElem? (i := 1261) (by decide +kernel)
theorem q_1265 : Cond.methodLink RL 70 yX10_valley ∈ lw_tbl := List.mem_of_getElem? (i := 1265) (by decide +kernel)
theorem q_1317 : Cond.methodLink RL 74 yX10_valleyOf ∈ lw_tbl := List.mem_of_getElem? (i := 1317) (by decide +kernel)
theorem q_1325 : Cond.methodLink RL 78 yX10_footOf ∈ lw_tbl := List.mem_of_getElem? (i := 1325) (by decide +kernel)
theorem q_1329 : Cond.methodLink RL 82 yX10_lastOf ∈ lw_tbl := List.mem_of_getElem? (i := 1329) (by decide +kernel)
theorem q_1338 : Cond.methodLink RL 86 yX10_feet ∈ lw_tbl := List.mem_of_getElem? (i := 1338) (by decide +kernel)
theorem q_1343 : Cond.methodLink RL 90 yX10_alter ∈ lw_tbl := List.mem_of_getElem? (i := 1343) (by decide +kernel)
theorem q_1347 : Cond.methodLink RL 94 yX10_carve ∈ lw_tbl := List.mem_of_getElem? (i := 1347) (by decide +kernel)
theorem q_1351 : Cond.methodLink RL 98 yX10_build ∈ lw_tbl := List.mem_of_getElem? (i := 1351) (by decide +kernel)
theorem q_1355 : Cond.methodLink RL 102 yX10_year ∈ lw_tbl := List.mem_of_getElem? (i := 1355) (by decide +kernel)
theorem q_1363 : Cond.methodLink RL 106 yX10_does ∈ lw_tbl := List.mem_of_getElem? (i := 1363) (by decide +kernel)
theorem q_1367 : Cond.methodLink RL 110 yX10_bad ∈ lw_tbl := List.mem_of_getElem? (i := 1367) (by decide +kernel)
theorem q_1371 : Cond.methodLink RL 114 yX10_whose ∈ lw_tbl := List.mem_of_getElem? (i := 1371) (by decide +kernel)
theorem q_1387 : Cond.methodLink RL 118 yX10_total ∈ lw_tbl := List.mem_of_getElem? (i := 1387) (by decide +kernel)
theorem q_1403 : Cond.methodLink RL 122 yX10_out ∈ lw_tbl := List.mem_of_getElem? (i := 1403) (by decide +kernel)
theorem q_1407 : Cond.methodLink RL 126 yX10_judge ∈ lw_tbl := List.mem_of_getElem? (i := 1407) (by decide +kernel)
theorem q_1411 : Cond.methodLink RL 130 yX10_best ∈ lw_tbl := List.mem_of_getElem? (i := 1411) (by decide +kernel)
theorem q_1426 : Cond.methodLink RL 134 yX10_more ∈ lw_tbl := List.mem_of_getElem? (i := 1426) (by decide +kernel)
theorem q_1434 : Cond.methodLink RL 138 yX10_enough ∈ lw_tbl := List.mem_of_getElem? (i := 1434) (by decide +kernel)
theorem q_1438 : Cond.methodLink RL 142 yX10_changed ∈ lw_tbl := List.mem_of_getElem? (i := 1438) (by decide +kernel)
theorem q_1442 : Cond.methodLink RL 146 yX10_bound ∈ lw_tbl := List.mem_of_getElem? (i := 1442) (by decide +kernel)
theorem q_1446 : Cond.methodLink RL 150 yX10_fair ∈ lw_tbl := List.mem_of_getElem? (i := 1446) (by decide +kernel)
theorem q_1454 : Cond.methodLink RL 154 yX10_shod ∈ lw_tbl := List.mem_of_getElem? (i := 1454) (by decide +kernel)
theorem q_1462 : Cond.methodLink RL 158 yX10_line ∈ lw_tbl := List.mem_of_getElem? (i := 1462) (by decide +kernel)
theorem q_1480 : Cond.methodLink RL 162 yX10_corners ∈ lw_tbl := List.mem_of_getElem? (i := 1480) (by decide +kernel)
theorem q_1484 : Cond.methodLink RL 166 yX10_corner ∈ lw_tbl := List.mem_of_getElem? (i := 1484) (by decide +kernel)
theorem q_1488 : Cond.methodLink RL 170 yX10_keeps ∈ lw_tbl := List.mem_of_getElem? (i := 1488) (by decide +kernel)
theorem q_1492 : Cond.methodLink RL 174 yX10_lend ∈ lw_tbl := List.mem_of_getElem? (i := 1492) (by decide +kernel)
theorem q_1504 : Cond.methodLink RL 178 yX10_doubt ∈ lw_tbl := List.mem_of_getElem? (i := 1504) (by decide +kernel)
theorem q_1508 : Cond.methodLink RL 182 yX10_idle ∈ lw_tbl := List.mem_of_getElem? (i := 1508) (by decide +kernel)
theorem q_1512 : Cond.methodLink RL 186 yX10_begin ∈ lw_tbl := List.mem_of_getElem? (i := 1512) (by decide +kernel)
theorem q_1519 : Cond.methodLink RL 190 yX10_step ∈ lw_tbl := List.mem_of_getElem? (i := 1519) (by decide +kernel)
theorem q_1528 : Cond.methodLink RL 194 yX10_search ∈ lw_tbl := List.mem_of_getElem? (i := 1528) (by decide +kernel)
theorem q_1532 : Cond.methodLink RL 198 yX10_image ∈ lw_tbl := List.mem_of_getElem? (i := 1532) (by decide +kernel)
theorem q_1542 : Cond.methodLink RL 202 yX10_back ∈ lw_tbl := List.mem_of_getElem? (i := 1542) (by decide +kernel)
theorem q_1546 : Cond.methodLink RL 206 yX10_status ∈ lw_tbl := List.mem_of_getElem? (i := 1546) (by decide +kernel)
theorem q_1552 : Cond.constantLong RL 18 (4294967295 : Int64) ∈ lw_tbl := List.mem_of_getElem? (i := 1552) (by decide +kernel)
theorem yl_X10_alter : gz_yl yX10_alter cX10_alter 6 (some .int) 4 := ⟨List.mem_of_getElem? (i := 1346) (by decide +kernel), List.mem_of_getElem? (i := 80) (by decide +kernel), by decide +kernel, by decide +kernel⟩
theorem yv_X10_alter : gz_yv yX10_alter 10 := ⟨List.mem_of_getElem? (i := 1344) (by decide +kernel), List.mem_of_getElem? (i := 1345) (by decide +kernel), by decide, _, rfl, rfl⟩
theorem yl_X10_back : gz_yl yX10_back cX10_back 1 (some .int) 0 := ⟨List.mem_of_getElem? (i := 1545) (by decide +kernel), List.mem_of_getElem? (i := 80) (by decide +kernel), by decide +kernel, by decide +kernel⟩
theorem yv_X10_back : gz_yv yX10_back 10 := ⟨List.mem_of_getElem? (i := 1543) (by decide +kernel), List.mem_of_getElem? (i := 1544) (by decide +kernel), by decide, _, rfl, rfl⟩
theorem yl_X10_bad : gz_yl yX10_bad cX10_bad 4 (some .int) 3 := ⟨List.mem_of_getElem? (i := 1370) (by decide +kernel), List.mem_of_getElem? (i := 80) (by decide +kernel), by decide +kernel, by decide +kernel⟩
theorem yv_X10_bad : gz_yv yX10_bad 10 := ⟨List.mem_of_getElem? (i := 1368) (by decide +kernel), List.mem_of_getElem? (i := 1369) (by decide +kernel), by decide, _, rfl, rfl⟩
theorem yl_X10_begin : gz_yl yX10_begin cX10_begin 3 (some .int) 2 := ⟨List.mem_of_getElem? (i := 1515) (by decide +kernel), List.mem_of_getElem? (i := 80) (by decide +kernel), by decide +kernel, by decide +kernel⟩
theorem yv_X10_begin : gz_yv yX10_begin 10 := ⟨List.mem_of_getElem? (i := 1513) (by decide +kernel), List.mem_of_getElem? (i := 1514) (by decide +kernel), by decide, _, rfl, rfl⟩
theorem yl_X10_best : gz_yl yX10_best cX10_best 3 (some .int) 2 := ⟨List.mem_of_getElem? (i := 1414) (by decide +kernel), List.mem_of_getElem? (i := 80) (by decide +kernel), by decide +kernel, by decide +kernel⟩
theorem yv_X10_best : gz_yv yX10_best 10 := ⟨List.mem_of_getElem? (i := 1412) (by decide +kernel), List.mem_of_getElem? (i := 1413) (by decide +kernel), by decide, _, rfl, rfl⟩
theorem yl_X10_bound : gz_yl yX10_bound cX10_bound 7 (some .int) 1 := ⟨List.mem_of_getElem? (i := 1445) (by decide +kernel), List.mem_of_getElem? (i := 80) (by decide +kernel), by decide +kernel, by decide +kernel⟩
theorem yv_X10_bound : gz_yv yX10_bound 10 := ⟨List.mem_of_getElem? (i := 1443) (by decide +kernel), List.mem_of_getElem? (i := 1444) (by decide +kernel), by decide, _, rfl, rfl⟩
theorem yl_X10_build : gz_yl yX10_build cX10_build 6 (some .int) 3 := ⟨List.mem_of_getElem? (i := 1354) (by decide +kernel), List.mem_of_getElem? (i := 80) (by decide +kernel), by decide +kernel, by decide +kernel⟩
theorem yv_X10_build : gz_yv yX10_build 10 := ⟨List.mem_of_getElem? (i := 1352) (by decide +kernel), List.mem_of_getElem? (i := 1353) (by decide +kernel), by decide, _, rfl, rfl⟩
theorem yl_X10_carve : gz_yl yX10_carve cX10_carve 6 (some .int) 4 := ⟨List.mem_of_getElem? (i := 1350) (by decide +kernel), List.mem_of_getElem? (i := 80) (by decide +kernel), by decide +kernel, by decide +kernel⟩
theorem yv_X10_carve : gz_yv yX10_carve 10 := ⟨List.mem_of_getElem? (i := 1348) (by decide +kernel), List.mem_of_getElem? (i := 1349) (by decide +kernel), by decide, _, rfl, rfl⟩
theorem yl_X10_changed : gz_yl yX10_changed cX10_changed 11 (some .int) 2 := ⟨List.mem_of_getElem? (i := 1441) (by decide +kernel), List.mem_of_getElem? (i := 80) (by decide +kernel), by decide +kernel, by decide +kernel⟩
theorem yv_X10_changed : gz_yv yX10_changed 10 := ⟨List.mem_of_getElem? (i := 1439) (by decide +kernel), List.mem_of_getElem? (i := 1440) (by decide +kernel), by decide, _, rfl, rfl⟩
theorem yl_X10_copy : gz_yl yX10_copy cX10_copy 7 (some .int) 5 := ⟨List.mem_of_getElem? (i := 1189) (by decide +kernel), List.mem_of_getElem? (i := 80) (by decide +kernel), by decide +kernel, by decide +kernel⟩
theorem yv_X10_copy : gz_yv yX10_copy 10 := ⟨List.mem_of_getElem? (i := 1187) (by decide +kernel), List.mem_of_getElem? (i := 1188) (by decide +kernel), by decide, _, rfl, rfl⟩
theorem yl_X10_corner : gz_yl yX10_corner cX10_corner 12 (some .int) 2 := ⟨List.mem_of_getElem? (i := 1487) (by decide +kernel), List.mem_of_getElem? (i := 80) (by decide +kernel), by decide +kernel, by decide +kernel⟩
theorem yv_X10_corner : gz_yv yX10_corner 10 := ⟨List.mem_of_getElem? (i := 1485) (by decide +kernel), List.mem_of_getElem? (i := 1486) (by decide +kernel), by decide, _, rfl, rfl⟩
theorem yl_X10_corners : gz_yl yX10_corners cX10_corners 4 (some .int) 1 := ⟨List.mem_of_getElem? (i := 1483) (by decide +kernel), List.mem_of_getElem? (i := 80) (by decide +kernel), by decide +kernel, by decide +kernel⟩
theorem yv_X10_corners : gz_yv yX10_corners 10 := ⟨List.mem_of_getElem? (i := 1481) (by decide +kernel), List.mem_of_getElem? (i := 1482) (by decide +kernel), by decide, _, rfl, rfl⟩
theorem yl_X10_does : gz_yl yX10_does cX10_does 4 (some .int) 3 := ⟨List.mem_of_getElem? (i := 1366) (by decide +kernel), List.mem_of_getElem? (i := 80) (by decide +kernel), by decide +kernel, by decide +kernel⟩
theorem yv_X10_does : gz_yv yX10_does 10 := ⟨List.mem_of_getElem? (i := 1364) (by decide +kernel), List.mem_of_getElem? (i := 1365) (by decide +kernel), by decide, _, rfl, rfl⟩
theorem yl_X10_doubt : gz_yl yX10_doubt cX10_doubt 7 (some .int) 2 := ⟨List.mem_of_getElem? (i := 1507) (by decide +kernel), List.mem_of_getElem? (i := 80) (by decide +kernel), by decide +kernel, by decide +kernel⟩
theorem yv_X10_doubt : gz_yv yX10_doubt 10 := ⟨List.mem_of_getElem? (i := 1505) (by decide +kernel), List.mem_of_getElem? (i := 1506) (by decide +kernel), by decide, _, rfl, rfl⟩
theorem yl_X10_element : gz_yl yX10_element cX10_element 3 (some .long) 2 := ⟨List.mem_of_getElem? (i := 1193) (by decide +kernel), List.mem_of_getElem? (i := 80) (by decide +kernel), by decide +kernel, by decide +kernel⟩
theorem yv_X10_element : gz_yv yX10_element 10 := ⟨List.mem_of_getElem? (i := 1191) (by decide +kernel), List.mem_of_getElem? (i := 1192) (by decide +kernel), by decide, _, rfl, rfl⟩
theorem yl_X10_enough : gz_yl yX10_enough cX10_enough 4 (some .int) 2 := ⟨List.mem_of_getElem? (i := 1437) (by decide +kernel), List.mem_of_getElem? (i := 80) (by decide +kernel), by decide +kernel, by decide +kernel⟩
theorem yv_X10_enough : gz_yv yX10_enough 10 := ⟨List.mem_of_getElem? (i := 1435) (by decide +kernel), List.mem_of_getElem? (i := 1436) (by decide +kernel), by decide, _, rfl, rfl⟩
theorem yl_X10_fair : gz_yl yX10_fair cX10_fair 9 (some .int) 2 := ⟨List.mem_of_getElem? (i := 1449) (by decide +kernel), List.mem_of_getElem? (i := 80) (by decide +kernel), by decide +kernel, by decide +kernel⟩
theorem yv_X10_fair : gz_yv yX10_fair 10 := ⟨List.mem_of_getElem? (i := 1447) (by decide +kernel), List.mem_of_getElem? (i := 1448) (by decide +kernel), by decide, _, rfl, rfl⟩
theorem yl_X10_feed : gz_yl yX10_feed cX10_feed 4 (some .int) 2 := ⟨List.mem_of_getElem? (i := 1260) (by decide +kernel), List.mem_of_getElem? (i := 80) (by decide +kernel), by decide +kernel, by decide +kernel⟩
theorem yv_X10_feed : gz_yv yX10_feed 10 := ⟨List.mem_of_getElem? (i := 1258) (by decide +kernel), List.mem_of_getElem? (i := 1259) (by decide +kernel), by decide, _, rfl, rfl⟩
theorem yl_X10_feet : gz_yl yX10_feet cX10_feet 6 (some .int) 2 := ⟨List.mem_of_getElem? (i := 1341) (by decide +kernel), List.mem_of_getElem? (i := 80) (by decide +kernel), by decide +kernel, by decide +kernel⟩
theorem yv_X10_feet : gz_yv yX10_feet 10 := ⟨List.mem_of_getElem? (i := 1339) (by decide +kernel), List.mem_of_getElem? (i := 1340) (by decide +kernel), by decide, _, rfl, rfl⟩
theorem yl_X10_footOf : gz_yl yX10_footOf cX10_footOf 4 (some .int) 3 := ⟨List.mem_of_getElem? (i := 1328) (by decide +kernel), List.mem_of_getElem? (i := 80) (by decide +kernel), by decide +kernel, by decide +kernel⟩
theorem yv_X10_footOf : gz_yv yX10_footOf 10 := ⟨List.mem_of_getElem? (i := 1326) (by decide +kernel), List.mem_of_getElem? (i := 1327) (by decide +kernel), by decide, _, rfl, rfl⟩
theorem yl_X10_holds : gz_yl yX10_holds cX10_holds 2 (some .int) 1 := ⟨List.mem_of_getElem? (i := 1197) (by decide +kernel), List.mem_of_getElem? (i := 80) (by decide +kernel), by decide +kernel, by decide +kernel⟩
theorem yv_X10_holds : gz_yv yX10_holds 10 := ⟨List.mem_of_getElem? (i := 1195) (by decide +kernel), List.mem_of_getElem? (i := 1196) (by decide +kernel), by decide, _, rfl, rfl⟩
theorem yl_X10_idle : gz_yl yX10_idle cX10_idle 4 (some .int) 1 := ⟨List.mem_of_getElem? (i := 1511) (by decide +kernel), List.mem_of_getElem? (i := 80) (by decide +kernel), by decide +kernel, by decide +kernel⟩
theorem yv_X10_idle : gz_yv yX10_idle 10 := ⟨List.mem_of_getElem? (i := 1509) (by decide +kernel), List.mem_of_getElem? (i := 1510) (by decide +kernel), by decide, _, rfl, rfl⟩
theorem yl_X10_image : gz_yl yX10_image cX10_image 1 (some .int) 0 := ⟨List.mem_of_getElem? (i := 1535) (by decide +kernel), List.mem_of_getElem? (i := 80) (by decide +kernel), by decide +kernel, by decide +kernel⟩
theorem yv_X10_image : gz_yv yX10_image 10 := ⟨List.mem_of_getElem? (i := 1533) (by decide +kernel), List.mem_of_getElem? (i := 1534) (by decide +kernel), by decide, _, rfl, rfl⟩
theorem yl_X10_judge : gz_yl yX10_judge cX10_judge 7 (some .int) 3 := ⟨List.mem_of_getElem? (i := 1410) (by decide +kernel), List.mem_of_getElem? (i := 80) (by decide +kernel), by decide +kernel, by decide +kernel⟩
theorem yv_X10_judge : gz_yv yX10_judge 10 := ⟨List.mem_of_getElem? (i := 1408) (by decide +kernel), List.mem_of_getElem? (i := 1409) (by decide +kernel), by decide, _, rfl, rfl⟩
theorem yl_X10_keeps : gz_yl yX10_keeps cX10_keeps 8 (some .int) 3 := ⟨List.mem_of_getElem? (i := 1491) (by decide +kernel), List.mem_of_getElem? (i := 80) (by decide +kernel), by decide +kernel, by decide +kernel⟩
theorem yv_X10_keeps : gz_yv yX10_keeps 10 := ⟨List.mem_of_getElem? (i := 1489) (by decide +kernel), List.mem_of_getElem? (i := 1490) (by decide +kernel), by decide, _, rfl, rfl⟩
theorem yl_X10_lastOf : gz_yl yX10_lastOf cX10_lastOf 4 (some .int) 3 := ⟨List.mem_of_getElem? (i := 1332) (by decide +kernel), List.mem_of_getElem? (i := 80) (by decide +kernel), by decide +kernel, by decide +kernel⟩
theorem yv_X10_lastOf : gz_yv yX10_lastOf 10 := ⟨List.mem_of_getElem? (i := 1330) (by decide +kernel), List.mem_of_getElem? (i := 1331) (by decide +kernel), by decide, _, rfl, rfl⟩
theorem yl_X10_lend : gz_yl yX10_lend cX10_lend 5 (some .int) 4 := ⟨List.mem_of_getElem? (i := 1495) (by decide +kernel), List.mem_of_getElem? (i := 80) (by decide +kernel), by decide +kernel, by decide +kernel⟩
theorem yv_X10_lend : gz_yv yX10_lend 10 := ⟨List.mem_of_getElem? (i := 1493) (by decide +kernel), List.mem_of_getElem? (i := 1494) (by decide +kernel), by decide, _, rfl, rfl⟩
theorem yl_X10_line : gz_yl yX10_line cX10_line 12 (some .int) 4 := ⟨List.mem_of_getElem? (i := 1465) (by decide +kernel), List.mem_of_getElem? (i := 80) (by decide +kernel), by decide +kernel, by decide +kernel⟩
theorem yv_X10_line : gz_yv yX10_line 10 := ⟨List.mem_of_getElem? (i := 1463) (by decide +kernel), List.mem_of_getElem? (i := 1464) (by decide +kernel), by decide, _, rfl, rfl⟩
theorem yl_X10_more : gz_yl yX10_more cX10_more 3 (some .int) 2 := ⟨List.mem_of_getElem? (i := 1429) (by decide +kernel), List.mem_of_getElem? (i := 80) (by decide +kernel), by decide +kernel, by decide +kernel⟩
theorem yv_X10_more : gz_yv yX10_more 10 := ⟨List.mem_of_getElem? (i := 1427) (by decide +kernel), List.mem_of_getElem? (i := 1428) (by decide +kernel), by decide, _, rfl, rfl⟩
theorem yl_X10_out : gz_yl yX10_out cX10_out 5 (some .int) 2 := ⟨List.mem_of_getElem? (i := 1406) (by decide +kernel), List.mem_of_getElem? (i := 80) (by decide +kernel), by decide +kernel, by decide +kernel⟩
theorem yv_X10_out : gz_yv yX10_out 10 := ⟨List.mem_of_getElem? (i := 1404) (by decide +kernel), List.mem_of_getElem? (i := 1405) (by decide +kernel), by decide, _, rfl, rfl⟩
theorem yl_X10_row : gz_yl yX10_row cX10_row 5 (some .int) 3 := ⟨List.mem_of_getElem? (i := 1168) (by decide +kernel), List.mem_of_getElem? (i := 80) (by decide +kernel), by decide +kernel, by decide +kernel⟩
theorem yv_X10_row : gz_yv yX10_row 10 := ⟨List.mem_of_getElem? (i := 1166) (by decide +kernel), List.mem_of_getElem? (i := 1167) (by decide +kernel), by decide, _, rfl, rfl⟩
theorem yl_X10_says : gz_yl yX10_says cX10_says 4 (some .int) 2 := ⟨List.mem_of_getElem? (i := 1208) (by decide +kernel), List.mem_of_getElem? (i := 80) (by decide +kernel), by decide +kernel, by decide +kernel⟩
theorem yv_X10_says : gz_yv yX10_says 10 := ⟨List.mem_of_getElem? (i := 1206) (by decide +kernel), List.mem_of_getElem? (i := 1207) (by decide +kernel), by decide, _, rfl, rfl⟩
theorem yl_X10_search : gz_yl yX10_search cX10_search 2 (some .int) 1 := ⟨List.mem_of_getElem? (i := 1531) (by decide +kernel), List.mem_of_getElem? (i := 80) (by decide +kernel), by decide +kernel, by decide +kernel⟩
theorem yv_X10_search : gz_yv yX10_search 10 := ⟨List.mem_of_getElem? (i := 1529) (by decide +kernel), List.mem_of_getElem? (i := 1530) (by decide +kernel), by decide, _, rfl, rfl⟩
theorem yl_X10_set : gz_yl yX10_set cX10_set 5 (some .int) 3 := ⟨List.mem_of_getElem? (i := 1182) (by decide +kernel), List.mem_of_getElem? (i := 80) (by decide +kernel), by decide +kernel, by decide +kernel⟩
theorem yv_X10_set : gz_yv yX10_set 10 := ⟨List.mem_of_getElem? (i := 1180) (by decide +kernel), List.mem_of_getElem? (i := 1181) (by decide +kernel), by decide, _, rfl, rfl⟩
theorem yl_X10_shod : gz_yl yX10_shod cX10_shod 9 (some .int) 2 := ⟨List.mem_of_getElem? (i := 1457) (by decide +kernel), List.mem_of_getElem? (i := 80) (by decide +kernel), by decide +kernel, by decide +kernel⟩
theorem yv_X10_shod : gz_yv yX10_shod 10 := ⟨List.mem_of_getElem? (i := 1455) (by decide +kernel), List.mem_of_getElem? (i := 1456) (by decide +kernel), by decide, _, rfl, rfl⟩
theorem yl_X10_shoes : gz_yl yX10_shoes cX10_shoes 6 (some .int) 2 := ⟨List.mem_of_getElem? (i := 1256) (by decide +kernel), List.mem_of_getElem? (i := 80) (by decide +kernel), by decide +kernel, by decide +kernel⟩
theorem yv_X10_shoes : gz_yv yX10_shoes 10 := ⟨List.mem_of_getElem? (i := 1254) (by decide +kernel), List.mem_of_getElem? (i := 1255) (by decide +kernel), by decide, _, rfl, rfl⟩
theorem yl_X10_status : gz_yl yX10_status cX10_status 4 (some .int) 1 := ⟨List.mem_of_getElem? (i := 1549) (by decide +kernel), List.mem_of_getElem? (i := 80) (by decide +kernel), by decide +kernel, by decide +kernel⟩
theorem yv_X10_status : gz_yv yX10_status 10 := ⟨List.mem_of_getElem? (i := 1547) (by decide +kernel), List.mem_of_getElem? (i := 1548) (by decide +kernel), by decide, _, rfl, rfl⟩
theorem yl_X10_step : gz_yl yX10_step cX10_step 4 (some .int) 1 := ⟨List.mem_of_getElem? (i := 1522) (by decide +kernel), List.mem_of_getElem? (i := 80) (by decide +kernel), by decide +kernel, by decide +kernel⟩
theorem yv_X10_step : gz_yv yX10_step 10 := ⟨List.mem_of_getElem? (i := 1520) (by decide +kernel), List.mem_of_getElem? (i := 1521) (by decide +kernel), by decide, _, rfl, rfl⟩
theorem yl_X10_tool : gz_yl yX10_tool cX10_tool 5 (some .int) 4 := ⟨List.mem_of_getElem? (i := 1201) (by decide +kernel), List.mem_of_getElem? (i := 80) (by decide +kernel), by decide +kernel, by decide +kernel⟩
theorem yv_X10_tool : gz_yv yX10_tool 10 := ⟨List.mem_of_getElem? (i := 1199) (by decide +kernel), List.mem_of_getElem? (i := 1200) (by decide +kernel), by decide, _, rfl, rfl⟩
theorem yl_X10_total : gz_yl yX10_total cX10_total 3 (some .int) 2 := ⟨List.mem_of_getElem? (i := 1390) (by decide +kernel), List.mem_of_getElem? (i := 80) (by decide +kernel), by decide +kernel, by decide +kernel⟩
theorem yv_X10_total : gz_yv yX10_total 10 := ⟨List.mem_of_getElem? (i := 1388) (by decide +kernel), List.mem_of_getElem? (i := 1389) (by decide +kernel), by decide, _, rfl, rfl⟩
theorem yl_X10_tries : gz_yl yX10_tries cX10_tries 5 (some .int) 3 := ⟨List.mem_of_getElem? (i := 1212) (by decide +kernel), List.mem_of_getElem? (i := 80) (by decide +kernel), by decide +kernel, by decide +kernel⟩
theorem yv_X10_tries : gz_yv yX10_tries 10 := ⟨List.mem_of_getElem? (i := 1210) (by decide +kernel), List.mem_of_getElem? (i := 1211) (by decide +kernel), by decide, _, rfl, rfl⟩
theorem yl_X10_valley : gz_yl yX10_valley cX10_valley 2 (some .int) 0 := ⟨List.mem_of_getElem? (i := 1268) (by decide +kernel), List.mem_of_getElem? (i := 80) (by decide +kernel), by decide +kernel, by decide +kernel⟩
theorem yv_X10_valley : gz_yv yX10_valley 10 := ⟨List.mem_of_getElem? (i := 1266) (by decide +kernel), List.mem_of_getElem? (i := 1267) (by decide +kernel), by decide, _, rfl, rfl⟩
theorem yl_X10_valleyOf : gz_yl yX10_valleyOf cX10_valleyOf 3 (some .int) 2 := ⟨List.mem_of_getElem? (i := 1320) (by decide +kernel), List.mem_of_getElem? (i := 80) (by decide +kernel), by decide +kernel, by decide +kernel⟩
theorem yv_X10_valleyOf : gz_yv yX10_valleyOf 10 := ⟨List.mem_of_getElem? (i := 1318) (by decide +kernel), List.mem_of_getElem? (i := 1319) (by decide +kernel), by decide, _, rfl, rfl⟩
theorem yl_X10_whose : gz_yl yX10_whose cX10_whose 4 (some .int) 3 := ⟨List.mem_of_getElem? (i := 1374) (by decide +kernel), List.mem_of_getElem? (i := 80) (by decide +kernel), by decide +kernel, by decide +kernel⟩
theorem yv_X10_whose : gz_yv yX10_whose 10 := ⟨List.mem_of_getElem? (i := 1372) (by decide +kernel), List.mem_of_getElem? (i := 1373) (by decide +kernel), by decide, _, rfl, rfl⟩
theorem yl_X10_wipe : gz_yl yX10_wipe cX10_wipe 2 (some .int) 0 := ⟨List.mem_of_getElem? (i := 1264) (by decide +kernel), List.mem_of_getElem? (i := 80) (by decide +kernel), by decide +kernel, by decide +kernel⟩
theorem yv_X10_wipe : gz_yv yX10_wipe 10 := ⟨List.mem_of_getElem? (i := 1262) (by decide +kernel), List.mem_of_getElem? (i := 1263) (by decide +kernel), by decide, _, rfl, rfl⟩
theorem yl_X10_year : gz_yl yX10_year cX10_year 5 (some .int) 1 := ⟨List.mem_of_getElem? (i := 1358) (by decide +kernel), List.mem_of_getElem? (i := 80) (by decide +kernel), by decide +kernel, by decide +kernel⟩
theorem yv_X10_year : gz_yv yX10_year 10 := ⟨List.mem_of_getElem? (i := 1356) (by decide +kernel), List.mem_of_getElem? (i := 1357) (by decide +kernel), by decide, _, rfl, rfl⟩
theorem yl_X9_alter : gz_yl yX9_alter cX9_alter 9 (some .int) 4 := ⟨List.mem_of_getElem? (i := 735) (by decide +kernel), List.mem_of_getElem? (i := 70) (by decide +kernel), by decide +kernel, by decide +kernel⟩
theorem yv_X9_alter : gz_yv yX9_alter 9 := ⟨List.mem_of_getElem? (i := 733) (by decide +kernel), List.mem_of_getElem? (i := 734) (by decide +kernel), by decide, _, rfl, rfl⟩
theorem yl_X9_back : gz_yl yX9_back cX9_back 1 (some .int) 0 := ⟨List.mem_of_getElem? (i := 1057) (by decide +kernel), List.mem_of_getElem? (i := 70) (by decide +kernel), by decide +kernel, by decide +kernel⟩
theorem yv_X9_back : gz_yv yX9_back 9 := ⟨List.mem_of_getElem? (i := 1055) (by decide +kernel), List.mem_of_getElem? (i := 1056) (by decide +kernel), by decide, _, rfl, rfl⟩
theorem yl_X9_bad : gz_yl yX9_bad cX9_bad 4 (some .int) 3 := ⟨List.mem_of_getElem? (i := 766) (by decide +kernel), List.mem_of_getElem? (i := 70) (by decide +kernel), by decide +kernel, by decide +kernel⟩
theorem yv_X9_bad : gz_yv yX9_bad 9 := ⟨List.mem_of_getElem? (i := 764) (by decide +kernel), List.mem_of_getElem? (i := 765) (by decide +kernel), by decide, _, rfl, rfl⟩
theorem yl_X9_begin : gz_yl yX9_begin cX9_begin 3 (some .int) 2 := ⟨List.mem_of_getElem? (i := 1008) (by decide +kernel), List.mem_of_getElem? (i := 70) (by decide +kernel), by decide +kernel, by decide +kernel⟩
theorem yv_X9_begin : gz_yv yX9_begin 9 := ⟨List.mem_of_getElem? (i := 1006) (by decide +kernel), List.mem_of_getElem? (i := 1007) (by decide +kernel), by decide, _, rfl, rfl⟩
theorem yl_X9_best : gz_yl yX9_best cX9_best 3 (some .int) 2 := ⟨List.mem_of_getElem? (i := 816) (by decide +kernel), List.mem_of_getElem? (i := 70) (by decide +kernel), by decide +kernel, by decide +kernel⟩
theorem yv_X9_best : gz_yv yX9_best 9 := ⟨List.mem_of_getElem? (i := 814) (by decide +kernel), List.mem_of_getElem? (i := 815) (by decide +kernel), by decide, _, rfl, rfl⟩
theorem yl_X9_bound : gz_yl yX9_bound cX9_bound 6 (some .int) 1 := ⟨List.mem_of_getElem? (i := 884) (by decide +kernel), List.mem_of_getElem? (i := 70) (by decide +kernel), by decide +kernel, by decide +kernel⟩
theorem yv_X9_bound : gz_yv yX9_bound 9 := ⟨List.mem_of_getElem? (i := 882) (by decide +kernel), List.mem_of_getElem? (i := 883) (by decide +kernel), by decide, _, rfl, rfl⟩
theorem yl_X9_build : gz_yl yX9_build cX9_build 8 (some .int) 3 := ⟨List.mem_of_getElem? (i := 744) (by decide +kernel), List.mem_of_getElem? (i := 70) (by decide +kernel), by decide +kernel, by decide +kernel⟩
theorem yv_X9_build : gz_yv yX9_build 9 := ⟨List.mem_of_getElem? (i := 742) (by decide +kernel), List.mem_of_getElem? (i := 743) (by decide +kernel), by decide, _, rfl, rfl⟩
theorem yl_X9_carve : gz_yl yX9_carve cX9_carve 7 (some .int) 4 := ⟨List.mem_of_getElem? (i := 739) (by decide +kernel), List.mem_of_getElem? (i := 70) (by decide +kernel), by decide +kernel, by decide +kernel⟩
theorem yv_X9_carve : gz_yv yX9_carve 9 := ⟨List.mem_of_getElem? (i := 737) (by decide +kernel), List.mem_of_getElem? (i := 738) (by decide +kernel), by decide, _, rfl, rfl⟩
theorem yl_X9_changed : gz_yl yX9_changed cX9_changed 3 (some .int) 2 := ⟨List.mem_of_getElem? (i := 872) (by decide +kernel), List.mem_of_getElem? (i := 70) (by decide +kernel), by decide +kernel, by decide +kernel⟩
theorem yv_X9_changed : gz_yv yX9_changed 9 := ⟨List.mem_of_getElem? (i := 870) (by decide +kernel), List.mem_of_getElem? (i := 871) (by decide +kernel), by decide, _, rfl, rfl⟩
theorem yl_X9_copy : gz_yl yX9_copy cX9_copy 9 (some .int) 5 := ⟨List.mem_of_getElem? (i := 451) (by decide +kernel), List.mem_of_getElem? (i := 70) (by decide +kernel), by decide +kernel, by decide +kernel⟩
theorem yv_X9_copy : gz_yv yX9_copy 9 := ⟨List.mem_of_getElem? (i := 449) (by decide +kernel), List.mem_of_getElem? (i := 450) (by decide +kernel), by decide, _, rfl, rfl⟩
theorem yl_X9_corner : gz_yl yX9_corner cX9_corner 3 (some .int) 2 := ⟨List.mem_of_getElem? (i := 952) (by decide +kernel), List.mem_of_getElem? (i := 70) (by decide +kernel), by decide +kernel, by decide +kernel⟩
theorem yv_X9_corner : gz_yv yX9_corner 9 := ⟨List.mem_of_getElem? (i := 950) (by decide +kernel), List.mem_of_getElem? (i := 951) (by decide +kernel), by decide, _, rfl, rfl⟩
theorem yl_X9_corners : gz_yl yX9_corners cX9_corners 2 (some .int) 1 := ⟨List.mem_of_getElem? (i := 943) (by decide +kernel), List.mem_of_getElem? (i := 70) (by decide +kernel), by decide +kernel, by decide +kernel⟩
theorem yv_X9_corners : gz_yv yX9_corners 9 := ⟨List.mem_of_getElem? (i := 941) (by decide +kernel), List.mem_of_getElem? (i := 942) (by decide +kernel), by decide, _, rfl, rfl⟩
theorem yl_X9_does : gz_yl yX9_does cX9_does 4 (some .int) 3 := ⟨List.mem_of_getElem? (i := 761) (by decide +kernel), List.mem_of_getElem? (i := 70) (by decide +kernel), by decide +kernel, by decide +kernel⟩
theorem yv_X9_does : gz_yv yX9_does 9 := ⟨List.mem_of_getElem? (i := 759) (by decide +kernel), List.mem_of_getElem? (i := 760) (by decide +kernel), by decide, _, rfl, rfl⟩
theorem yl_X9_doubt : gz_yl yX9_doubt cX9_doubt 3 (some .int) 2 := ⟨List.mem_of_getElem? (i := 991) (by decide +kernel), List.mem_of_getElem? (i := 70) (by decide +kernel), by decide +kernel, by decide +kernel⟩
theorem yv_X9_doubt : gz_yv yX9_doubt 9 := ⟨List.mem_of_getElem? (i := 989) (by decide +kernel), List.mem_of_getElem? (i := 990) (by decide +kernel), by decide, _, rfl, rfl⟩
theorem yl_X9_element : gz_yl yX9_element cX9_element 3 (some .long) 2 := ⟨List.mem_of_getElem? (i := 471) (by decide +kernel), List.mem_of_getElem? (i := 70) (by decide +kernel), by decide +kernel, by decide +kernel⟩
theorem yv_X9_element : gz_yv yX9_element 9 := ⟨List.mem_of_getElem? (i := 469) (by decide +kernel), List.mem_of_getElem? (i := 470) (by decide +kernel), by decide, _, rfl, rfl⟩
theorem yl_X9_enough : gz_yl yX9_enough cX9_enough 4 (some .int) 2 := ⟨List.mem_of_getElem? (i := 868) (by decide +kernel), List.mem_of_getElem? (i := 70) (by decide +kernel), by decide +kernel, by decide +kernel⟩
theorem yv_X9_enough : gz_yv yX9_enough 9 := ⟨List.mem_of_getElem? (i := 866) (by decide +kernel), List.mem_of_getElem? (i := 867) (by decide +kernel), by decide, _, rfl, rfl⟩
theorem yl_X9_fair : gz_yl yX9_fair cX9_fair 3 (some .int) 2 := ⟨List.mem_of_getElem? (i := 888) (by decide +kernel), List.mem_of_getElem? (i := 70) (by decide +kernel), by decide +kernel, by decide +kernel⟩
theorem yv_X9_fair : gz_yv yX9_fair 9 := ⟨List.mem_of_getElem? (i := 886) (by decide +kernel), List.mem_of_getElem? (i := 887) (by decide +kernel), by decide, _, rfl, rfl⟩
theorem yl_X9_feed : gz_yl yX9_feed cX9_feed 4 (some .int) 2 := ⟨List.mem_of_getElem? (i := 559) (by decide +kernel), List.mem_of_getElem? (i := 70) (by decide +kernel), by decide +kernel, by decide +kernel⟩
theorem yv_X9_feed : gz_yv yX9_feed 9 := ⟨List.mem_of_getElem? (i := 557) (by decide +kernel), List.mem_of_getElem? (i := 558) (by decide +kernel), by decide, _, rfl, rfl⟩
theorem yl_X9_feet : gz_yl yX9_feet cX9_feet 7 (some .int) 2 := ⟨List.mem_of_getElem? (i := 723) (by decide +kernel), List.mem_of_getElem? (i := 70) (by decide +kernel), by decide +kernel, by decide +kernel⟩
theorem yv_X9_feet : gz_yv yX9_feet 9 := ⟨List.mem_of_getElem? (i := 721) (by decide +kernel), List.mem_of_getElem? (i := 722) (by decide +kernel), by decide, _, rfl, rfl⟩
theorem yl_X9_footOf : gz_yl yX9_footOf cX9_footOf 4 (some .int) 3 := ⟨List.mem_of_getElem? (i := 709) (by decide +kernel), List.mem_of_getElem? (i := 70) (by decide +kernel), by decide +kernel, by decide +kernel⟩
theorem yv_X9_footOf : gz_yv yX9_footOf 9 := ⟨List.mem_of_getElem? (i := 707) (by decide +kernel), List.mem_of_getElem? (i := 708) (by decide +kernel), by decide, _, rfl, rfl⟩
theorem yl_X9_holds : gz_yl yX9_holds cX9_holds 2 (some .int) 1 := ⟨List.mem_of_getElem? (i := 480) (by decide +kernel), List.mem_of_getElem? (i := 70) (by decide +kernel), by decide +kernel, by decide +kernel⟩
theorem yv_X9_holds : gz_yv yX9_holds 9 := ⟨List.mem_of_getElem? (i := 478) (by decide +kernel), List.mem_of_getElem? (i := 479) (by decide +kernel), by decide, _, rfl, rfl⟩
theorem yl_X9_idle : gz_yl yX9_idle cX9_idle 5 (some .int) 1 := ⟨List.mem_of_getElem? (i := 1004) (by decide +kernel), List.mem_of_getElem? (i := 70) (by decide +kernel), by decide +kernel, by decide +kernel⟩
theorem yv_X9_idle : gz_yv yX9_idle 9 := ⟨List.mem_of_getElem? (i := 1002) (by decide +kernel), List.mem_of_getElem? (i := 1003) (by decide +kernel), by decide, _, rfl, rfl⟩
theorem yl_X9_image : gz_yl yX9_image cX9_image 1 (some .int) 0 := ⟨List.mem_of_getElem? (i := 1044) (by decide +kernel), List.mem_of_getElem? (i := 70) (by decide +kernel), by decide +kernel, by decide +kernel⟩
theorem yv_X9_image : gz_yv yX9_image 9 := ⟨List.mem_of_getElem? (i := 1042) (by decide +kernel), List.mem_of_getElem? (i := 1043) (by decide +kernel), by decide, _, rfl, rfl⟩
theorem yl_X9_judge : gz_yl yX9_judge cX9_judge 7 (some .int) 3 := ⟨List.mem_of_getElem? (i := 808) (by decide +kernel), List.mem_of_getElem? (i := 70) (by decide +kernel), by decide +kernel, by decide +kernel⟩
theorem yv_X9_judge : gz_yv yX9_judge 9 := ⟨List.mem_of_getElem? (i := 806) (by decide +kernel), List.mem_of_getElem? (i := 807) (by decide +kernel), by decide, _, rfl, rfl⟩
theorem yl_X9_keeps : gz_yl yX9_keeps cX9_keeps 7 (some .int) 3 := ⟨List.mem_of_getElem? (i := 975) (by decide +kernel), List.mem_of_getElem? (i := 70) (by decide +kernel), by decide +kernel, by decide +kernel⟩
theorem yv_X9_keeps : gz_yv yX9_keeps 9 := ⟨List.mem_of_getElem? (i := 973) (by decide +kernel), List.mem_of_getElem? (i := 974) (by decide +kernel), by decide, _, rfl, rfl⟩
theorem yl_X9_lastOf : gz_yl yX9_lastOf cX9_lastOf 4 (some .int) 3 := ⟨List.mem_of_getElem? (i := 714) (by decide +kernel), List.mem_of_getElem? (i := 70) (by decide +kernel), by decide +kernel, by decide +kernel⟩
theorem yv_X9_lastOf : gz_yv yX9_lastOf 9 := ⟨List.mem_of_getElem? (i := 712) (by decide +kernel), List.mem_of_getElem? (i := 713) (by decide +kernel), by decide, _, rfl, rfl⟩
theorem yl_X9_lend : gz_yl yX9_lend cX9_lend 7 (some .int) 4 := ⟨List.mem_of_getElem? (i := 984) (by decide +kernel), List.mem_of_getElem? (i := 70) (by decide +kernel), by decide +kernel, by decide +kernel⟩
theorem yv_X9_lend : gz_yv yX9_lend 9 := ⟨List.mem_of_getElem? (i := 982) (by decide +kernel), List.mem_of_getElem? (i := 983) (by decide +kernel), by decide, _, rfl, rfl⟩
theorem yl_X9_line : gz_yl yX9_line cX9_line 7 (some .int) 4 := ⟨List.mem_of_getElem? (i := 908) (by decide +kernel), List.mem_of_getElem? (i := 70) (by decide +kernel), by decide +kernel, by decide +kernel⟩
theorem yv_X9_line : gz_yv yX9_line 9 := ⟨List.mem_of_getElem? (i := 906) (by decide +kernel), List.mem_of_getElem? (i := 907) (by decide +kernel), by decide, _, rfl, rfl⟩
theorem yl_X9_more : gz_yl yX9_more cX9_more 3 (some .int) 2 := ⟨List.mem_of_getElem? (i := 864) (by decide +kernel), List.mem_of_getElem? (i := 70) (by decide +kernel), by decide +kernel, by decide +kernel⟩
theorem yv_X9_more : gz_yv yX9_more 9 := ⟨List.mem_of_getElem? (i := 862) (by decide +kernel), List.mem_of_getElem? (i := 863) (by decide +kernel), by decide, _, rfl, rfl⟩
theorem yl_X9_out : gz_yl yX9_out cX9_out 6 (some .int) 2 := ⟨List.mem_of_getElem? (i := 804) (by decide +kernel), List.mem_of_getElem? (i := 70) (by decide +kernel), by decide +kernel, by decide +kernel⟩
theorem yv_X9_out : gz_yv yX9_out 9 := ⟨List.mem_of_getElem? (i := 802) (by decide +kernel), List.mem_of_getElem? (i := 803) (by decide +kernel), by decide, _, rfl, rfl⟩
theorem yl_X9_row : gz_yl yX9_row cX9_row 4 (some .int) 3 := ⟨List.mem_of_getElem? (i := 410) (by decide +kernel), List.mem_of_getElem? (i := 70) (by decide +kernel), by decide +kernel, by decide +kernel⟩
theorem yv_X9_row : gz_yv yX9_row 9 := ⟨List.mem_of_getElem? (i := 408) (by decide +kernel), List.mem_of_getElem? (i := 409) (by decide +kernel), by decide, _, rfl, rfl⟩
theorem yl_X9_says : gz_yl yX9_says cX9_says 4 (some .int) 2 := ⟨List.mem_of_getElem? (i := 492) (by decide +kernel), List.mem_of_getElem? (i := 70) (by decide +kernel), by decide +kernel, by decide +kernel⟩
theorem yv_X9_says : gz_yv yX9_says 9 := ⟨List.mem_of_getElem? (i := 490) (by decide +kernel), List.mem_of_getElem? (i := 491) (by decide +kernel), by decide, _, rfl, rfl⟩
theorem yl_X9_search : gz_yl yX9_search cX9_search 3 (some .int) 1 := ⟨List.mem_of_getElem? (i := 1040) (by decide +kernel), List.mem_of_getElem? (i := 70) (by decide +kernel), by decide +kernel, by decide +kernel⟩
theorem yv_X9_search : gz_yv yX9_search 9 := ⟨List.mem_of_getElem? (i := 1038) (by decide +kernel), List.mem_of_getElem? (i := 1039) (by decide +kernel), by decide, _, rfl, rfl⟩
theorem yl_X9_set : gz_yl yX9_set cX9_set 6 (some .int) 3 := ⟨List.mem_of_getElem? (i := 431) (by decide +kernel), List.mem_of_getElem? (i := 70) (by decide +kernel), by decide +kernel, by decide +kernel⟩
theorem yv_X9_set : gz_yv yX9_set 9 := ⟨List.mem_of_getElem? (i := 429) (by decide +kernel), List.mem_of_getElem? (i := 430) (by decide +kernel), by decide, _, rfl, rfl⟩
theorem yl_X9_shod : gz_yl yX9_shod cX9_shod 3 (some .int) 2 := ⟨List.mem_of_getElem? (i := 900) (by decide +kernel), List.mem_of_getElem? (i := 70) (by decide +kernel), by decide +kernel, by decide +kernel⟩
theorem yv_X9_shod : gz_yv yX9_shod 9 := ⟨List.mem_of_getElem? (i := 898) (by decide +kernel), List.mem_of_getElem? (i := 899) (by decide +kernel), by decide, _, rfl, rfl⟩
theorem yl_X9_shoes : gz_yl yX9_shoes cX9_shoes 7 (some .int) 2 := ⟨List.mem_of_getElem? (i := 555) (by decide +kernel), List.mem_of_getElem? (i := 70) (by decide +kernel), by decide +kernel, by decide +kernel⟩
theorem yv_X9_shoes : gz_yv yX9_shoes 9 := ⟨List.mem_of_getElem? (i := 553) (by decide +kernel), List.mem_of_getElem? (i := 554) (by decide +kernel), by decide, _, rfl, rfl⟩
theorem yl_X9_status : gz_yl yX9_status cX9_status 2 (some .int) 1 := ⟨List.mem_of_getElem? (i := 1061) (by decide +kernel), List.mem_of_getElem? (i := 70) (by decide +kernel), by decide +kernel, by decide +kernel⟩
theorem yv_X9_status : gz_yv yX9_status 9 := ⟨List.mem_of_getElem? (i := 1059) (by decide +kernel), List.mem_of_getElem? (i := 1060) (by decide +kernel), by decide, _, rfl, rfl⟩
theorem yl_X9_step : gz_yl yX9_step cX9_step 2 (some .int) 1 := ⟨List.mem_of_getElem? (i := 1025) (by decide +kernel), List.mem_of_getElem? (i := 70) (by decide +kernel), by decide +kernel, by decide +kernel⟩
theorem yv_X9_step : gz_yv yX9_step 9 := ⟨List.mem_of_getElem? (i := 1023) (by decide +kernel), List.mem_of_getElem? (i := 1024) (by decide +kernel), by decide, _, rfl, rfl⟩
theorem yl_X9_tool : gz_yl yX9_tool cX9_tool 5 (some .int) 4 := ⟨List.mem_of_getElem? (i := 484) (by decide +kernel), List.mem_of_getElem? (i := 70) (by decide +kernel), by decide +kernel, by decide +kernel⟩
theorem yv_X9_tool : gz_yv yX9_tool 9 := ⟨List.mem_of_getElem? (i := 482) (by decide +kernel), List.mem_of_getElem? (i := 483) (by decide +kernel), by decide, _, rfl, rfl⟩
theorem yl_X9_total : gz_yl yX9_total cX9_total 6 (some .int) 2 := ⟨List.mem_of_getElem? (i := 788) (by decide +kernel), List.mem_of_getElem? (i := 70) (by decide +kernel), by decide +kernel, by decide +kernel⟩
theorem yv_X9_total : gz_yv yX9_total 9 := ⟨List.mem_of_getElem? (i := 786) (by decide +kernel), List.mem_of_getElem? (i := 787) (by decide +kernel), by decide, _, rfl, rfl⟩
theorem yl_X9_tries : gz_yl yX9_tries cX9_tries 6 (some .int) 3 := ⟨List.mem_of_getElem? (i := 504) (by decide +kernel), List.mem_of_getElem? (i := 70) (by decide +kernel), by decide +kernel, by decide +kernel⟩
theorem yv_X9_tries : gz_yv yX9_tries 9 := ⟨List.mem_of_getElem? (i := 502) (by decide +kernel), List.mem_of_getElem? (i := 503) (by decide +kernel), by decide, _, rfl, rfl⟩
theorem yl_X9_valley : gz_yl yX9_valley cX9_valley 3 (some .int) 0 := ⟨List.mem_of_getElem? (i := 571) (by decide +kernel), List.mem_of_getElem? (i := 70) (by decide +kernel), by decide +kernel, by decide +kernel⟩
theorem yv_X9_valley : gz_yv yX9_valley 9 := ⟨List.mem_of_getElem? (i := 569) (by decide +kernel), List.mem_of_getElem? (i := 570) (by decide +kernel), by decide, _, rfl, rfl⟩
theorem yl_X9_valleyOf : gz_yl yX9_valleyOf cX9_valleyOf 4 (some .int) 2 := ⟨List.mem_of_getElem? (i := 701) (by decide +kernel), List.mem_of_getElem? (i := 70) (by decide +kernel), by decide +kernel, by decide +kernel⟩
theorem yv_X9_valleyOf : gz_yv yX9_valleyOf 9 := ⟨List.mem_of_getElem? (i := 699) (by decide +kernel), List.mem_of_getElem? (i := 700) (by decide +kernel), by decide, _, rfl, rfl⟩
theorem yl_X9_whose : gz_yl yX9_whose cX9_whose 4 (some .int) 3 := ⟨List.mem_of_getElem? (i := 770) (by decide +kernel), List.mem_of_getElem? (i := 70) (by decide +kernel), by decide +kernel, by decide +kernel⟩
theorem yv_X9_whose : gz_yv yX9_whose 9 := ⟨List.mem_of_getElem? (i := 768) (by decide +kernel), List.mem_of_getElem? (i := 769) (by decide +kernel), by decide, _, rfl, rfl⟩
theorem yl_X9_wipe : gz_yl yX9_wipe cX9_wipe 2 (some .int) 0 := ⟨List.mem_of_getElem? (i := 567) (by decide +kernel), List.mem_of_getElem? (i := 70) (by decide +kernel), by decide +kernel, by decide +kernel⟩
theorem yv_X9_wipe : gz_yv yX9_wipe 9 := ⟨List.mem_of_getElem? (i := 565) (by decide +kernel), List.mem_of_getElem? (i := 566) (by decide +kernel), by decide, _, rfl, rfl⟩
theorem yl_X9_year : gz_yl yX9_year cX9_year 6 (some .int) 1 := ⟨List.mem_of_getElem? (i := 752) (by decide +kernel), List.mem_of_getElem? (i := 70) (by decide +kernel), by decide +kernel, by decide +kernel⟩
theorem yv_X9_year : gz_yv yX9_year 9 := ⟨List.mem_of_getElem? (i := 750) (by decide +kernel), List.mem_of_getElem? (i := 751) (by decide +kernel), by decide, _, rfl, rfl⟩
theorem law_c_row {C : gz_C} {IV : gz_M → Prop} {fu x mo b L cs sl : Nat} {xs : Nat → Int32} {z : Int32} {M : gz_M} (hop : gz_op_row IV fu x mo) (hI : IV M) (hC : gz_ok C code RL 4) (hR0 : gz_cy C 12 440 600000 7302250) (hXs : va_X b L xs C.1.2.2.2.2 C.1.2.2.2.2.heap) (hbl : b < C.1.2.2.2.2.heap.size) (hbA : ¬ gz_A C.2.2.2 b) (h1 : vp_in (z + (1 : Int32)) L) (h2 : vp_in (z + (2 : Int32)) L) (h3 : vp_in (z + (3 : Int32)) L) (h4 : vp_in (z + (4 : Int32)) L) (h5 : vp_in (z + (5 : Int32)) L) (hcr : cs + 43 ≤ 600000 ∧ sl + 1332 ≤ 7302250) (hk : ∀ M2, IV M2 → gz_go C (cs) (sl) M2 [(0, .ref b), (1, .ref x), (2, .ref mo), (3, .int z)] 1861 []) : gz_go C cs sl M [(0, .ref b), (1, .ref x), (2, .ref mo), (3, .int z)] 232 [] := by
  obtain ⟨r, M1, M2, e1, e2, hI2⟩ := hop M ((xs ((z + (1 : Int32))).toNatClampNeg)) ((xs ((z + (2 : Int32))).toNatClampNeg)) ((xs ((z + (3 : Int32))).toNatClampNeg)) hI
  have hroom : cs + 0 ≤ 600000 ∧ sl + 0 ≤ 7302250 := ⟨by omega, by omega⟩
  have g1 := e1
  unfold f_X9_row at g1
  have g2 := e2
  unfold f_X10_row at g2
  refine gz_aload_n 232 hC 1 dL_law_232 rfl rfl ?_
  refine gz_aload_n 233 hC 0 dL_law_233 rfl rfl ?_
  refine gz_iload_n 234 hC 3 dL_law_234 rfl rfl ?_
  refine gz_iconst 235 hC (1 : Int32) dL_law_235 (by decide) ?_
  refine gz_iadd 236 hC dL_law_236 ?_
  refine gz_sldR 237 hC hXs hbl hbA h1 dL_law_237 ?_
  refine gz_aload_n 238 hC 0 dL_law_238 rfl rfl ?_
  refine gz_iload_n 239 hC 3 dL_law_239 rfl rfl ?_
  refine gz_iconst 240 hC (2 : Int32) dL_law_240 (by decide) ?_
  refine gz_iadd 241 hC dL_law_241 ?_
  refine gz_sldR 242 hC hXs hbl hbA h2 dL_law_242 ?_
  refine gz_aload_n 243 hC 0 dL_law_243 rfl rfl ?_
  refine gz_iload_n 244 hC 3 dL_law_244 rfl rfl ?_
  refine gz_iconst 245 hC (3 : Int32) dL_law_245 (by decide) ?_
  refine gz_iadd 246 hC dL_law_246 ?_
  refine gz_sldR 247 hC hXs hbl hbA h3 dL_law_247 ?_
  refine gz_cvR (st := []) 248 hC hR0 [.int (xs ((z + (1 : Int32))).toNatClampNeg), .int (xs ((z + (2 : Int32))).toNatClampNeg), .int (xs ((z + (3 : Int32))).toNatClampNeg)] yl_X9_row yv_X9_row q_407 ⟨Nat.le_of_ble_eq_true rfl, Nat.le_of_ble_eq_true rfl⟩ (gz_gd_some g1).1 (ct_X9_row _ _ fu M x (xs ((z + (1 : Int32))).toNatClampNeg) (xs ((z + (2 : Int32))).toNatClampNeg) (xs ((z + (3 : Int32))).toNatClampNeg) (r, M1) e1) rfl rfl (Nat.le_of_ble_eq_true rfl) dL_law_248 hroom ?_
  refine gz_aload_n 251 hC 2 dL_law_251 rfl rfl ?_
  refine gz_aload_n 252 hC 0 dL_law_252 rfl rfl ?_
  refine gz_iload_n 253 hC 3 dL_law_253 rfl rfl ?_
  refine gz_iconst 254 hC (1 : Int32) dL_law_254 (by decide) ?_
  refine gz_iadd 255 hC dL_law_255 ?_
  refine gz_sldR 256 hC hXs hbl hbA h1 dL_law_256 ?_
  refine gz_aload_n 257 hC 0 dL_law_257 rfl rfl ?_
  refine gz_iload_n 258 hC 3 dL_law_258 rfl rfl ?_
  refine gz_iconst 259 hC (2 : Int32) dL_law_259 (by decide) ?_
  refine gz_iadd 260 hC dL_law_260 ?_
  refine gz_sldR 261 hC hXs hbl hbA h2 dL_law_261 ?_
  refine gz_aload_n 262 hC 0 dL_law_262 rfl rfl ?_
  refine gz_iload_n 263 hC 3 dL_law_263 rfl rfl ?_
  refine gz_iconst 264 hC (3 : Int32) dL_law_264 (by decide) ?_
  refine gz_iadd 265 hC dL_law_265 ?_
  refine gz_sldR 266 hC hXs hbl hbA h3 dL_law_266 ?_
  refine gz_cvR (st := [.int r]) 267 hC hR0 [.int (xs ((z + (1 : Int32))).toNatClampNeg), .int (xs ((z + (2 : Int32))).toNatClampNeg), .int (xs ((z + (3 : Int32))).toNatClampNeg)] yl_X10_row yv_X10_row q_1165 ⟨Nat.le_of_ble_eq_true rfl, Nat.le_of_ble_eq_true rfl⟩ (gz_gd_some g2).1 (ct_X10_row _ _ fu M1 mo (xs ((z + (1 : Int32))).toNatClampNeg) (xs ((z + (2 : Int32))).toNatClampNeg) (xs ((z + (3 : Int32))).toNatClampNeg) (r, M2) e2) rfl rfl (Nat.le_of_ble_eq_true rfl) dL_law_267 hroom ?_
  refine gz_icmp_eq 270 1861 hC (A := some ()) (B := none) (y := ()) dL_law_270 (by decide) (if_pos rfl) (fun _ => ?_) (fun h => nomatch h)
  exact hk _ hI2
theorem law_c_set {C : gz_C} {IV : gz_M → Prop} {fu x mo b L cs sl : Nat} {xs : Nat → Int32} {z : Int32} {M : gz_M} (hop : gz_op_set IV fu x mo) (hI : IV M) (hC : gz_ok C code RL 4) (hR0 : gz_cy C 12 440 600000 7302250) (hXs : va_X b L xs C.1.2.2.2.2 C.1.2.2.2.2.heap) (hbl : b < C.1.2.2.2.2.heap.size) (hbA : ¬ gz_A C.2.2.2 b) (h1 : vp_in (z + (1 : Int32)) L) (h2 : vp_in (z + (2 : Int32)) L) (h3 : vp_in (z + (3 : Int32)) L) (h4 : vp_in (z + (4 : Int32)) L) (h5 : vp_in (z + (5 : Int32)) L) (hcr : cs + 43 ≤ 600000 ∧ sl + 1332 ≤ 7302250) (hk : ∀ M2, IV M2 → gz_go C (cs) (sl) M2 [(0, .ref b), (1, .ref x), (2, .ref mo), (3, .int z)] 1861 []) : gz_go C cs sl M [(0, .ref b), (1, .ref x), (2, .ref mo), (3, .int z)] 275 [] := by
  obtain ⟨r, M1, M2, e1, e2, hI2⟩ := hop M ((xs ((z + (1 : Int32))).toNatClampNeg)) ((xs ((z + (2 : Int32))).toNatClampNeg)) (((((xs ((z + (3 : Int32))).toNatClampNeg)).toInt64 <<< (((32 : Int32)).toInt64 &&& 63)) ||| (((xs ((z + (4 : Int32))).toNatClampNeg)).toInt64 &&& (4294967295 : Int64)))) hI
  have hroom : cs + 0 ≤ 600000 ∧ sl + 0 ≤ 7302250 := ⟨by omega, by omega⟩
  have g1 := e1
  unfold f_X9_set at g1
  have g2 := e2
  unfold f_X10_set at g2
  refine gz_aload_n 275 hC 1 dL_law_275 rfl rfl ?_
  refine gz_aload_n 276 hC 0 dL_law_276 rfl rfl ?_
  refine gz_iload_n 277 hC 3 dL_law_277 rfl rfl ?_
  refine gz_iconst 278 hC (1 : Int32) dL_law_278 (by decide) ?_
  refine gz_iadd 279 hC dL_law_279 ?_
  refine gz_sldR 280 hC hXs hbl hbA h1 dL_law_280 ?_
  refine gz_aload_n 281 hC 0 dL_law_281 rfl rfl ?_
  refine gz_iload_n 282 hC 3 dL_law_282 rfl rfl ?_
  refine gz_iconst 283 hC (2 : Int32) dL_law_283 (by decide) ?_
  refine gz_iadd 284 hC dL_law_284 ?_
  refine gz_sldR 285 hC hXs hbl hbA h2 dL_law_285 ?_
  refine gz_aload_n 286 hC 0 dL_law_286 rfl rfl ?_
  refine gz_iload_n 287 hC 3 dL_law_287 rfl rfl ?_
  refine gz_iconst 288 hC (3 : Int32) dL_law_288 (by decide) ?_
  refine gz_iadd 289 hC dL_law_289 ?_
  refine gz_sldR 290 hC hXs hbl hbA h3 dL_law_290 ?_
  refine gz_i2l 291 hC dL_law_291 ?_
  refine gz_bipush 292 hC (32 : Int32) dL_law_292 (by decide) ?_
  refine gz_lshl 294 hC dL_law_294 ?_
  refine gz_aload_n 295 hC 0 dL_law_295 rfl rfl ?_
  refine gz_iload_n 296 hC 3 dL_law_296 rfl rfl ?_
  refine gz_iconst 297 hC (4 : Int32) dL_law_297 (by decide) ?_
  refine gz_iadd 298 hC dL_law_298 ?_
  refine gz_sldR 299 hC hXs hbl hbA h4 dL_law_299 ?_
  refine gz_i2l 300 hC dL_law_300 ?_
  refine gz_ldc2 301 hC dL_law_301 q_1552 ?_
  refine gz_land 304 hC dL_law_304 ?_
  refine gz_lor 305 hC dL_law_305 ?_
  refine gz_cvR (st := []) 306 hC hR0 [.int (xs ((z + (1 : Int32))).toNatClampNeg), .int (xs ((z + (2 : Int32))).toNatClampNeg), .long ((((xs ((z + (3 : Int32))).toNatClampNeg)).toInt64 <<< (((32 : Int32)).toInt64 &&& 63)) ||| (((xs ((z + (4 : Int32))).toNatClampNeg)).toInt64 &&& (4294967295 : Int64)))] yl_X9_set yv_X9_set q_428 ⟨Nat.le_of_ble_eq_true rfl, Nat.le_of_ble_eq_true rfl⟩ (gz_gd_some g1).1 (ct_X9_set _ _ fu M x (xs ((z + (1 : Int32))).toNatClampNeg) (xs ((z + (2 : Int32))).toNatClampNeg) ((((xs ((z + (3 : Int32))).toNatClampNeg)).toInt64 <<< (((32 : Int32)).toInt64 &&& 63)) ||| (((xs ((z + (4 : Int32))).toNatClampNeg)).toInt64 &&& (4294967295 : Int64))) (r, M1) e1) rfl rfl (Nat.le_of_ble_eq_true rfl) dL_law_306 hroom ?_
  refine gz_aload_n 309 hC 2 dL_law_309 rfl rfl ?_
  refine gz_aload_n 310 hC 0 dL_law_310 rfl rfl ?_
  refine gz_iload_n 311 hC 3 dL_law_311 rfl rfl ?_
  refine gz_iconst 312 hC (1 : Int32) dL_law_312 (by decide) ?_
  refine gz_iadd 313 hC dL_law_313 ?_
  refine gz_sldR 314 hC hXs hbl hbA h1 dL_law_314 ?_
  refine gz_aload_n 315 hC 0 dL_law_315 rfl rfl ?_
  refine gz_iload_n 316 hC 3 dL_law_316 rfl rfl ?_
  refine gz_iconst 317 hC (2 : Int32) dL_law_317 (by decide) ?_
  refine gz_iadd 318 hC dL_law_318 ?_
  refine gz_sldR 319 hC hXs hbl hbA h2 dL_law_319 ?_
  refine gz_aload_n 320 hC 0 dL_law_320 rfl rfl ?_
  refine gz_iload_n 321 hC 3 dL_law_321 rfl rfl ?_
  refine gz_iconst 322 hC (3 : Int32) dL_law_322 (by decide) ?_
  refine gz_iadd 323 hC dL_law_323 ?_
  refine gz_sldR 324 hC hXs hbl hbA h3 dL_law_324 ?_
  refine gz_i2l 325 hC dL_law_325 ?_
  refine gz_bipush 326 hC (32 : Int32) dL_law_326 (by decide) ?_
  refine gz_lshl 328 hC dL_law_328 ?_
  refine gz_aload_n 329 hC 0 dL_law_329 rfl rfl ?_
  refine gz_iload_n 330 hC 3 dL_law_330 rfl rfl ?_
  refine gz_iconst 331 hC (4 : Int32) dL_law_331 (by decide) ?_
  refine gz_iadd 332 hC dL_law_332 ?_
  refine gz_sldR 333 hC hXs hbl hbA h4 dL_law_333 ?_
  refine gz_i2l 334 hC dL_law_334 ?_
  refine gz_ldc2 335 hC dL_law_335 q_1552 ?_
  refine gz_land 338 hC dL_law_338 ?_
  refine gz_lor 339 hC dL_law_339 ?_
  refine gz_cvR (st := [.int r]) 340 hC hR0 [.int (xs ((z + (1 : Int32))).toNatClampNeg), .int (xs ((z + (2 : Int32))).toNatClampNeg), .long ((((xs ((z + (3 : Int32))).toNatClampNeg)).toInt64 <<< (((32 : Int32)).toInt64 &&& 63)) ||| (((xs ((z + (4 : Int32))).toNatClampNeg)).toInt64 &&& (4294967295 : Int64)))] yl_X10_set yv_X10_set q_1179 ⟨Nat.le_of_ble_eq_true rfl, Nat.le_of_ble_eq_true rfl⟩ (gz_gd_some g2).1 (ct_X10_set _ _ fu M1 mo (xs ((z + (1 : Int32))).toNatClampNeg) (xs ((z + (2 : Int32))).toNatClampNeg) ((((xs ((z + (3 : Int32))).toNatClampNeg)).toInt64 <<< (((32 : Int32)).toInt64 &&& 63)) ||| (((xs ((z + (4 : Int32))).toNatClampNeg)).toInt64 &&& (4294967295 : Int64))) (r, M2) e2) rfl rfl (Nat.le_of_ble_eq_true rfl) dL_law_340 hroom ?_
  refine gz_icmp_eq 343 1861 hC (A := some ()) (B := none) (y := ()) dL_law_343 (by decide) (if_pos rfl) (fun _ => ?_) (fun h => nomatch h)
  exact hk _ hI2
theorem law_c_copy {C : gz_C} {IV : gz_M → Prop} {fu x mo b L cs sl : Nat} {xs : Nat → Int32} {z : Int32} {M : gz_M} (hop : gz_op_copy IV fu x mo) (hI : IV M) (hC : gz_ok C code RL 4) (hR0 : gz_cy C 12 440 600000 7302250) (hXs : va_X b L xs C.1.2.2.2.2 C.1.2.2.2.2.heap) (hbl : b < C.1.2.2.2.2.heap.size) (hbA : ¬ gz_A C.2.2.2 b) (h1 : vp_in (z + (1 : Int32)) L) (h2 : vp_in (z + (2 : Int32)) L) (h3 : vp_in (z + (3 : Int32)) L) (h4 : vp_in (z + (4 : Int32)) L) (h5 : vp_in (z + (5 : Int32)) L) (hcr : cs + 43 ≤ 600000 ∧ sl + 1332 ≤ 7302250) (hk : ∀ M2, IV M2 → gz_go C (cs) (sl) M2 [(0, .ref b), (1, .ref x), (2, .ref mo), (3, .int z)] 1861 []) : gz_go C cs sl M [(0, .ref b), (1, .ref x), (2, .ref mo), (3, .int z)] 348 [] := by
  obtain ⟨r, M1, M2, e1, e2, hI2⟩ := hop M ((xs ((z + (1 : Int32))).toNatClampNeg)) ((xs ((z + (2 : Int32))).toNatClampNeg)) ((xs ((z + (3 : Int32))).toNatClampNeg)) ((xs ((z + (4 : Int32))).toNatClampNeg)) ((xs ((z + (5 : Int32))).toNatClampNeg)) hI
  have hroom : cs + 0 ≤ 600000 ∧ sl + 0 ≤ 7302250 := ⟨by omega, by omega⟩
  have g1 := e1
  unfold f_X9_copy at g1
  have g2 := e2
  unfold f_X10_copy at g2
  refine gz_aload_n 348 hC 1 dL_law_348 rfl rfl ?_
  refine gz_aload_n 349 hC 0 dL_law_349 rfl rfl ?_
  refine gz_iload_n 350 hC 3 dL_law_350 rfl rfl ?_
  refine gz_iconst 351 hC (1 : Int32) dL_law_351 (by decide) ?_
  refine gz_iadd 352 hC dL_law_352 ?_
  refine gz_sldR 353 hC hXs hbl hbA h1 dL_law_353 ?_
  refine gz_aload_n 354 hC 0 dL_law_354 rfl rfl ?_
  refine gz_iload_n 355 hC 3 dL_law_355 rfl rfl ?_
  refine gz_iconst 356 hC (2 : Int32) dL_law_356 (by decide) ?_
  refine gz_iadd 357 hC dL_law_357 ?_
  refine gz_sldR 358 hC hXs hbl hbA h2 dL_law_358 ?_
  refine gz_aload_n 359 hC 0 dL_law_359 rfl rfl ?_
  refine gz_iload_n 360 hC 3 dL_law_360 rfl rfl ?_
  refine gz_iconst 361 hC (3 : Int32) dL_law_361 (by decide) ?_
  refine gz_iadd 362 hC dL_law_362 ?_
  refine gz_sldR 363 hC hXs hbl hbA h3 dL_law_363 ?_
  refine gz_aload_n 364 hC 0 dL_law_364 rfl rfl ?_
  refine gz_iload_n 365 hC 3 dL_law_365 rfl rfl ?_
  refine gz_iconst 366 hC (4 : Int32) dL_law_366 (by decide) ?_
  refine gz_iadd 367 hC dL_law_367 ?_
  refine gz_sldR 368 hC hXs hbl hbA h4 dL_law_368 ?_
  refine gz_aload_n 369 hC 0 dL_law_369 rfl rfl ?_
  refine gz_iload_n 370 hC 3 dL_law_370 rfl rfl ?_
  refine gz_iconst 371 hC (5 : Int32) dL_law_371 (by decide) ?_
  refine gz_iadd 372 hC dL_law_372 ?_
  refine gz_sldR 373 hC hXs hbl hbA h5 dL_law_373 ?_
  refine gz_cvR (st := []) 374 hC hR0 [.int (xs ((z + (1 : Int32))).toNatClampNeg), .int (xs ((z + (2 : Int32))).toNatClampNeg), .int (xs ((z + (3 : Int32))).toNatClampNeg), .int (xs ((z + (4 : Int32))).toNatClampNeg), .int (xs ((z + (5 : Int32))).toNatClampNeg)] yl_X9_copy yv_X9_copy q_448 ⟨Nat.le_of_ble_eq_true rfl, Nat.le_of_ble_eq_true rfl⟩ (gz_gd_some g1).1 (ct_X9_copy _ _ fu M x (xs ((z + (1 : Int32))).toNatClampNeg) (xs ((z + (2 : Int32))).toNatClampNeg) (xs ((z + (3 : Int32))).toNatClampNeg) (xs ((z + (4 : Int32))).toNatClampNeg) (xs ((z + (5 : Int32))).toNatClampNeg) (r, M1) e1) rfl rfl (Nat.le_of_ble_eq_true rfl) dL_law_374 hroom ?_
  refine gz_aload_n 377 hC 2 dL_law_377 rfl rfl ?_
  refine gz_aload_n 378 hC 0 dL_law_378 rfl rfl ?_
  refine gz_iload_n 379 hC 3 dL_law_379 rfl rfl ?_
  refine gz_iconst 380 hC (1 : Int32) dL_law_380 (by decide) ?_
  refine gz_iadd 381 hC dL_law_381 ?_
  refine gz_sldR 382 hC hXs hbl hbA h1 dL_law_382 ?_
  refine gz_aload_n 383 hC 0 dL_law_383 rfl rfl ?_
  refine gz_iload_n 384 hC 3 dL_law_384 rfl rfl ?_
  refine gz_iconst 385 hC (2 : Int32) dL_law_385 (by decide) ?_
  refine gz_iadd 386 hC dL_law_386 ?_
  refine gz_sldR 387 hC hXs hbl hbA h2 dL_law_387 ?_
  refine gz_aload_n 388 hC 0 dL_law_388 rfl rfl ?_
  refine gz_iload_n 389 hC 3 dL_law_389 rfl rfl ?_
  refine gz_iconst 390 hC (3 : Int32) dL_law_390 (by decide) ?_
  refine gz_iadd 391 hC dL_law_391 ?_
  refine gz_sldR 392 hC hXs hbl hbA h3 dL_law_392 ?_
  refine gz_aload_n 393 hC 0 dL_law_393 rfl rfl ?_
  refine gz_iload_n 394 hC 3 dL_law_394 rfl rfl ?_
  refine gz_iconst 395 hC (4 : Int32) dL_law_395 (by decide) ?_
  refine gz_iadd 396 hC dL_law_396 ?_
  refine gz_sldR 397 hC hXs hbl hbA h4 dL_law_397 ?_
  refine gz_aload_n 398 hC 0 dL_law_398 rfl rfl ?_
  refine gz_iload_n 399 hC 3 dL_law_399 rfl rfl ?_
  refine gz_iconst 400 hC (5 : Int32) dL_law_400 (by decide) ?_
  refine gz_iadd 401 hC dL_law_401 ?_
  refine gz_sldR 402 hC hXs hbl hbA h5 dL_law_402 ?_
  refine gz_cvR (st := [.int r]) 403 hC hR0 [.int (xs ((z + (1 : Int32))).toNatClampNeg), .int (xs ((z + (2 : Int32))).toNatClampNeg), .int (xs ((z + (3 : Int32))).toNatClampNeg), .int (xs ((z + (4 : Int32))).toNatClampNeg), .int (xs ((z + (5 : Int32))).toNatClampNeg)] yl_X10_copy yv_X10_copy q_1186 ⟨Nat.le_of_ble_eq_true rfl, Nat.le_of_ble_eq_true rfl⟩ (gz_gd_some g2).1 (ct_X10_copy _ _ fu M1 mo (xs ((z + (1 : Int32))).toNatClampNeg) (xs ((z + (2 : Int32))).toNatClampNeg) (xs ((z + (3 : Int32))).toNatClampNeg) (xs ((z + (4 : Int32))).toNatClampNeg) (xs ((z + (5 : Int32))).toNatClampNeg) (r, M2) e2) rfl rfl (Nat.le_of_ble_eq_true rfl) dL_law_403 hroom ?_
  refine gz_icmp_eq 406 1861 hC (A := some ()) (B := none) (y := ()) dL_law_406 (by decide) (if_pos rfl) (fun _ => ?_) (fun h => nomatch h)
  exact hk _ hI2
theorem law_c_element {C : gz_C} {IV : gz_M → Prop} {fu x mo b L cs sl : Nat} {xs : Nat → Int32} {z : Int32} {M : gz_M} (hop : gz_op_element IV fu x mo) (hI : IV M) (hC : gz_ok C code RL 4) (hR0 : gz_cy C 12 440 600000 7302250) (hXs : va_X b L xs C.1.2.2.2.2 C.1.2.2.2.2.heap) (hbl : b < C.1.2.2.2.2.heap.size) (hbA : ¬ gz_A C.2.2.2 b) (h1 : vp_in (z + (1 : Int32)) L) (h2 : vp_in (z + (2 : Int32)) L) (h3 : vp_in (z + (3 : Int32)) L) (h4 : vp_in (z + (4 : Int32)) L) (h5 : vp_in (z + (5 : Int32)) L) (hcr : cs + 43 ≤ 600000 ∧ sl + 1332 ≤ 7302250) (hk : ∀ M2, IV M2 → gz_go C (cs) (sl) M2 [(0, .ref b), (1, .ref x), (2, .ref mo), (3, .int z)] 1861 []) : gz_go C cs sl M [(0, .ref b), (1, .ref x), (2, .ref mo), (3, .int z)] 411 [] := by
  obtain ⟨r, e1, e2, hI2⟩ := hop M ((xs ((z + (1 : Int32))).toNatClampNeg)) ((xs ((z + (2 : Int32))).toNatClampNeg)) hI
  have hroom : cs + 0 ≤ 600000 ∧ sl + 0 ≤ 7302250 := ⟨by omega, by omega⟩
  have g1 := e1
  unfold f_X9_element at g1
  have g2 := e2
  unfold f_X10_element at g2
  refine gz_aload_n 411 hC 1 dL_law_411 rfl rfl ?_
  refine gz_aload_n 412 hC 0 dL_law_412 rfl rfl ?_
  refine gz_iload_n 413 hC 3 dL_law_413 rfl rfl ?_
  refine gz_iconst 414 hC (1 : Int32) dL_law_414 (by decide) ?_
  refine gz_iadd 415 hC dL_law_415 ?_
  refine gz_sldR 416 hC hXs hbl hbA h1 dL_law_416 ?_
  refine gz_aload_n 417 hC 0 dL_law_417 rfl rfl ?_
  refine gz_iload_n 418 hC 3 dL_law_418 rfl rfl ?_
  refine gz_iconst 419 hC (2 : Int32) dL_law_419 (by decide) ?_
  refine gz_iadd 420 hC dL_law_420 ?_
  refine gz_sldR 421 hC hXs hbl hbA h2 dL_law_421 ?_
  refine gz_cvR (st := []) 422 hC hR0 [.int (xs ((z + (1 : Int32))).toNatClampNeg), .int (xs ((z + (2 : Int32))).toNatClampNeg)] yl_X9_element yv_X9_element q_468 ⟨Nat.le_of_ble_eq_true rfl, Nat.le_of_ble_eq_true rfl⟩ (gz_gd_some g1).1 (ct_X9_element _ _ fu M x (xs ((z + (1 : Int32))).toNatClampNeg) (xs ((z + (2 : Int32))).toNatClampNeg) r e1) rfl rfl (Nat.le_of_ble_eq_true rfl) dL_law_422 hroom ?_
  refine gz_aload_n 425 hC 2 dL_law_425 rfl rfl ?_
  refine gz_aload_n 426 hC 0 dL_law_426 rfl rfl ?_
  refine gz_iload_n 427 hC 3 dL_law_427 rfl rfl ?_
  refine gz_iconst 428 hC (1 : Int32) dL_law_428 (by decide) ?_
  refine gz_iadd 429 hC dL_law_429 ?_
  refine gz_sldR 430 hC hXs hbl hbA h1 dL_law_430 ?_
  refine gz_aload_n 431 hC 0 dL_law_431 rfl rfl ?_
  refine gz_iload_n 432 hC 3 dL_law_432 rfl rfl ?_
  refine gz_iconst 433 hC (2 : Int32) dL_law_433 (by decide) ?_
  refine gz_iadd 434 hC dL_law_434 ?_
  refine gz_sldR 435 hC hXs hbl hbA h2 dL_law_435 ?_
  refine gz_cvR (st := [.long r]) 436 hC hR0 [.int (xs ((z + (1 : Int32))).toNatClampNeg), .int (xs ((z + (2 : Int32))).toNatClampNeg)] yl_X10_element yv_X10_element q_1190 ⟨Nat.le_of_ble_eq_true rfl, Nat.le_of_ble_eq_true rfl⟩ (gz_gd_some g2).1 (ct_X10_element _ _ fu M mo (xs ((z + (1 : Int32))).toNatClampNeg) (xs ((z + (2 : Int32))).toNatClampNeg) r e2) rfl rfl (Nat.le_of_ble_eq_true rfl) dL_law_436 hroom ?_
  refine gz_lcmp 439 hC dL_law_439 ?_
  refine gz_if_eq 440 1861 hC (A := some ()) (B := none) (y := ()) dL_law_440 (by decide) (if_pos (by simp [lg_cmp])) (fun _ => ?_) (fun h => nomatch h)
  exact hk _ hI2
theorem law_c_holds {C : gz_C} {IV : gz_M → Prop} {fu x mo b L cs sl : Nat} {xs : Nat → Int32} {z : Int32} {M : gz_M} (hop : gz_op_holds IV fu x mo) (hI : IV M) (hC : gz_ok C code RL 4) (hR0 : gz_cy C 12 440 600000 7302250) (hXs : va_X b L xs C.1.2.2.2.2 C.1.2.2.2.2.heap) (hbl : b < C.1.2.2.2.2.heap.size) (hbA : ¬ gz_A C.2.2.2 b) (h1 : vp_in (z + (1 : Int32)) L) (h2 : vp_in (z + (2 : Int32)) L) (h3 : vp_in (z + (3 : Int32)) L) (h4 : vp_in (z + (4 : Int32)) L) (h5 : vp_in (z + (5 : Int32)) L) (hcr : cs + 43 ≤ 600000 ∧ sl + 1332 ≤ 7302250) (hk : ∀ M2, IV M2 → gz_go C (cs) (sl) M2 [(0, .ref b), (1, .ref x), (2, .ref mo), (3, .int z)] 1861 []) : gz_go C cs sl M [(0, .ref b), (1, .ref x), (2, .ref mo), (3, .int z)] 445 [] := by
  obtain ⟨r, e1, e2, hI2⟩ := hop M ((xs ((z + (1 : Int32))).toNatClampNeg)) hI
  have hroom : cs + 0 ≤ 600000 ∧ sl + 0 ≤ 7302250 := ⟨by omega, by omega⟩
  have g1 := e1
  unfold f_X9_holds at g1
  have g2 := e2
  unfold f_X10_holds at g2
  refine gz_aload_n 445 hC 1 dL_law_445 rfl rfl ?_
  refine gz_aload_n 446 hC 0 dL_law_446 rfl rfl ?_
  refine gz_iload_n 447 hC 3 dL_law_447 rfl rfl ?_
  refine gz_iconst 448 hC (1 : Int32) dL_law_448 (by decide) ?_
  refine gz_iadd 449 hC dL_law_449 ?_
  refine gz_sldR 450 hC hXs hbl hbA h1 dL_law_450 ?_
  refine gz_cvR (st := []) 451 hC hR0 [.int (xs ((z + (1 : Int32))).toNatClampNeg)] yl_X9_holds yv_X9_holds q_477 ⟨Nat.le_of_ble_eq_true rfl, Nat.le_of_ble_eq_true rfl⟩ (gz_gd_some g1).1 (ct_X9_holds _ _ fu M x (xs ((z + (1 : Int32))).toNatClampNeg) r e1) rfl rfl (Nat.le_of_ble_eq_true rfl) dL_law_451 hroom ?_
  refine gz_aload_n 454 hC 2 dL_law_454 rfl rfl ?_
  refine gz_aload_n 455 hC 0 dL_law_455 rfl rfl ?_
  refine gz_iload_n 456 hC 3 dL_law_456 rfl rfl ?_
  refine gz_iconst 457 hC (1 : Int32) dL_law_457 (by decide) ?_
  refine gz_iadd 458 hC dL_law_458 ?_
  refine gz_sldR 459 hC hXs hbl hbA h1 dL_law_459 ?_
  refine gz_cvR (st := [.int r]) 460 hC hR0 [.int (xs ((z + (1 : Int32))).toNatClampNeg)] yl_X10_holds yv_X10_holds q_1194 ⟨Nat.le_of_ble_eq_true rfl, Nat.le_of_ble_eq_true rfl⟩ (gz_gd_some g2).1 (ct_X10_holds _ _ fu M mo (xs ((z + (1 : Int32))).toNatClampNeg) r e2) rfl rfl (Nat.le_of_ble_eq_true rfl) dL_law_460 hroom ?_
  refine gz_icmp_eq 463 1861 hC (A := some ()) (B := none) (y := ()) dL_law_463 (by decide) (if_pos rfl) (fun _ => ?_) (fun h => nomatch h)
  exact hk _ hI2
theorem law_c_tool {C : gz_C} {IV : gz_M → Prop} {fu x mo b L cs sl : Nat} {xs : Nat → Int32} {z : Int32} {M : gz_M} (hop : gz_op_tool IV fu x mo) (hI : IV M) (hC : gz_ok C code RL 4) (hR0 : gz_cy C 12 440 600000 7302250) (hXs : va_X b L xs C.1.2.2.2.2 C.1.2.2.2.2.heap) (hbl : b < C.1.2.2.2.2.heap.size) (hbA : ¬ gz_A C.2.2.2 b) (h1 : vp_in (z + (1 : Int32)) L) (h2 : vp_in (z + (2 : Int32)) L) (h3 : vp_in (z + (3 : Int32)) L) (h4 : vp_in (z + (4 : Int32)) L) (h5 : vp_in (z + (5 : Int32)) L) (hcr : cs + 43 ≤ 600000 ∧ sl + 1332 ≤ 7302250) (hk : ∀ M2, IV M2 → gz_go C (cs) (sl) M2 [(0, .ref b), (1, .ref x), (2, .ref mo), (3, .int z)] 1861 []) : gz_go C cs sl M [(0, .ref b), (1, .ref x), (2, .ref mo), (3, .int z)] 468 [] := by
  obtain ⟨r, M1, M2, e1, e2, hI2⟩ := hop M ((xs ((z + (1 : Int32))).toNatClampNeg)) ((xs ((z + (2 : Int32))).toNatClampNeg)) ((xs ((z + (3 : Int32))).toNatClampNeg)) ((xs ((z + (4 : Int32))).toNatClampNeg)) hI
  have hroom : cs + 0 ≤ 600000 ∧ sl + 0 ≤ 7302250 := ⟨by omega, by omega⟩
  have g1 := e1
  unfold f_X9_tool at g1
  have g2 := e2
  unfold f_X10_tool at g2
  refine gz_aload_n 468 hC 1 dL_law_468 rfl rfl ?_
  refine gz_aload_n 469 hC 0 dL_law_469 rfl rfl ?_
  refine gz_iload_n 470 hC 3 dL_law_470 rfl rfl ?_
  refine gz_iconst 471 hC (1 : Int32) dL_law_471 (by decide) ?_
  refine gz_iadd 472 hC dL_law_472 ?_
  refine gz_sldR 473 hC hXs hbl hbA h1 dL_law_473 ?_
  refine gz_aload_n 474 hC 0 dL_law_474 rfl rfl ?_
  refine gz_iload_n 475 hC 3 dL_law_475 rfl rfl ?_
  refine gz_iconst 476 hC (2 : Int32) dL_law_476 (by decide) ?_
  refine gz_iadd 477 hC dL_law_477 ?_
  refine gz_sldR 478 hC hXs hbl hbA h2 dL_law_478 ?_
  refine gz_aload_n 479 hC 0 dL_law_479 rfl rfl ?_
  refine gz_iload_n 480 hC 3 dL_law_480 rfl rfl ?_
  refine gz_iconst 481 hC (3 : Int32) dL_law_481 (by decide) ?_
  refine gz_iadd 482 hC dL_law_482 ?_
  refine gz_sldR 483 hC hXs hbl hbA h3 dL_law_483 ?_
  refine gz_aload_n 484 hC 0 dL_law_484 rfl rfl ?_
  refine gz_iload_n 485 hC 3 dL_law_485 rfl rfl ?_
  refine gz_iconst 486 hC (4 : Int32) dL_law_486 (by decide) ?_
  refine gz_iadd 487 hC dL_law_487 ?_
  refine gz_sldR 488 hC hXs hbl hbA h4 dL_law_488 ?_
  refine gz_cvR (st := []) 489 hC hR0 [.int (xs ((z + (1 : Int32))).toNatClampNeg), .int (xs ((z + (2 : Int32))).toNatClampNeg), .int (xs ((z + (3 : Int32))).toNatClampNeg), .int (xs ((z + (4 : Int32))).toNatClampNeg)] yl_X9_tool yv_X9_tool q_481 ⟨Nat.le_of_ble_eq_true rfl, Nat.le_of_ble_eq_true rfl⟩ (gz_gd_some g1).1 (ct_X9_tool _ _ fu M x (xs ((z + (1 : Int32))).toNatClampNeg) (xs ((z + (2 : Int32))).toNatClampNeg) (xs ((z + (3 : Int32))).toNatClampNeg) (xs ((z + (4 : Int32))).toNatClampNeg) (r, M1) e1) rfl rfl (Nat.le_of_ble_eq_true rfl) dL_law_489 hroom ?_
  refine gz_aload_n 492 hC 2 dL_law_492 rfl rfl ?_
  refine gz_aload_n 493 hC 0 dL_law_493 rfl rfl ?_
  refine gz_iload_n 494 hC 3 dL_law_494 rfl rfl ?_
  refine gz_iconst 495 hC (1 : Int32) dL_law_495 (by decide) ?_
  refine gz_iadd 496 hC dL_law_496 ?_
  refine gz_sldR 497 hC hXs hbl hbA h1 dL_law_497 ?_
  refine gz_aload_n 498 hC 0 dL_law_498 rfl rfl ?_
  refine gz_iload_n 499 hC 3 dL_law_499 rfl rfl ?_
  refine gz_iconst 500 hC (2 : Int32) dL_law_500 (by decide) ?_
  refine gz_iadd 501 hC dL_law_501 ?_
  refine gz_sldR 502 hC hXs hbl hbA h2 dL_law_502 ?_
  refine gz_aload_n 503 hC 0 dL_law_503 rfl rfl ?_
  refine gz_iload_n 504 hC 3 dL_law_504 rfl rfl ?_
  refine gz_iconst 505 hC (3 : Int32) dL_law_505 (by decide) ?_
  refine gz_iadd 506 hC dL_law_506 ?_
  refine gz_sldR 507 hC hXs hbl hbA h3 dL_law_507 ?_
  refine gz_aload_n 508 hC 0 dL_law_508 rfl rfl ?_
  refine gz_iload_n 509 hC 3 dL_law_509 rfl rfl ?_
  refine gz_iconst 510 hC (4 : Int32) dL_law_510 (by decide) ?_
  refine gz_iadd 511 hC dL_law_511 ?_
  refine gz_sldR 512 hC hXs hbl hbA h4 dL_law_512 ?_
  refine gz_cvR (st := [.int r]) 513 hC hR0 [.int (xs ((z + (1 : Int32))).toNatClampNeg), .int (xs ((z + (2 : Int32))).toNatClampNeg), .int (xs ((z + (3 : Int32))).toNatClampNeg), .int (xs ((z + (4 : Int32))).toNatClampNeg)] yl_X10_tool yv_X10_tool q_1198 ⟨Nat.le_of_ble_eq_true rfl, Nat.le_of_ble_eq_true rfl⟩ (gz_gd_some g2).1 (ct_X10_tool _ _ fu M1 mo (xs ((z + (1 : Int32))).toNatClampNeg) (xs ((z + (2 : Int32))).toNatClampNeg) (xs ((z + (3 : Int32))).toNatClampNeg) (xs ((z + (4 : Int32))).toNatClampNeg) (r, M2) e2) rfl rfl (Nat.le_of_ble_eq_true rfl) dL_law_513 hroom ?_
  refine gz_icmp_eq 516 1861 hC (A := some ()) (B := none) (y := ()) dL_law_516 (by decide) (if_pos rfl) (fun _ => ?_) (fun h => nomatch h)
  exact hk _ hI2
theorem law_c_says {C : gz_C} {IV : gz_M → Prop} {fu x mo b L cs sl : Nat} {xs : Nat → Int32} {z : Int32} {M : gz_M} (hop : gz_op_says IV fu x mo) (hI : IV M) (hC : gz_ok C code RL 4) (hR0 : gz_cy C 12 440 600000 7302250) (hXs : va_X b L xs C.1.2.2.2.2 C.1.2.2.2.2.heap) (hbl : b < C.1.2.2.2.2.heap.size) (hbA : ¬ gz_A C.2.2.2 b) (h1 : vp_in (z + (1 : Int32)) L) (h2 : vp_in (z + (2 : Int32)) L) (h3 : vp_in (z + (3 : Int32)) L) (h4 : vp_in (z + (4 : Int32)) L) (h5 : vp_in (z + (5 : Int32)) L) (hcr : cs + 43 ≤ 600000 ∧ sl + 1332 ≤ 7302250) (hk : ∀ M2, IV M2 → gz_go C (cs) (sl) M2 [(0, .ref b), (1, .ref x), (2, .ref mo), (3, .int z)] 1861 []) : gz_go C cs sl M [(0, .ref b), (1, .ref x), (2, .ref mo), (3, .int z)] 521 [] := by
  obtain ⟨r, M1, M2, e1, e2, hI2⟩ := hop M ((xs ((z + (1 : Int32))).toNatClampNeg)) ((xs ((z + (2 : Int32))).toNatClampNeg)) hI
  have hroom : cs + 0 ≤ 600000 ∧ sl + 0 ≤ 7302250 := ⟨by omega, by omega⟩
  have g1 := e1
  unfold f_X9_says at g1
  have g2 := e2
  unfold f_X10_says at g2
  refine gz_aload_n 521 hC 1 dL_law_521 rfl rfl ?_
  refine gz_aload_n 522 hC 0 dL_law_522 rfl rfl ?_
  refine gz_iload_n 523 hC 3 dL_law_523 rfl rfl ?_
  refine gz_iconst 524 hC (1 : Int32) dL_law_524 (by decide) ?_
  refine gz_iadd 525 hC dL_law_525 ?_
  refine gz_sldR 526 hC hXs hbl hbA h1 dL_law_526 ?_
  refine gz_aload_n 527 hC 0 dL_law_527 rfl rfl ?_
  refine gz_iload_n 528 hC 3 dL_law_528 rfl rfl ?_
  refine gz_iconst 529 hC (2 : Int32) dL_law_529 (by decide) ?_
  refine gz_iadd 530 hC dL_law_530 ?_
  refine gz_sldR 531 hC hXs hbl hbA h2 dL_law_531 ?_
  refine gz_cvR (st := []) 532 hC hR0 [.int (xs ((z + (1 : Int32))).toNatClampNeg), .int (xs ((z + (2 : Int32))).toNatClampNeg)] yl_X9_says yv_X9_says q_489 ⟨Nat.le_of_ble_eq_true rfl, Nat.le_of_ble_eq_true rfl⟩ (gz_gd_some g1).1 (ct_X9_says _ _ fu M x (xs ((z + (1 : Int32))).toNatClampNeg) (xs ((z + (2 : Int32))).toNatClampNeg) (r, M1) e1) rfl rfl (Nat.le_of_ble_eq_true rfl) dL_law_532 hroom ?_
  refine gz_aload_n 535 hC 2 dL_law_535 rfl rfl ?_
  refine gz_aload_n 536 hC 0 dL_law_536 rfl rfl ?_
  refine gz_iload_n 537 hC 3 dL_law_537 rfl rfl ?_
  refine gz_iconst 538 hC (1 : Int32) dL_law_538 (by decide) ?_
  refine gz_iadd 539 hC dL_law_539 ?_
  refine gz_sldR 540 hC hXs hbl hbA h1 dL_law_540 ?_
  refine gz_aload_n 541 hC 0 dL_law_541 rfl rfl ?_
  refine gz_iload_n 542 hC 3 dL_law_542 rfl rfl ?_
  refine gz_iconst 543 hC (2 : Int32) dL_law_543 (by decide) ?_
  refine gz_iadd 544 hC dL_law_544 ?_
  refine gz_sldR 545 hC hXs hbl hbA h2 dL_law_545 ?_
  refine gz_cvR (st := [.int r]) 546 hC hR0 [.int (xs ((z + (1 : Int32))).toNatClampNeg), .int (xs ((z + (2 : Int32))).toNatClampNeg)] yl_X10_says yv_X10_says q_1205 ⟨Nat.le_of_ble_eq_true rfl, Nat.le_of_ble_eq_true rfl⟩ (gz_gd_some g2).1 (ct_X10_says _ _ fu M1 mo (xs ((z + (1 : Int32))).toNatClampNeg) (xs ((z + (2 : Int32))).toNatClampNeg) (r, M2) e2) rfl rfl (Nat.le_of_ble_eq_true rfl) dL_law_546 hroom ?_
  refine gz_icmp_eq 549 1861 hC (A := some ()) (B := none) (y := ()) dL_law_549 (by decide) (if_pos rfl) (fun _ => ?_) (fun h => nomatch h)
  exact hk _ hI2
theorem law_c_tries {C : gz_C} {IV : gz_M → Prop} {fu x mo b L cs sl : Nat} {xs : Nat → Int32} {z : Int32} {M : gz_M} (hop : gz_op_tries IV fu x mo) (hI : IV M) (hC : gz_ok C code RL 4) (hR0 : gz_cy C 12 440 600000 7302250) (hXs : va_X b L xs C.1.2.2.2.2 C.1.2.2.2.2.heap) (hbl : b < C.1.2.2.2.2.heap.size) (hbA : ¬ gz_A C.2.2.2 b) (h1 : vp_in (z + (1 : Int32)) L) (h2 : vp_in (z + (2 : Int32)) L) (h3 : vp_in (z + (3 : Int32)) L) (h4 : vp_in (z + (4 : Int32)) L) (h5 : vp_in (z + (5 : Int32)) L) (hcr : cs + 43 ≤ 600000 ∧ sl + 1332 ≤ 7302250) (hk : ∀ M2, IV M2 → gz_go C (cs) (sl) M2 [(0, .ref b), (1, .ref x), (2, .ref mo), (3, .int z)] 1861 []) : gz_go C cs sl M [(0, .ref b), (1, .ref x), (2, .ref mo), (3, .int z)] 554 [] := by
  obtain ⟨r, M1, M2, e1, e2, hI2⟩ := hop M ((xs ((z + (1 : Int32))).toNatClampNeg)) ((xs ((z + (2 : Int32))).toNatClampNeg)) ((xs ((z + (3 : Int32))).toNatClampNeg)) hI
  have hroom : cs + 0 ≤ 600000 ∧ sl + 0 ≤ 7302250 := ⟨by omega, by omega⟩
  have g1 := e1
  unfold f_X9_tries at g1
  have g2 := e2
  unfold f_X10_tries at g2
  refine gz_aload_n 554 hC 1 dL_law_554 rfl rfl ?_
  refine gz_aload_n 555 hC 0 dL_law_555 rfl rfl ?_
  refine gz_iload_n 556 hC 3 dL_law_556 rfl rfl ?_
  refine gz_iconst 557 hC (1 : Int32) dL_law_557 (by decide) ?_
  refine gz_iadd 558 hC dL_law_558 ?_
  refine gz_sldR 559 hC hXs hbl hbA h1 dL_law_559 ?_
  refine gz_aload_n 560 hC 0 dL_law_560 rfl rfl ?_
  refine gz_iload_n 561 hC 3 dL_law_561 rfl rfl ?_
  refine gz_iconst 562 hC (2 : Int32) dL_law_562 (by decide) ?_
  refine gz_iadd 563 hC dL_law_563 ?_
  refine gz_sldR 564 hC hXs hbl hbA h2 dL_law_564 ?_
  refine gz_aload_n 565 hC 0 dL_law_565 rfl rfl ?_
  refine gz_iload_n 566 hC 3 dL_law_566 rfl rfl ?_
  refine gz_iconst 567 hC (3 : Int32) dL_law_567 (by decide) ?_
  refine gz_iadd 568 hC dL_law_568 ?_
  refine gz_sldR 569 hC hXs hbl hbA h3 dL_law_569 ?_
  refine gz_cvR (st := []) 570 hC hR0 [.int (xs ((z + (1 : Int32))).toNatClampNeg), .int (xs ((z + (2 : Int32))).toNatClampNeg), .int (xs ((z + (3 : Int32))).toNatClampNeg)] yl_X9_tries yv_X9_tries q_501 ⟨Nat.le_of_ble_eq_true rfl, Nat.le_of_ble_eq_true rfl⟩ (gz_gd_some g1).1 (ct_X9_tries _ _ fu M x (xs ((z + (1 : Int32))).toNatClampNeg) (xs ((z + (2 : Int32))).toNatClampNeg) (xs ((z + (3 : Int32))).toNatClampNeg) (r, M1) e1) rfl rfl (Nat.le_of_ble_eq_true rfl) dL_law_570 hroom ?_
  refine gz_aload_n 573 hC 2 dL_law_573 rfl rfl ?_
  refine gz_aload_n 574 hC 0 dL_law_574 rfl rfl ?_
  refine gz_iload_n 575 hC 3 dL_law_575 rfl rfl ?_
  refine gz_iconst 576 hC (1 : Int32) dL_law_576 (by decide) ?_
  refine gz_iadd 577 hC dL_law_577 ?_
  refine gz_sldR 578 hC hXs hbl hbA h1 dL_law_578 ?_
  refine gz_aload_n 579 hC 0 dL_law_579 rfl rfl ?_
  refine gz_iload_n 580 hC 3 dL_law_580 rfl rfl ?_
  refine gz_iconst 581 hC (2 : Int32) dL_law_581 (by decide) ?_
  refine gz_iadd 582 hC dL_law_582 ?_
  refine gz_sldR 583 hC hXs hbl hbA h2 dL_law_583 ?_
  refine gz_aload_n 584 hC 0 dL_law_584 rfl rfl ?_
  refine gz_iload_n 585 hC 3 dL_law_585 rfl rfl ?_
  refine gz_iconst 586 hC (3 : Int32) dL_law_586 (by decide) ?_
  refine gz_iadd 587 hC dL_law_587 ?_
  refine gz_sldR 588 hC hXs hbl hbA h3 dL_law_588 ?_
  refine gz_cvR (st := [.int r]) 589 hC hR0 [.int (xs ((z + (1 : Int32))).toNatClampNeg), .int (xs ((z + (2 : Int32))).toNatClampNeg), .int (xs ((z + (3 : Int32))).toNatClampNeg)] yl_X10_tries yv_X10_tries q_1209 ⟨Nat.le_of_ble_eq_true rfl, Nat.le_of_ble_eq_true rfl⟩ (gz_gd_some g2).1 (ct_X10_tries _ _ fu M1 mo (xs ((z + (1 : Int32))).toNatClampNeg) (xs ((z + (2 : Int32))).toNatClampNeg) (xs ((z + (3 : Int32))).toNatClampNeg) (r, M2) e2) rfl rfl (Nat.le_of_ble_eq_true rfl) dL_law_589 hroom ?_
  refine gz_icmp_eq 592 1861 hC (A := some ()) (B := none) (y := ()) dL_law_592 (by decide) (if_pos rfl) (fun _ => ?_) (fun h => nomatch h)
  exact hk _ hI2
theorem law_c_shoes {C : gz_C} {IV : gz_M → Prop} {fu x mo b L cs sl : Nat} {xs : Nat → Int32} {z : Int32} {M : gz_M} (hop : gz_op_shoes IV fu x mo) (hI : IV M) (hC : gz_ok C code RL 4) (hR0 : gz_cy C 12 440 600000 7302250) (hXs : va_X b L xs C.1.2.2.2.2 C.1.2.2.2.2.heap) (hbl : b < C.1.2.2.2.2.heap.size) (hbA : ¬ gz_A C.2.2.2 b) (h1 : vp_in (z + (1 : Int32)) L) (h2 : vp_in (z + (2 : Int32)) L) (h3 : vp_in (z + (3 : Int32)) L) (h4 : vp_in (z + (4 : Int32)) L) (h5 : vp_in (z + (5 : Int32)) L) (hcr : cs + 43 ≤ 600000 ∧ sl + 1332 ≤ 7302250) (hk : ∀ M2, IV M2 → gz_go C (cs) (sl) M2 [(0, .ref b), (1, .ref x), (2, .ref mo), (3, .int z)] 1861 []) : gz_go C cs sl M [(0, .ref b), (1, .ref x), (2, .ref mo), (3, .int z)] 597 [] := by
  obtain ⟨r, M1, M2, e1, e2, hI2⟩ := hop M ((xs ((z + (1 : Int32))).toNatClampNeg)) ((xs ((z + (2 : Int32))).toNatClampNeg)) hI
  have hroom : cs + 0 ≤ 600000 ∧ sl + 0 ≤ 7302250 := ⟨by omega, by omega⟩
  have g1 := e1
  unfold f_X9_shoes at g1
  have g2 := e2
  unfold f_X10_shoes at g2
  refine gz_aload_n 597 hC 1 dL_law_597 rfl rfl ?_
  refine gz_aload_n 598 hC 0 dL_law_598 rfl rfl ?_
  refine gz_iload_n 599 hC 3 dL_law_599 rfl rfl ?_
  refine gz_iconst 600 hC (1 : Int32) dL_law_600 (by decide) ?_
  refine gz_iadd 601 hC dL_law_601 ?_
  refine gz_sldR 602 hC hXs hbl hbA h1 dL_law_602 ?_
  refine gz_aload_n 603 hC 0 dL_law_603 rfl rfl ?_
  refine gz_iload_n 604 hC 3 dL_law_604 rfl rfl ?_
  refine gz_iconst 605 hC (2 : Int32) dL_law_605 (by decide) ?_
  refine gz_iadd 606 hC dL_law_606 ?_
  refine gz_sldR 607 hC hXs hbl hbA h2 dL_law_607 ?_
  refine gz_cvR (st := []) 608 hC hR0 [.int (xs ((z + (1 : Int32))).toNatClampNeg), .int (xs ((z + (2 : Int32))).toNatClampNeg)] yl_X9_shoes yv_X9_shoes q_552 ⟨Nat.le_of_ble_eq_true rfl, Nat.le_of_ble_eq_true rfl⟩ (gz_gd_some g1).1 (ct_X9_shoes _ _ fu M x (xs ((z + (1 : Int32))).toNatClampNeg) (xs ((z + (2 : Int32))).toNatClampNeg) (r, M1) e1) rfl rfl (Nat.le_of_ble_eq_true rfl) dL_law_608 hroom ?_
  refine gz_aload_n 611 hC 2 dL_law_611 rfl rfl ?_
  refine gz_aload_n 612 hC 0 dL_law_612 rfl rfl ?_
  refine gz_iload_n 613 hC 3 dL_law_613 rfl rfl ?_
  refine gz_iconst 614 hC (1 : Int32) dL_law_614 (by decide) ?_
  refine gz_iadd 615 hC dL_law_615 ?_
  refine gz_sldR 616 hC hXs hbl hbA h1 dL_law_616 ?_
  refine gz_aload_n 617 hC 0 dL_law_617 rfl rfl ?_
  refine gz_iload_n 618 hC 3 dL_law_618 rfl rfl ?_
  refine gz_iconst 619 hC (2 : Int32) dL_law_619 (by decide) ?_
  refine gz_iadd 620 hC dL_law_620 ?_
  refine gz_sldR 621 hC hXs hbl hbA h2 dL_law_621 ?_
  refine gz_cvR (st := [.int r]) 622 hC hR0 [.int (xs ((z + (1 : Int32))).toNatClampNeg), .int (xs ((z + (2 : Int32))).toNatClampNeg)] yl_X10_shoes yv_X10_shoes q_1253 ⟨Nat.le_of_ble_eq_true rfl, Nat.le_of_ble_eq_true rfl⟩ (gz_gd_some g2).1 (ct_X10_shoes _ _ fu M1 mo (xs ((z + (1 : Int32))).toNatClampNeg) (xs ((z + (2 : Int32))).toNatClampNeg) (r, M2) e2) rfl rfl (Nat.le_of_ble_eq_true rfl) dL_law_622 hroom ?_
  refine gz_icmp_eq 625 1861 hC (A := some ()) (B := none) (y := ()) dL_law_625 (by decide) (if_pos rfl) (fun _ => ?_) (fun h => nomatch h)
  exact hk _ hI2
theorem law_c_feed {C : gz_C} {IV : gz_M → Prop} {fu x mo b L cs sl : Nat} {xs : Nat → Int32} {z : Int32} {M : gz_M} (hop : gz_op_feed IV fu x mo) (hI : IV M) (hC : gz_ok C code RL 4) (hR0 : gz_cy C 12 440 600000 7302250) (hXs : va_X b L xs C.1.2.2.2.2 C.1.2.2.2.2.heap) (hbl : b < C.1.2.2.2.2.heap.size) (hbA : ¬ gz_A C.2.2.2 b) (h1 : vp_in (z + (1 : Int32)) L) (h2 : vp_in (z + (2 : Int32)) L) (h3 : vp_in (z + (3 : Int32)) L) (h4 : vp_in (z + (4 : Int32)) L) (h5 : vp_in (z + (5 : Int32)) L) (hcr : cs + 43 ≤ 600000 ∧ sl + 1332 ≤ 7302250) (hk : ∀ M2, IV M2 → gz_go C (cs) (sl) M2 [(0, .ref b), (1, .ref x), (2, .ref mo), (3, .int z)] 1861 []) : gz_go C cs sl M [(0, .ref b), (1, .ref x), (2, .ref mo), (3, .int z)] 630 [] := by
  obtain ⟨r, M1, M2, e1, e2, hI2⟩ := hop M ((xs ((z + (1 : Int32))).toNatClampNeg)) ((xs ((z + (2 : Int32))).toNatClampNeg)) hI
  have hroom : cs + 0 ≤ 600000 ∧ sl + 0 ≤ 7302250 := ⟨by omega, by omega⟩
  have g1 := e1
  unfold f_X9_feed at g1
  have g2 := e2
  unfold f_X10_feed at g2
  refine gz_aload_n 630 hC 1 dL_law_630 rfl rfl ?_
  refine gz_aload_n 631 hC 0 dL_law_631 rfl rfl ?_
  refine gz_iload_n 632 hC 3 dL_law_632 rfl rfl ?_
  refine gz_iconst 633 hC (1 : Int32) dL_law_633 (by decide) ?_
  refine gz_iadd 634 hC dL_law_634 ?_
  refine gz_sldR 635 hC hXs hbl hbA h1 dL_law_635 ?_
  refine gz_aload_n 636 hC 0 dL_law_636 rfl rfl ?_
  refine gz_iload_n 637 hC 3 dL_law_637 rfl rfl ?_
  refine gz_iconst 638 hC (2 : Int32) dL_law_638 (by decide) ?_
  refine gz_iadd 639 hC dL_law_639 ?_
  refine gz_sldR 640 hC hXs hbl hbA h2 dL_law_640 ?_
  refine gz_cvR (st := []) 641 hC hR0 [.int (xs ((z + (1 : Int32))).toNatClampNeg), .int (xs ((z + (2 : Int32))).toNatClampNeg)] yl_X9_feed yv_X9_feed q_556 ⟨Nat.le_of_ble_eq_true rfl, Nat.le_of_ble_eq_true rfl⟩ (gz_gd_some g1).1 (ct_X9_feed _ _ fu M x (xs ((z + (1 : Int32))).toNatClampNeg) (xs ((z + (2 : Int32))).toNatClampNeg) (r, M1) e1) rfl rfl (Nat.le_of_ble_eq_true rfl) dL_law_641 hroom ?_
  refine gz_aload_n 644 hC 2 dL_law_644 rfl rfl ?_
  refine gz_aload_n 645 hC 0 dL_law_645 rfl rfl ?_
  refine gz_iload_n 646 hC 3 dL_law_646 rfl rfl ?_
  refine gz_iconst 647 hC (1 : Int32) dL_law_647 (by decide) ?_
  refine gz_iadd 648 hC dL_law_648 ?_
  refine gz_sldR 649 hC hXs hbl hbA h1 dL_law_649 ?_
  refine gz_aload_n 650 hC 0 dL_law_650 rfl rfl ?_
  refine gz_iload_n 651 hC 3 dL_law_651 rfl rfl ?_
  refine gz_iconst 652 hC (2 : Int32) dL_law_652 (by decide) ?_
  refine gz_iadd 653 hC dL_law_653 ?_
  refine gz_sldR 654 hC hXs hbl hbA h2 dL_law_654 ?_
  refine gz_cvR (st := [.int r]) 655 hC hR0 [.int (xs ((z + (1 : Int32))).toNatClampNeg), .int (xs ((z + (2 : Int32))).toNatClampNeg)] yl_X10_feed yv_X10_feed q_1257 ⟨Nat.le_of_ble_eq_true rfl, Nat.le_of_ble_eq_true rfl⟩ (gz_gd_some g2).1 (ct_X10_feed _ _ fu M1 mo (xs ((z + (1 : Int32))).toNatClampNeg) (xs ((z + (2 : Int32))).toNatClampNeg) (r, M2) e2) rfl rfl (Nat.le_of_ble_eq_true rfl) dL_law_655 hroom ?_
  refine gz_icmp_eq 658 1861 hC (A := some ()) (B := none) (y := ()) dL_law_658 (by decide) (if_pos rfl) (fun _ => ?_) (fun h => nomatch h)
  exact hk _ hI2
theorem law_c_wipe {C : gz_C} {IV : gz_M → Prop} {fu x mo b L cs sl : Nat} {xs : Nat → Int32} {z : Int32} {M : gz_M} (hop : gz_op_wipe IV fu x mo) (hI : IV M) (hC : gz_ok C code RL 4) (hR0 : gz_cy C 12 440 600000 7302250) (hXs : va_X b L xs C.1.2.2.2.2 C.1.2.2.2.2.heap) (hbl : b < C.1.2.2.2.2.heap.size) (hbA : ¬ gz_A C.2.2.2 b) (h1 : vp_in (z + (1 : Int32)) L) (h2 : vp_in (z + (2 : Int32)) L) (h3 : vp_in (z + (3 : Int32)) L) (h4 : vp_in (z + (4 : Int32)) L) (h5 : vp_in (z + (5 : Int32)) L) (hcr : cs + 43 ≤ 600000 ∧ sl + 1332 ≤ 7302250) (hk : ∀ M2, IV M2 → gz_go C (cs) (sl) M2 [(0, .ref b), (1, .ref x), (2, .ref mo), (3, .int z)] 1861 []) : gz_go C cs sl M [(0, .ref b), (1, .ref x), (2, .ref mo), (3, .int z)] 663 [] := by
  obtain ⟨r, M1, M2, e1, e2, hI2⟩ := hop M hI
  have hroom : cs + 0 ≤ 600000 ∧ sl + 0 ≤ 7302250 := ⟨by omega, by omega⟩
  have g1 := e1
  unfold f_X9_wipe at g1
  have g2 := e2
  unfold f_X10_wipe at g2
  refine gz_aload_n 663 hC 1 dL_law_663 rfl rfl ?_
  refine gz_cvR (st := []) 664 hC hR0 [] yl_X9_wipe yv_X9_wipe q_564 ⟨Nat.le_of_ble_eq_true rfl, Nat.le_of_ble_eq_true rfl⟩ (gz_gd_some g1).1 (ct_X9_wipe _ _ fu M x (r, M1) e1) rfl rfl (Nat.le_of_ble_eq_true rfl) dL_law_664 hroom ?_
  refine gz_aload_n 667 hC 2 dL_law_667 rfl rfl ?_
  refine gz_cvR (st := [.int r]) 668 hC hR0 [] yl_X10_wipe yv_X10_wipe q_1261 ⟨Nat.le_of_ble_eq_true rfl, Nat.le_of_ble_eq_true rfl⟩ (gz_gd_some g2).1 (ct_X10_wipe _ _ fu M1 mo (r, M2) e2) rfl rfl (Nat.le_of_ble_eq_true rfl) dL_law_668 hroom ?_
  refine gz_icmp_eq 671 1861 hC (A := some ()) (B := none) (y := ()) dL_law_671 (by decide) (if_pos rfl) (fun _ => ?_) (fun h => nomatch h)
  exact hk _ hI2
theorem law_c_valley {C : gz_C} {IV : gz_M → Prop} {fu x mo b L cs sl : Nat} {xs : Nat → Int32} {z : Int32} {M : gz_M} (hop : gz_op_valley IV fu x mo) (hI : IV M) (hC : gz_ok C code RL 4) (hR0 : gz_cy C 12 440 600000 7302250) (hXs : va_X b L xs C.1.2.2.2.2 C.1.2.2.2.2.heap) (hbl : b < C.1.2.2.2.2.heap.size) (hbA : ¬ gz_A C.2.2.2 b) (h1 : vp_in (z + (1 : Int32)) L) (h2 : vp_in (z + (2 : Int32)) L) (h3 : vp_in (z + (3 : Int32)) L) (h4 : vp_in (z + (4 : Int32)) L) (h5 : vp_in (z + (5 : Int32)) L) (hcr : cs + 43 ≤ 600000 ∧ sl + 1332 ≤ 7302250) (hk : ∀ M2, IV M2 → gz_go C (cs) (sl) M2 [(0, .ref b), (1, .ref x), (2, .ref mo), (3, .int z)] 1861 []) : gz_go C cs sl M [(0, .ref b), (1, .ref x), (2, .ref mo), (3, .int z)] 676 [] := by
  obtain ⟨r, M1, M2, e1, e2, hI2⟩ := hop M hI
  have hroom : cs + 0 ≤ 600000 ∧ sl + 0 ≤ 7302250 := ⟨by omega, by omega⟩
  have g1 := e1
  unfold f_X9_valley at g1
  have g2 := e2
  unfold f_X10_valley at g2
  refine gz_aload_n 676 hC 1 dL_law_676 rfl rfl ?_
  refine gz_cvR (st := []) 677 hC hR0 [] yl_X9_valley yv_X9_valley q_568 ⟨Nat.le_of_ble_eq_true rfl, Nat.le_of_ble_eq_true rfl⟩ (gz_gd_some g1).1 (ct_X9_valley _ _ fu M x (r, M1) e1) rfl rfl (Nat.le_of_ble_eq_true rfl) dL_law_677 hroom ?_
  refine gz_aload_n 680 hC 2 dL_law_680 rfl rfl ?_
  refine gz_cvR (st := [.int r]) 681 hC hR0 [] yl_X10_valley yv_X10_valley q_1265 ⟨Nat.le_of_ble_eq_true rfl, Nat.le_of_ble_eq_true rfl⟩ (gz_gd_some g2).1 (ct_X10_valley _ _ fu M1 mo (r, M2) e2) rfl rfl (Nat.le_of_ble_eq_true rfl) dL_law_681 hroom ?_
  refine gz_icmp_eq 684 1861 hC (A := some ()) (B := none) (y := ()) dL_law_684 (by decide) (if_pos rfl) (fun _ => ?_) (fun h => nomatch h)
  exact hk _ hI2
theorem law_c_valleyOf {C : gz_C} {IV : gz_M → Prop} {fu x mo b L cs sl : Nat} {xs : Nat → Int32} {z : Int32} {M : gz_M} (hop : gz_op_valleyOf IV fu x mo) (hI : IV M) (hC : gz_ok C code RL 4) (hR0 : gz_cy C 12 440 600000 7302250) (hXs : va_X b L xs C.1.2.2.2.2 C.1.2.2.2.2.heap) (hbl : b < C.1.2.2.2.2.heap.size) (hbA : ¬ gz_A C.2.2.2 b) (h1 : vp_in (z + (1 : Int32)) L) (h2 : vp_in (z + (2 : Int32)) L) (h3 : vp_in (z + (3 : Int32)) L) (h4 : vp_in (z + (4 : Int32)) L) (h5 : vp_in (z + (5 : Int32)) L) (hcr : cs + 43 ≤ 600000 ∧ sl + 1332 ≤ 7302250) (hk : ∀ M2, IV M2 → gz_go C (cs) (sl) M2 [(0, .ref b), (1, .ref x), (2, .ref mo), (3, .int z)] 1861 []) : gz_go C cs sl M [(0, .ref b), (1, .ref x), (2, .ref mo), (3, .int z)] 689 [] := by
  obtain ⟨r, M1, M2, e1, e2, hI2⟩ := hop M ((xs ((z + (1 : Int32))).toNatClampNeg)) ((xs ((z + (2 : Int32))).toNatClampNeg)) hI
  have hroom : cs + 0 ≤ 600000 ∧ sl + 0 ≤ 7302250 := ⟨by omega, by omega⟩
  have g1 := e1
  unfold f_X9_valleyOf at g1
  have g2 := e2
  unfold f_X10_valleyOf at g2
  refine gz_aload_n 689 hC 1 dL_law_689 rfl rfl ?_
  refine gz_aload_n 690 hC 0 dL_law_690 rfl rfl ?_
  refine gz_iload_n 691 hC 3 dL_law_691 rfl rfl ?_
  refine gz_iconst 692 hC (1 : Int32) dL_law_692 (by decide) ?_
  refine gz_iadd 693 hC dL_law_693 ?_
  refine gz_sldR 694 hC hXs hbl hbA h1 dL_law_694 ?_
  refine gz_aload_n 695 hC 0 dL_law_695 rfl rfl ?_
  refine gz_iload_n 696 hC 3 dL_law_696 rfl rfl ?_
  refine gz_iconst 697 hC (2 : Int32) dL_law_697 (by decide) ?_
  refine gz_iadd 698 hC dL_law_698 ?_
  refine gz_sldR 699 hC hXs hbl hbA h2 dL_law_699 ?_
  refine gz_cvR (st := []) 700 hC hR0 [.int (xs ((z + (1 : Int32))).toNatClampNeg), .int (xs ((z + (2 : Int32))).toNatClampNeg)] yl_X9_valleyOf yv_X9_valleyOf q_698 ⟨Nat.le_of_ble_eq_true rfl, Nat.le_of_ble_eq_true rfl⟩ (gz_gd_some g1).1 (ct_X9_valleyOf _ _ fu M x (xs ((z + (1 : Int32))).toNatClampNeg) (xs ((z + (2 : Int32))).toNatClampNeg) (r, M1) e1) rfl rfl (Nat.le_of_ble_eq_true rfl) dL_law_700 hroom ?_
  refine gz_aload_n 703 hC 2 dL_law_703 rfl rfl ?_
  refine gz_aload_n 704 hC 0 dL_law_704 rfl rfl ?_
  refine gz_iload_n 705 hC 3 dL_law_705 rfl rfl ?_
  refine gz_iconst 706 hC (1 : Int32) dL_law_706 (by decide) ?_
  refine gz_iadd 707 hC dL_law_707 ?_
  refine gz_sldR 708 hC hXs hbl hbA h1 dL_law_708 ?_
  refine gz_aload_n 709 hC 0 dL_law_709 rfl rfl ?_
  refine gz_iload_n 710 hC 3 dL_law_710 rfl rfl ?_
  refine gz_iconst 711 hC (2 : Int32) dL_law_711 (by decide) ?_
  refine gz_iadd 712 hC dL_law_712 ?_
  refine gz_sldR 713 hC hXs hbl hbA h2 dL_law_713 ?_
  refine gz_cvR (st := [.int r]) 714 hC hR0 [.int (xs ((z + (1 : Int32))).toNatClampNeg), .int (xs ((z + (2 : Int32))).toNatClampNeg)] yl_X10_valleyOf yv_X10_valleyOf q_1317 ⟨Nat.le_of_ble_eq_true rfl, Nat.le_of_ble_eq_true rfl⟩ (gz_gd_some g2).1 (ct_X10_valleyOf _ _ fu M1 mo (xs ((z + (1 : Int32))).toNatClampNeg) (xs ((z + (2 : Int32))).toNatClampNeg) (r, M2) e2) rfl rfl (Nat.le_of_ble_eq_true rfl) dL_law_714 hroom ?_
  refine gz_icmp_eq 717 1861 hC (A := some ()) (B := none) (y := ()) dL_law_717 (by decide) (if_pos rfl) (fun _ => ?_) (fun h => nomatch h)
  exact hk _ hI2
theorem law_c_footOf {C : gz_C} {IV : gz_M → Prop} {fu x mo b L cs sl : Nat} {xs : Nat → Int32} {z : Int32} {M : gz_M} (hop : gz_op_footOf IV fu x mo) (hI : IV M) (hC : gz_ok C code RL 4) (hR0 : gz_cy C 12 440 600000 7302250) (hXs : va_X b L xs C.1.2.2.2.2 C.1.2.2.2.2.heap) (hbl : b < C.1.2.2.2.2.heap.size) (hbA : ¬ gz_A C.2.2.2 b) (h1 : vp_in (z + (1 : Int32)) L) (h2 : vp_in (z + (2 : Int32)) L) (h3 : vp_in (z + (3 : Int32)) L) (h4 : vp_in (z + (4 : Int32)) L) (h5 : vp_in (z + (5 : Int32)) L) (hcr : cs + 43 ≤ 600000 ∧ sl + 1332 ≤ 7302250) (hk : ∀ M2, IV M2 → gz_go C (cs) (sl) M2 [(0, .ref b), (1, .ref x), (2, .ref mo), (3, .int z)] 1861 []) : gz_go C cs sl M [(0, .ref b), (1, .ref x), (2, .ref mo), (3, .int z)] 722 [] := by
  obtain ⟨r, M1, M2, e1, e2, hI2⟩ := hop M ((xs ((z + (1 : Int32))).toNatClampNeg)) ((xs ((z + (2 : Int32))).toNatClampNeg)) ((xs ((z + (3 : Int32))).toNatClampNeg)) hI
  have hroom : cs + 0 ≤ 600000 ∧ sl + 0 ≤ 7302250 := ⟨by omega, by omega⟩
  have g1 := e1
  unfold f_X9_footOf at g1
  have g2 := e2
  unfold f_X10_footOf at g2
  refine gz_aload_n 722 hC 1 dL_law_722 rfl rfl ?_
  refine gz_aload_n 723 hC 0 dL_law_723 rfl rfl ?_
  refine gz_iload_n 724 hC 3 dL_law_724 rfl rfl ?_
  refine gz_iconst 725 hC (1 : Int32) dL_law_725 (by decide) ?_
  refine gz_iadd 726 hC dL_law_726 ?_
  refine gz_sldR 727 hC hXs hbl hbA h1 dL_law_727 ?_
  refine gz_aload_n 728 hC 0 dL_law_728 rfl rfl ?_
  refine gz_iload_n 729 hC 3 dL_law_729 rfl rfl ?_
  refine gz_iconst 730 hC (2 : Int32) dL_law_730 (by decide) ?_
  refine gz_iadd 731 hC dL_law_731 ?_
  refine gz_sldR 732 hC hXs hbl hbA h2 dL_law_732 ?_
  refine gz_aload_n 733 hC 0 dL_law_733 rfl rfl ?_
  refine gz_iload_n 734 hC 3 dL_law_734 rfl rfl ?_
  refine gz_iconst 735 hC (3 : Int32) dL_law_735 (by decide) ?_
  refine gz_iadd 736 hC dL_law_736 ?_
  refine gz_sldR 737 hC hXs hbl hbA h3 dL_law_737 ?_
  refine gz_cvR (st := []) 738 hC hR0 [.int (xs ((z + (1 : Int32))).toNatClampNeg), .int (xs ((z + (2 : Int32))).toNatClampNeg), .int (xs ((z + (3 : Int32))).toNatClampNeg)] yl_X9_footOf yv_X9_footOf q_706 ⟨Nat.le_of_ble_eq_true rfl, Nat.le_of_ble_eq_true rfl⟩ (gz_gd_some g1).1 (ct_X9_footOf _ _ fu M x (xs ((z + (1 : Int32))).toNatClampNeg) (xs ((z + (2 : Int32))).toNatClampNeg) (xs ((z + (3 : Int32))).toNatClampNeg) (r, M1) e1) rfl rfl (Nat.le_of_ble_eq_true rfl) dL_law_738 hroom ?_
  refine gz_aload_n 741 hC 2 dL_law_741 rfl rfl ?_
  refine gz_aload_n 742 hC 0 dL_law_742 rfl rfl ?_
  refine gz_iload_n 743 hC 3 dL_law_743 rfl rfl ?_
  refine gz_iconst 744 hC (1 : Int32) dL_law_744 (by decide) ?_
  refine gz_iadd 745 hC dL_law_745 ?_
  refine gz_sldR 746 hC hXs hbl hbA h1 dL_law_746 ?_
  refine gz_aload_n 747 hC 0 dL_law_747 rfl rfl ?_
  refine gz_iload_n 748 hC 3 dL_law_748 rfl rfl ?_
  refine gz_iconst 749 hC (2 : Int32) dL_law_749 (by decide) ?_
  refine gz_iadd 750 hC dL_law_750 ?_
  refine gz_sldR 751 hC hXs hbl hbA h2 dL_law_751 ?_
  refine gz_aload_n 752 hC 0 dL_law_752 rfl rfl ?_
  refine gz_iload_n 753 hC 3 dL_law_753 rfl rfl ?_
  refine gz_iconst 754 hC (3 : Int32) dL_law_754 (by decide) ?_
  refine gz_iadd 755 hC dL_law_755 ?_
  refine gz_sldR 756 hC hXs hbl hbA h3 dL_law_756 ?_
  refine gz_cvR (st := [.int r]) 757 hC hR0 [.int (xs ((z + (1 : Int32))).toNatClampNeg), .int (xs ((z + (2 : Int32))).toNatClampNeg), .int (xs ((z + (3 : Int32))).toNatClampNeg)] yl_X10_footOf yv_X10_footOf q_1325 ⟨Nat.le_of_ble_eq_true rfl, Nat.le_of_ble_eq_true rfl⟩ (gz_gd_some g2).1 (ct_X10_footOf _ _ fu M1 mo (xs ((z + (1 : Int32))).toNatClampNeg) (xs ((z + (2 : Int32))).toNatClampNeg) (xs ((z + (3 : Int32))).toNatClampNeg) (r, M2) e2) rfl rfl (Nat.le_of_ble_eq_true rfl) dL_law_757 hroom ?_
  refine gz_icmp_eq 760 1861 hC (A := some ()) (B := none) (y := ()) dL_law_760 (by decide) (if_pos rfl) (fun _ => ?_) (fun h => nomatch h)
  exact hk _ hI2
theorem law_c_lastOf {C : gz_C} {IV : gz_M → Prop} {fu x mo b L cs sl : Nat} {xs : Nat → Int32} {z : Int32} {M : gz_M} (hop : gz_op_lastOf IV fu x mo) (hI : IV M) (hC : gz_ok C code RL 4) (hR0 : gz_cy C 12 440 600000 7302250) (hXs : va_X b L xs C.1.2.2.2.2 C.1.2.2.2.2.heap) (hbl : b < C.1.2.2.2.2.heap.size) (hbA : ¬ gz_A C.2.2.2 b) (h1 : vp_in (z + (1 : Int32)) L) (h2 : vp_in (z + (2 : Int32)) L) (h3 : vp_in (z + (3 : Int32)) L) (h4 : vp_in (z + (4 : Int32)) L) (h5 : vp_in (z + (5 : Int32)) L) (hcr : cs + 43 ≤ 600000 ∧ sl + 1332 ≤ 7302250) (hk : ∀ M2, IV M2 → gz_go C (cs) (sl) M2 [(0, .ref b), (1, .ref x), (2, .ref mo), (3, .int z)] 1861 []) : gz_go C cs sl M [(0, .ref b), (1, .ref x), (2, .ref mo), (3, .int z)] 765 [] := by
  obtain ⟨r, M1, M2, e1, e2, hI2⟩ := hop M ((xs ((z + (1 : Int32))).toNatClampNeg)) ((xs ((z + (2 : Int32))).toNatClampNeg)) ((xs ((z + (3 : Int32))).toNatClampNeg)) hI
  have hroom : cs + 0 ≤ 600000 ∧ sl + 0 ≤ 7302250 := ⟨by omega, by omega⟩
  have g1 := e1
  unfold f_X9_lastOf at g1
  have g2 := e2
  unfold f_X10_lastOf at g2
  refine gz_aload_n 765 hC 1 dL_law_765 rfl rfl ?_
  refine gz_aload_n 766 hC 0 dL_law_766 rfl rfl ?_
  refine gz_iload_n 767 hC 3 dL_law_767 rfl rfl ?_
  refine gz_iconst 768 hC (1 : Int32) dL_law_768 (by decide) ?_
  refine gz_iadd 769 hC dL_law_769 ?_
  refine gz_sldR 770 hC hXs hbl hbA h1 dL_law_770 ?_
  refine gz_aload_n 771 hC 0 dL_law_771 rfl rfl ?_
  refine gz_iload_n 772 hC 3 dL_law_772 rfl rfl ?_
  refine gz_iconst 773 hC (2 : Int32) dL_law_773 (by decide) ?_
  refine gz_iadd 774 hC dL_law_774 ?_
  refine gz_sldR 775 hC hXs hbl hbA h2 dL_law_775 ?_
  refine gz_aload_n 776 hC 0 dL_law_776 rfl rfl ?_
  refine gz_iload_n 777 hC 3 dL_law_777 rfl rfl ?_
  refine gz_iconst 778 hC (3 : Int32) dL_law_778 (by decide) ?_
  refine gz_iadd 779 hC dL_law_779 ?_
  refine gz_sldR 780 hC hXs hbl hbA h3 dL_law_780 ?_
  refine gz_cvR (st := []) 781 hC hR0 [.int (xs ((z + (1 : Int32))).toNatClampNeg), .int (xs ((z + (2 : Int32))).toNatClampNeg), .int (xs ((z + (3 : Int32))).toNatClampNeg)] yl_X9_lastOf yv_X9_lastOf q_711 ⟨Nat.le_of_ble_eq_true rfl, Nat.le_of_ble_eq_true rfl⟩ (gz_gd_some g1).1 (ct_X9_lastOf _ _ fu M x (xs ((z + (1 : Int32))).toNatClampNeg) (xs ((z + (2 : Int32))).toNatClampNeg) (xs ((z + (3 : Int32))).toNatClampNeg) (r, M1) e1) rfl rfl (Nat.le_of_ble_eq_true rfl) dL_law_781 hroom ?_
  refine gz_aload_n 784 hC 2 dL_law_784 rfl rfl ?_
  refine gz_aload_n 785 hC 0 dL_law_785 rfl rfl ?_
  refine gz_iload_n 786 hC 3 dL_law_786 rfl rfl ?_
  refine gz_iconst 787 hC (1 : Int32) dL_law_787 (by decide) ?_
  refine gz_iadd 788 hC dL_law_788 ?_
  refine gz_sldR 789 hC hXs hbl hbA h1 dL_law_789 ?_
  refine gz_aload_n 790 hC 0 dL_law_790 rfl rfl ?_
  refine gz_iload_n 791 hC 3 dL_law_791 rfl rfl ?_
  refine gz_iconst 792 hC (2 : Int32) dL_law_792 (by decide) ?_
  refine gz_iadd 793 hC dL_law_793 ?_
  refine gz_sldR 794 hC hXs hbl hbA h2 dL_law_794 ?_
  refine gz_aload_n 795 hC 0 dL_law_795 rfl rfl ?_
  refine gz_iload_n 796 hC 3 dL_law_796 rfl rfl ?_
  refine gz_iconst 797 hC (3 : Int32) dL_law_797 (by decide) ?_
  refine gz_iadd 798 hC dL_law_798 ?_
  refine gz_sldR 799 hC hXs hbl hbA h3 dL_law_799 ?_
  refine gz_cvR (st := [.int r]) 800 hC hR0 [.int (xs ((z + (1 : Int32))).toNatClampNeg), .int (xs ((z + (2 : Int32))).toNatClampNeg), .int (xs ((z + (3 : Int32))).toNatClampNeg)] yl_X10_lastOf yv_X10_lastOf q_1329 ⟨Nat.le_of_ble_eq_true rfl, Nat.le_of_ble_eq_true rfl⟩ (gz_gd_some g2).1 (ct_X10_lastOf _ _ fu M1 mo (xs ((z + (1 : Int32))).toNatClampNeg) (xs ((z + (2 : Int32))).toNatClampNeg) (xs ((z + (3 : Int32))).toNatClampNeg) (r, M2) e2) rfl rfl (Nat.le_of_ble_eq_true rfl) dL_law_800 hroom ?_
  refine gz_icmp_eq 803 1861 hC (A := some ()) (B := none) (y := ()) dL_law_803 (by decide) (if_pos rfl) (fun _ => ?_) (fun h => nomatch h)
  exact hk _ hI2
theorem law_c_feet {C : gz_C} {IV : gz_M → Prop} {fu x mo b L cs sl : Nat} {xs : Nat → Int32} {z : Int32} {M : gz_M} (hop : gz_op_feet IV fu x mo) (hI : IV M) (hC : gz_ok C code RL 4) (hR0 : gz_cy C 12 440 600000 7302250) (hXs : va_X b L xs C.1.2.2.2.2 C.1.2.2.2.2.heap) (hbl : b < C.1.2.2.2.2.heap.size) (hbA : ¬ gz_A C.2.2.2 b) (h1 : vp_in (z + (1 : Int32)) L) (h2 : vp_in (z + (2 : Int32)) L) (h3 : vp_in (z + (3 : Int32)) L) (h4 : vp_in (z + (4 : Int32)) L) (h5 : vp_in (z + (5 : Int32)) L) (hcr : cs + 43 ≤ 600000 ∧ sl + 1332 ≤ 7302250) (hk : ∀ M2, IV M2 → gz_go C (cs) (sl) M2 [(0, .ref b), (1, .ref x), (2, .ref mo), (3, .int z)] 1861 []) : gz_go C cs sl M [(0, .ref b), (1, .ref x), (2, .ref mo), (3, .int z)] 808 [] := by
  obtain ⟨r, M1, M2, e1, e2, hI2⟩ := hop M ((xs ((z + (1 : Int32))).toNatClampNeg)) ((xs ((z + (2 : Int32))).toNatClampNeg)) hI
  have hroom : cs + 0 ≤ 600000 ∧ sl + 0 ≤ 7302250 := ⟨by omega, by omega⟩
  have g1 := e1
  unfold f_X9_feet at g1
  have g2 := e2
  unfold f_X10_feet at g2
  refine gz_aload_n 808 hC 1 dL_law_808 rfl rfl ?_
  refine gz_aload_n 809 hC 0 dL_law_809 rfl rfl ?_
  refine gz_iload_n 810 hC 3 dL_law_810 rfl rfl ?_
  refine gz_iconst 811 hC (1 : Int32) dL_law_811 (by decide) ?_
  refine gz_iadd 812 hC dL_law_812 ?_
  refine gz_sldR 813 hC hXs hbl hbA h1 dL_law_813 ?_
  refine gz_aload_n 814 hC 0 dL_law_814 rfl rfl ?_
  refine gz_iload_n 815 hC 3 dL_law_815 rfl rfl ?_
  refine gz_iconst 816 hC (2 : Int32) dL_law_816 (by decide) ?_
  refine gz_iadd 817 hC dL_law_817 ?_
  refine gz_sldR 818 hC hXs hbl hbA h2 dL_law_818 ?_
  refine gz_cvR (st := []) 819 hC hR0 [.int (xs ((z + (1 : Int32))).toNatClampNeg), .int (xs ((z + (2 : Int32))).toNatClampNeg)] yl_X9_feet yv_X9_feet q_720 ⟨Nat.le_of_ble_eq_true rfl, Nat.le_of_ble_eq_true rfl⟩ (gz_gd_some g1).1 (ct_X9_feet _ _ fu M x (xs ((z + (1 : Int32))).toNatClampNeg) (xs ((z + (2 : Int32))).toNatClampNeg) (r, M1) e1) rfl rfl (Nat.le_of_ble_eq_true rfl) dL_law_819 hroom ?_
  refine gz_aload_n 822 hC 2 dL_law_822 rfl rfl ?_
  refine gz_aload_n 823 hC 0 dL_law_823 rfl rfl ?_
  refine gz_iload_n 824 hC 3 dL_law_824 rfl rfl ?_
  refine gz_iconst 825 hC (1 : Int32) dL_law_825 (by decide) ?_
  refine gz_iadd 826 hC dL_law_826 ?_
  refine gz_sldR 827 hC hXs hbl hbA h1 dL_law_827 ?_
  refine gz_aload_n 828 hC 0 dL_law_828 rfl rfl ?_
  refine gz_iload_n 829 hC 3 dL_law_829 rfl rfl ?_
  refine gz_iconst 830 hC (2 : Int32) dL_law_830 (by decide) ?_
  refine gz_iadd 831 hC dL_law_831 ?_
  refine gz_sldR 832 hC hXs hbl hbA h2 dL_law_832 ?_
  refine gz_cvR (st := [.int r]) 833 hC hR0 [.int (xs ((z + (1 : Int32))).toNatClampNeg), .int (xs ((z + (2 : Int32))).toNatClampNeg)] yl_X10_feet yv_X10_feet q_1338 ⟨Nat.le_of_ble_eq_true rfl, Nat.le_of_ble_eq_true rfl⟩ (gz_gd_some g2).1 (ct_X10_feet _ _ fu M1 mo (xs ((z + (1 : Int32))).toNatClampNeg) (xs ((z + (2 : Int32))).toNatClampNeg) (r, M2) e2) rfl rfl (Nat.le_of_ble_eq_true rfl) dL_law_833 hroom ?_
  refine gz_icmp_eq 836 1861 hC (A := some ()) (B := none) (y := ()) dL_law_836 (by decide) (if_pos rfl) (fun _ => ?_) (fun h => nomatch h)
  exact hk _ hI2
theorem law_c_alter {C : gz_C} {IV : gz_M → Prop} {fu x mo b L cs sl : Nat} {xs : Nat → Int32} {z : Int32} {M : gz_M} (hop : gz_op_alter IV fu x mo) (hI : IV M) (hC : gz_ok C code RL 4) (hR0 : gz_cy C 12 440 600000 7302250) (hXs : va_X b L xs C.1.2.2.2.2 C.1.2.2.2.2.heap) (hbl : b < C.1.2.2.2.2.heap.size) (hbA : ¬ gz_A C.2.2.2 b) (h1 : vp_in (z + (1 : Int32)) L) (h2 : vp_in (z + (2 : Int32)) L) (h3 : vp_in (z + (3 : Int32)) L) (h4 : vp_in (z + (4 : Int32)) L) (h5 : vp_in (z + (5 : Int32)) L) (hcr : cs + 43 ≤ 600000 ∧ sl + 1332 ≤ 7302250) (hk : ∀ M2, IV M2 → gz_go C (cs) (sl) M2 [(0, .ref b), (1, .ref x), (2, .ref mo), (3, .int z)] 1861 []) : gz_go C cs sl M [(0, .ref b), (1, .ref x), (2, .ref mo), (3, .int z)] 841 [] := by
  obtain ⟨r, M1, M2, e1, e2, hI2⟩ := hop M ((xs ((z + (1 : Int32))).toNatClampNeg)) ((xs ((z + (2 : Int32))).toNatClampNeg)) ((xs ((z + (3 : Int32))).toNatClampNeg)) ((xs ((z + (4 : Int32))).toNatClampNeg)) hI
  have hroom : cs + 0 ≤ 600000 ∧ sl + 0 ≤ 7302250 := ⟨by omega, by omega⟩
  have g1 := e1
  unfold f_X9_alter at g1
  have g2 := e2
  unfold f_X10_alter at g2
  refine gz_aload_n 841 hC 1 dL_law_841 rfl rfl ?_
  refine gz_aload_n 842 hC 0 dL_law_842 rfl rfl ?_
  refine gz_iload_n 843 hC 3 dL_law_843 rfl rfl ?_
  refine gz_iconst 844 hC (1 : Int32) dL_law_844 (by decide) ?_
  refine gz_iadd 845 hC dL_law_845 ?_
  refine gz_sldR 846 hC hXs hbl hbA h1 dL_law_846 ?_
  refine gz_aload_n 847 hC 0 dL_law_847 rfl rfl ?_
  refine gz_iload_n 848 hC 3 dL_law_848 rfl rfl ?_
  refine gz_iconst 849 hC (2 : Int32) dL_law_849 (by decide) ?_
  refine gz_iadd 850 hC dL_law_850 ?_
  refine gz_sldR 851 hC hXs hbl hbA h2 dL_law_851 ?_
  refine gz_aload_n 852 hC 0 dL_law_852 rfl rfl ?_
  refine gz_iload_n 853 hC 3 dL_law_853 rfl rfl ?_
  refine gz_iconst 854 hC (3 : Int32) dL_law_854 (by decide) ?_
  refine gz_iadd 855 hC dL_law_855 ?_
  refine gz_sldR 856 hC hXs hbl hbA h3 dL_law_856 ?_
  refine gz_aload_n 857 hC 0 dL_law_857 rfl rfl ?_
  refine gz_iload_n 858 hC 3 dL_law_858 rfl rfl ?_
  refine gz_iconst 859 hC (4 : Int32) dL_law_859 (by decide) ?_
  refine gz_iadd 860 hC dL_law_860 ?_
  refine gz_sldR 861 hC hXs hbl hbA h4 dL_law_861 ?_
  refine gz_cvR (st := []) 862 hC hR0 [.int (xs ((z + (1 : Int32))).toNatClampNeg), .int (xs ((z + (2 : Int32))).toNatClampNeg), .int (xs ((z + (3 : Int32))).toNatClampNeg), .int (xs ((z + (4 : Int32))).toNatClampNeg)] yl_X9_alter yv_X9_alter q_732 ⟨Nat.le_of_ble_eq_true rfl, Nat.le_of_ble_eq_true rfl⟩ (gz_gd_some g1).1 (ct_X9_alter _ _ fu M x (xs ((z + (1 : Int32))).toNatClampNeg) (xs ((z + (2 : Int32))).toNatClampNeg) (xs ((z + (3 : Int32))).toNatClampNeg) (xs ((z + (4 : Int32))).toNatClampNeg) (r, M1) e1) rfl rfl (Nat.le_of_ble_eq_true rfl) dL_law_862 hroom ?_
  refine gz_aload_n 865 hC 2 dL_law_865 rfl rfl ?_
  refine gz_aload_n 866 hC 0 dL_law_866 rfl rfl ?_
  refine gz_iload_n 867 hC 3 dL_law_867 rfl rfl ?_
  refine gz_iconst 868 hC (1 : Int32) dL_law_868 (by decide) ?_
  refine gz_iadd 869 hC dL_law_869 ?_
  refine gz_sldR 870 hC hXs hbl hbA h1 dL_law_870 ?_
  refine gz_aload_n 871 hC 0 dL_law_871 rfl rfl ?_
  refine gz_iload_n 872 hC 3 dL_law_872 rfl rfl ?_
  refine gz_iconst 873 hC (2 : Int32) dL_law_873 (by decide) ?_
  refine gz_iadd 874 hC dL_law_874 ?_
  refine gz_sldR 875 hC hXs hbl hbA h2 dL_law_875 ?_
  refine gz_aload_n 876 hC 0 dL_law_876 rfl rfl ?_
  refine gz_iload_n 877 hC 3 dL_law_877 rfl rfl ?_
  refine gz_iconst 878 hC (3 : Int32) dL_law_878 (by decide) ?_
  refine gz_iadd 879 hC dL_law_879 ?_
  refine gz_sldR 880 hC hXs hbl hbA h3 dL_law_880 ?_
  refine gz_aload_n 881 hC 0 dL_law_881 rfl rfl ?_
  refine gz_iload_n 882 hC 3 dL_law_882 rfl rfl ?_
  refine gz_iconst 883 hC (4 : Int32) dL_law_883 (by decide) ?_
  refine gz_iadd 884 hC dL_law_884 ?_
  refine gz_sldR 885 hC hXs hbl hbA h4 dL_law_885 ?_
  refine gz_cvR (st := [.int r]) 886 hC hR0 [.int (xs ((z + (1 : Int32))).toNatClampNeg), .int (xs ((z + (2 : Int32))).toNatClampNeg), .int (xs ((z + (3 : Int32))).toNatClampNeg), .int (xs ((z + (4 : Int32))).toNatClampNeg)] yl_X10_alter yv_X10_alter q_1343 ⟨Nat.le_of_ble_eq_true rfl, Nat.le_of_ble_eq_true rfl⟩ (gz_gd_some g2).1 (ct_X10_alter _ _ fu M1 mo (xs ((z + (1 : Int32))).toNatClampNeg) (xs ((z + (2 : Int32))).toNatClampNeg) (xs ((z + (3 : Int32))).toNatClampNeg) (xs ((z + (4 : Int32))).toNatClampNeg) (r, M2) e2) rfl rfl (Nat.le_of_ble_eq_true rfl) dL_law_886 hroom ?_
  refine gz_icmp_eq 889 1861 hC (A := some ()) (B := none) (y := ()) dL_law_889 (by decide) (if_pos rfl) (fun _ => ?_) (fun h => nomatch h)
  exact hk _ hI2
theorem law_c_carve {C : gz_C} {IV : gz_M → Prop} {fu x mo b L cs sl : Nat} {xs : Nat → Int32} {z : Int32} {M : gz_M} (hop : gz_op_carve IV fu x mo) (hI : IV M) (hC : gz_ok C code RL 4) (hR0 : gz_cy C 12 440 600000 7302250) (hXs : va_X b L xs C.1.2.2.2.2 C.1.2.2.2.2.heap) (hbl : b < C.1.2.2.2.2.heap.size) (hbA : ¬ gz_A C.2.2.2 b) (h1 : vp_in (z + (1 : Int32)) L) (h2 : vp_in (z + (2 : Int32)) L) (h3 : vp_in (z + (3 : Int32)) L) (h4 : vp_in (z + (4 : Int32)) L) (h5 : vp_in (z + (5 : Int32)) L) (hcr : cs + 43 ≤ 600000 ∧ sl + 1332 ≤ 7302250) (hk : ∀ M2, IV M2 → gz_go C (cs) (sl) M2 [(0, .ref b), (1, .ref x), (2, .ref mo), (3, .int z)] 1861 []) : gz_go C cs sl M [(0, .ref b), (1, .ref x), (2, .ref mo), (3, .int z)] 894 [] := by
  obtain ⟨r, M1, M2, e1, e2, hI2⟩ := hop M ((xs ((z + (1 : Int32))).toNatClampNeg)) ((xs ((z + (2 : Int32))).toNatClampNeg)) ((xs ((z + (3 : Int32))).toNatClampNeg)) ((xs ((z + (4 : Int32))).toNatClampNeg)) hI
  have hroom : cs + 0 ≤ 600000 ∧ sl + 0 ≤ 7302250 := ⟨by omega, by omega⟩
  have g1 := e1
  unfold f_X9_carve at g1
  have g2 := e2
  unfold f_X10_carve at g2
  refine gz_aload_n 894 hC 1 dL_law_894 rfl rfl ?_
  refine gz_aload_n 895 hC 0 dL_law_895 rfl rfl ?_
  refine gz_iload_n 896 hC 3 dL_law_896 rfl rfl ?_
  refine gz_iconst 897 hC (1 : Int32) dL_law_897 (by decide) ?_
  refine gz_iadd 898 hC dL_law_898 ?_
  refine gz_sldR 899 hC hXs hbl hbA h1 dL_law_899 ?_
  refine gz_aload_n 900 hC 0 dL_law_900 rfl rfl ?_
  refine gz_iload_n 901 hC 3 dL_law_901 rfl rfl ?_
  refine gz_iconst 902 hC (2 : Int32) dL_law_902 (by decide) ?_
  refine gz_iadd 903 hC dL_law_903 ?_
  refine gz_sldR 904 hC hXs hbl hbA h2 dL_law_904 ?_
  refine gz_aload_n 905 hC 0 dL_law_905 rfl rfl ?_
  refine gz_iload_n 906 hC 3 dL_law_906 rfl rfl ?_
  refine gz_iconst 907 hC (3 : Int32) dL_law_907 (by decide) ?_
  refine gz_iadd 908 hC dL_law_908 ?_
  refine gz_sldR 909 hC hXs hbl hbA h3 dL_law_909 ?_
  refine gz_aload_n 910 hC 0 dL_law_910 rfl rfl ?_
  refine gz_iload_n 911 hC 3 dL_law_911 rfl rfl ?_
  refine gz_iconst 912 hC (4 : Int32) dL_law_912 (by decide) ?_
  refine gz_iadd 913 hC dL_law_913 ?_
  refine gz_sldR 914 hC hXs hbl hbA h4 dL_law_914 ?_
  refine gz_cvR (st := []) 915 hC hR0 [.int (xs ((z + (1 : Int32))).toNatClampNeg), .int (xs ((z + (2 : Int32))).toNatClampNeg), .int (xs ((z + (3 : Int32))).toNatClampNeg), .int (xs ((z + (4 : Int32))).toNatClampNeg)] yl_X9_carve yv_X9_carve q_736 ⟨Nat.le_of_ble_eq_true rfl, Nat.le_of_ble_eq_true rfl⟩ (gz_gd_some g1).1 (ct_X9_carve _ _ fu M x (xs ((z + (1 : Int32))).toNatClampNeg) (xs ((z + (2 : Int32))).toNatClampNeg) (xs ((z + (3 : Int32))).toNatClampNeg) (xs ((z + (4 : Int32))).toNatClampNeg) (r, M1) e1) rfl rfl (Nat.le_of_ble_eq_true rfl) dL_law_915 hroom ?_
  refine gz_aload_n 918 hC 2 dL_law_918 rfl rfl ?_
  refine gz_aload_n 919 hC 0 dL_law_919 rfl rfl ?_
  refine gz_iload_n 920 hC 3 dL_law_920 rfl rfl ?_
  refine gz_iconst 921 hC (1 : Int32) dL_law_921 (by decide) ?_
  refine gz_iadd 922 hC dL_law_922 ?_
  refine gz_sldR 923 hC hXs hbl hbA h1 dL_law_923 ?_
  refine gz_aload_n 924 hC 0 dL_law_924 rfl rfl ?_
  refine gz_iload_n 925 hC 3 dL_law_925 rfl rfl ?_
  refine gz_iconst 926 hC (2 : Int32) dL_law_926 (by decide) ?_
  refine gz_iadd 927 hC dL_law_927 ?_
  refine gz_sldR 928 hC hXs hbl hbA h2 dL_law_928 ?_
  refine gz_aload_n 929 hC 0 dL_law_929 rfl rfl ?_
  refine gz_iload_n 930 hC 3 dL_law_930 rfl rfl ?_
  refine gz_iconst 931 hC (3 : Int32) dL_law_931 (by decide) ?_
  refine gz_iadd 932 hC dL_law_932 ?_
  refine gz_sldR 933 hC hXs hbl hbA h3 dL_law_933 ?_
  refine gz_aload_n 934 hC 0 dL_law_934 rfl rfl ?_
  refine gz_iload_n 935 hC 3 dL_law_935 rfl rfl ?_
  refine gz_iconst 936 hC (4 : Int32) dL_law_936 (by decide) ?_
  refine gz_iadd 937 hC dL_law_937 ?_
  refine gz_sldR 938 hC hXs hbl hbA h4 dL_law_938 ?_
  refine gz_cvR (st := [.int r]) 939 hC hR0 [.int (xs ((z + (1 : Int32))).toNatClampNeg), .int (xs ((z + (2 : Int32))).toNatClampNeg), .int (xs ((z + (3 : Int32))).toNatClampNeg), .int (xs ((z + (4 : Int32))).toNatClampNeg)] yl_X10_carve yv_X10_carve q_1347 ⟨Nat.le_of_ble_eq_true rfl, Nat.le_of_ble_eq_true rfl⟩ (gz_gd_some g2).1 (ct_X10_carve _ _ fu M1 mo (xs ((z + (1 : Int32))).toNatClampNeg) (xs ((z + (2 : Int32))).toNatClampNeg) (xs ((z + (3 : Int32))).toNatClampNeg) (xs ((z + (4 : Int32))).toNatClampNeg) (r, M2) e2) rfl rfl (Nat.le_of_ble_eq_true rfl) dL_law_939 hroom ?_
  refine gz_icmp_eq 942 1861 hC (A := some ()) (B := none) (y := ()) dL_law_942 (by decide) (if_pos rfl) (fun _ => ?_) (fun h => nomatch h)
  exact hk _ hI2
theorem law_c_build {C : gz_C} {IV : gz_M → Prop} {fu x mo b L cs sl : Nat} {xs : Nat → Int32} {z : Int32} {M : gz_M} (hop : gz_op_build IV fu x mo) (hI : IV M) (hC : gz_ok C code RL 4) (hR0 : gz_cy C 12 440 600000 7302250) (hXs : va_X b L xs C.1.2.2.2.2 C.1.2.2.2.2.heap) (hbl : b < C.1.2.2.2.2.heap.size) (hbA : ¬ gz_A C.2.2.2 b) (h1 : vp_in (z + (1 : Int32)) L) (h2 : vp_in (z + (2 : Int32)) L) (h3 : vp_in (z + (3 : Int32)) L) (h4 : vp_in (z + (4 : Int32)) L) (h5 : vp_in (z + (5 : Int32)) L) (hcr : cs + 43 ≤ 600000 ∧ sl + 1332 ≤ 7302250) (hk : ∀ M2, IV M2 → gz_go C (cs) (sl) M2 [(0, .ref b), (1, .ref x), (2, .ref mo), (3, .int z)] 1861 []) : gz_go C cs sl M [(0, .ref b), (1, .ref x), (2, .ref mo), (3, .int z)] 947 [] := by
  obtain ⟨r, M1, M2, e1, e2, hI2⟩ := hop M ((xs ((z + (1 : Int32))).toNatClampNeg)) ((xs ((z + (2 : Int32))).toNatClampNeg)) ((xs ((z + (3 : Int32))).toNatClampNeg)) hI
  have hroom : cs + 0 ≤ 600000 ∧ sl + 0 ≤ 7302250 := ⟨by omega, by omega⟩
  have g1 := e1
  unfold f_X9_build at g1
  have g2 := e2
  unfold f_X10_build at g2
  refine gz_aload_n 947 hC 1 dL_law_947 rfl rfl ?_
  refine gz_aload_n 948 hC 0 dL_law_948 rfl rfl ?_
  refine gz_iload_n 949 hC 3 dL_law_949 rfl rfl ?_
  refine gz_iconst 950 hC (1 : Int32) dL_law_950 (by decide) ?_
  refine gz_iadd 951 hC dL_law_951 ?_
  refine gz_sldR 952 hC hXs hbl hbA h1 dL_law_952 ?_
  refine gz_aload_n 953 hC 0 dL_law_953 rfl rfl ?_
  refine gz_iload_n 954 hC 3 dL_law_954 rfl rfl ?_
  refine gz_iconst 955 hC (2 : Int32) dL_law_955 (by decide) ?_
  refine gz_iadd 956 hC dL_law_956 ?_
  refine gz_sldR 957 hC hXs hbl hbA h2 dL_law_957 ?_
  refine gz_aload_n 958 hC 0 dL_law_958 rfl rfl ?_
  refine gz_iload_n 959 hC 3 dL_law_959 rfl rfl ?_
  refine gz_iconst 960 hC (3 : Int32) dL_law_960 (by decide) ?_
  refine gz_iadd 961 hC dL_law_961 ?_
  refine gz_sldR 962 hC hXs hbl hbA h3 dL_law_962 ?_
  refine gz_cvR (st := []) 963 hC hR0 [.int (xs ((z + (1 : Int32))).toNatClampNeg), .int (xs ((z + (2 : Int32))).toNatClampNeg), .int (xs ((z + (3 : Int32))).toNatClampNeg)] yl_X9_build yv_X9_build q_741 ⟨Nat.le_of_ble_eq_true rfl, Nat.le_of_ble_eq_true rfl⟩ (gz_gd_some g1).1 (ct_X9_build _ _ fu M x (xs ((z + (1 : Int32))).toNatClampNeg) (xs ((z + (2 : Int32))).toNatClampNeg) (xs ((z + (3 : Int32))).toNatClampNeg) (r, M1) e1) rfl rfl (Nat.le_of_ble_eq_true rfl) dL_law_963 hroom ?_
  refine gz_aload_n 966 hC 2 dL_law_966 rfl rfl ?_
  refine gz_aload_n 967 hC 0 dL_law_967 rfl rfl ?_
  refine gz_iload_n 968 hC 3 dL_law_968 rfl rfl ?_
  refine gz_iconst 969 hC (1 : Int32) dL_law_969 (by decide) ?_
  refine gz_iadd 970 hC dL_law_970 ?_
  refine gz_sldR 971 hC hXs hbl hbA h1 dL_law_971 ?_
  refine gz_aload_n 972 hC 0 dL_law_972 rfl rfl ?_
  refine gz_iload_n 973 hC 3 dL_law_973 rfl rfl ?_
  refine gz_iconst 974 hC (2 : Int32) dL_law_974 (by decide) ?_
  refine gz_iadd 975 hC dL_law_975 ?_
  refine gz_sldR 976 hC hXs hbl hbA h2 dL_law_976 ?_
  refine gz_aload_n 977 hC 0 dL_law_977 rfl rfl ?_
  refine gz_iload_n 978 hC 3 dL_law_978 rfl rfl ?_
  refine gz_iconst 979 hC (3 : Int32) dL_law_979 (by decide) ?_
  refine gz_iadd 980 hC dL_law_980 ?_
  refine gz_sldR 981 hC hXs hbl hbA h3 dL_law_981 ?_
  refine gz_cvR (st := [.int r]) 982 hC hR0 [.int (xs ((z + (1 : Int32))).toNatClampNeg), .int (xs ((z + (2 : Int32))).toNatClampNeg), .int (xs ((z + (3 : Int32))).toNatClampNeg)] yl_X10_build yv_X10_build q_1351 ⟨Nat.le_of_ble_eq_true rfl, Nat.le_of_ble_eq_true rfl⟩ (gz_gd_some g2).1 (ct_X10_build _ _ fu M1 mo (xs ((z + (1 : Int32))).toNatClampNeg) (xs ((z + (2 : Int32))).toNatClampNeg) (xs ((z + (3 : Int32))).toNatClampNeg) (r, M2) e2) rfl rfl (Nat.le_of_ble_eq_true rfl) dL_law_982 hroom ?_
  refine gz_icmp_eq 985 1861 hC (A := some ()) (B := none) (y := ()) dL_law_985 (by decide) (if_pos rfl) (fun _ => ?_) (fun h => nomatch h)
  exact hk _ hI2
theorem law_c_year {C : gz_C} {IV : gz_M → Prop} {fu x mo b L cs sl : Nat} {xs : Nat → Int32} {z : Int32} {M : gz_M} (hop : gz_op_year IV fu x mo) (hI : IV M) (hC : gz_ok C code RL 4) (hR0 : gz_cy C 12 440 600000 7302250) (hXs : va_X b L xs C.1.2.2.2.2 C.1.2.2.2.2.heap) (hbl : b < C.1.2.2.2.2.heap.size) (hbA : ¬ gz_A C.2.2.2 b) (h1 : vp_in (z + (1 : Int32)) L) (h2 : vp_in (z + (2 : Int32)) L) (h3 : vp_in (z + (3 : Int32)) L) (h4 : vp_in (z + (4 : Int32)) L) (h5 : vp_in (z + (5 : Int32)) L) (hcr : cs + 43 ≤ 600000 ∧ sl + 1332 ≤ 7302250) (hk : ∀ M2, IV M2 → gz_go C (cs) (sl) M2 [(0, .ref b), (1, .ref x), (2, .ref mo), (3, .int z)] 1861 []) : gz_go C cs sl M [(0, .ref b), (1, .ref x), (2, .ref mo), (3, .int z)] 990 [] := by
  obtain ⟨r, M1, M2, e1, e2, hI2⟩ := hop M ((xs ((z + (1 : Int32))).toNatClampNeg)) hI
  have hroom : cs + 0 ≤ 600000 ∧ sl + 0 ≤ 7302250 := ⟨by omega, by omega⟩
  have g1 := e1
  unfold f_X9_year at g1
  have g2 := e2
  unfold f_X10_year at g2
  refine gz_aload_n 990 hC 1 dL_law_990 rfl rfl ?_
  refine gz_aload_n 991 hC 0 dL_law_991 rfl rfl ?_
  refine gz_iload_n 992 hC 3 dL_law_992 rfl rfl ?_
  refine gz_iconst 993 hC (1 : Int32) dL_law_993 (by decide) ?_
  refine gz_iadd 994 hC dL_law_994 ?_
  refine gz_sldR 995 hC hXs hbl hbA h1 dL_law_995 ?_
  refine gz_cvR (st := []) 996 hC hR0 [.int (xs ((z + (1 : Int32))).toNatClampNeg)] yl_X9_year yv_X9_year q_749 ⟨Nat.le_of_ble_eq_true rfl, Nat.le_of_ble_eq_true rfl⟩ (gz_gd_some g1).1 (ct_X9_year _ _ fu M x (xs ((z + (1 : Int32))).toNatClampNeg) (r, M1) e1) rfl rfl (Nat.le_of_ble_eq_true rfl) dL_law_996 hroom ?_
  refine gz_aload_n 999 hC 2 dL_law_999 rfl rfl ?_
  refine gz_aload_n 1000 hC 0 dL_law_1000 rfl rfl ?_
  refine gz_iload_n 1001 hC 3 dL_law_1001 rfl rfl ?_
  refine gz_iconst 1002 hC (1 : Int32) dL_law_1002 (by decide) ?_
  refine gz_iadd 1003 hC dL_law_1003 ?_
  refine gz_sldR 1004 hC hXs hbl hbA h1 dL_law_1004 ?_
  refine gz_cvR (st := [.int r]) 1005 hC hR0 [.int (xs ((z + (1 : Int32))).toNatClampNeg)] yl_X10_year yv_X10_year q_1355 ⟨Nat.le_of_ble_eq_true rfl, Nat.le_of_ble_eq_true rfl⟩ (gz_gd_some g2).1 (ct_X10_year _ _ fu M1 mo (xs ((z + (1 : Int32))).toNatClampNeg) (r, M2) e2) rfl rfl (Nat.le_of_ble_eq_true rfl) dL_law_1005 hroom ?_
  refine gz_icmp_eq 1008 1861 hC (A := some ()) (B := none) (y := ()) dL_law_1008 (by decide) (if_pos rfl) (fun _ => ?_) (fun h => nomatch h)
  exact hk _ hI2
theorem law_c_does {C : gz_C} {IV : gz_M → Prop} {fu x mo b L cs sl : Nat} {xs : Nat → Int32} {z : Int32} {M : gz_M} (hop : gz_op_does IV fu x mo) (hI : IV M) (hC : gz_ok C code RL 4) (hR0 : gz_cy C 12 440 600000 7302250) (hXs : va_X b L xs C.1.2.2.2.2 C.1.2.2.2.2.heap) (hbl : b < C.1.2.2.2.2.heap.size) (hbA : ¬ gz_A C.2.2.2 b) (h1 : vp_in (z + (1 : Int32)) L) (h2 : vp_in (z + (2 : Int32)) L) (h3 : vp_in (z + (3 : Int32)) L) (h4 : vp_in (z + (4 : Int32)) L) (h5 : vp_in (z + (5 : Int32)) L) (hcr : cs + 43 ≤ 600000 ∧ sl + 1332 ≤ 7302250) (hk : ∀ M2, IV M2 → gz_go C (cs) (sl) M2 [(0, .ref b), (1, .ref x), (2, .ref mo), (3, .int z)] 1861 []) : gz_go C cs sl M [(0, .ref b), (1, .ref x), (2, .ref mo), (3, .int z)] 1013 [] := by
  obtain ⟨r, M1, M2, e1, e2, hI2⟩ := hop M ((xs ((z + (1 : Int32))).toNatClampNeg)) ((xs ((z + (2 : Int32))).toNatClampNeg)) ((xs ((z + (3 : Int32))).toNatClampNeg)) hI
  have hroom : cs + 0 ≤ 600000 ∧ sl + 0 ≤ 7302250 := ⟨by omega, by omega⟩
  have g1 := e1
  unfold f_X9_does at g1
  have g2 := e2
  unfold f_X10_does at g2
  refine gz_aload_n 1013 hC 1 dL_law_1013 rfl rfl ?_
  refine gz_aload_n 1014 hC 0 dL_law_1014 rfl rfl ?_
  refine gz_iload_n 1015 hC 3 dL_law_1015 rfl rfl ?_
  refine gz_iconst 1016 hC (1 : Int32) dL_law_1016 (by decide) ?_
  refine gz_iadd 1017 hC dL_law_1017 ?_
  refine gz_sldR 1018 hC hXs hbl hbA h1 dL_law_1018 ?_
  refine gz_aload_n 1019 hC 0 dL_law_1019 rfl rfl ?_
  refine gz_iload_n 1020 hC 3 dL_law_1020 rfl rfl ?_
  refine gz_iconst 1021 hC (2 : Int32) dL_law_1021 (by decide) ?_
  refine gz_iadd 1022 hC dL_law_1022 ?_
  refine gz_sldR 1023 hC hXs hbl hbA h2 dL_law_1023 ?_
  refine gz_aload_n 1024 hC 0 dL_law_1024 rfl rfl ?_
  refine gz_iload_n 1025 hC 3 dL_law_1025 rfl rfl ?_
  refine gz_iconst 1026 hC (3 : Int32) dL_law_1026 (by decide) ?_
  refine gz_iadd 1027 hC dL_law_1027 ?_
  refine gz_sldR 1028 hC hXs hbl hbA h3 dL_law_1028 ?_
  refine gz_cvR (st := []) 1029 hC hR0 [.int (xs ((z + (1 : Int32))).toNatClampNeg), .int (xs ((z + (2 : Int32))).toNatClampNeg), .int (xs ((z + (3 : Int32))).toNatClampNeg)] yl_X9_does yv_X9_does q_758 ⟨Nat.le_of_ble_eq_true rfl, Nat.le_of_ble_eq_true rfl⟩ (gz_gd_some g1).1 (ct_X9_does _ _ fu M x (xs ((z + (1 : Int32))).toNatClampNeg) (xs ((z + (2 : Int32))).toNatClampNeg) (xs ((z + (3 : Int32))).toNatClampNeg) (r, M1) e1) rfl rfl (Nat.le_of_ble_eq_true rfl) dL_law_1029 hroom ?_
  refine gz_aload_n 1032 hC 2 dL_law_1032 rfl rfl ?_
  refine gz_aload_n 1033 hC 0 dL_law_1033 rfl rfl ?_
  refine gz_iload_n 1034 hC 3 dL_law_1034 rfl rfl ?_
  refine gz_iconst 1035 hC (1 : Int32) dL_law_1035 (by decide) ?_
  refine gz_iadd 1036 hC dL_law_1036 ?_
  refine gz_sldR 1037 hC hXs hbl hbA h1 dL_law_1037 ?_
  refine gz_aload_n 1038 hC 0 dL_law_1038 rfl rfl ?_
  refine gz_iload_n 1039 hC 3 dL_law_1039 rfl rfl ?_
  refine gz_iconst 1040 hC (2 : Int32) dL_law_1040 (by decide) ?_
  refine gz_iadd 1041 hC dL_law_1041 ?_
  refine gz_sldR 1042 hC hXs hbl hbA h2 dL_law_1042 ?_
  refine gz_aload_n 1043 hC 0 dL_law_1043 rfl rfl ?_
  refine gz_iload_n 1044 hC 3 dL_law_1044 rfl rfl ?_
  refine gz_iconst 1045 hC (3 : Int32) dL_law_1045 (by decide) ?_
  refine gz_iadd 1046 hC dL_law_1046 ?_
  refine gz_sldR 1047 hC hXs hbl hbA h3 dL_law_1047 ?_
  refine gz_cvR (st := [.int r]) 1048 hC hR0 [.int (xs ((z + (1 : Int32))).toNatClampNeg), .int (xs ((z + (2 : Int32))).toNatClampNeg), .int (xs ((z + (3 : Int32))).toNatClampNeg)] yl_X10_does yv_X10_does q_1363 ⟨Nat.le_of_ble_eq_true rfl, Nat.le_of_ble_eq_true rfl⟩ (gz_gd_some g2).1 (ct_X10_does _ _ fu M1 mo (xs ((z + (1 : Int32))).toNatClampNeg) (xs ((z + (2 : Int32))).toNatClampNeg) (xs ((z + (3 : Int32))).toNatClampNeg) (r, M2) e2) rfl rfl (Nat.le_of_ble_eq_true rfl) dL_law_1048 hroom ?_
  refine gz_icmp_eq 1051 1861 hC (A := some ()) (B := none) (y := ()) dL_law_1051 (by decide) (if_pos rfl) (fun _ => ?_) (fun h => nomatch h)
  exact hk _ hI2
theorem law_c_bad {C : gz_C} {IV : gz_M → Prop} {fu x mo b L cs sl : Nat} {xs : Nat → Int32} {z : Int32} {M : gz_M} (hop : gz_op_bad IV fu x mo) (hI : IV M) (hC : gz_ok C code RL 4) (hR0 : gz_cy C 12 440 600000 7302250) (hXs : va_X b L xs C.1.2.2.2.2 C.1.2.2.2.2.heap) (hbl : b < C.1.2.2.2.2.heap.size) (hbA : ¬ gz_A C.2.2.2 b) (h1 : vp_in (z + (1 : Int32)) L) (h2 : vp_in (z + (2 : Int32)) L) (h3 : vp_in (z + (3 : Int32)) L) (h4 : vp_in (z + (4 : Int32)) L) (h5 : vp_in (z + (5 : Int32)) L) (hcr : cs + 43 ≤ 600000 ∧ sl + 1332 ≤ 7302250) (hk : ∀ M2, IV M2 → gz_go C (cs) (sl) M2 [(0, .ref b), (1, .ref x), (2, .ref mo), (3, .int z)] 1861 []) : gz_go C cs sl M [(0, .ref b), (1, .ref x), (2, .ref mo), (3, .int z)] 1056 [] := by
  obtain ⟨r, M1, M2, e1, e2, hI2⟩ := hop M ((xs ((z + (1 : Int32))).toNatClampNeg)) ((xs ((z + (2 : Int32))).toNatClampNeg)) ((xs ((z + (3 : Int32))).toNatClampNeg)) hI
  have hroom : cs + 0 ≤ 600000 ∧ sl + 0 ≤ 7302250 := ⟨by omega, by omega⟩
  have g1 := e1
  unfold f_X9_bad at g1
  have g2 := e2
  unfold f_X10_bad at g2
  refine gz_aload_n 1056 hC 1 dL_law_1056 rfl rfl ?_
  refine gz_aload_n 1057 hC 0 dL_law_1057 rfl rfl ?_
  refine gz_iload_n 1058 hC 3 dL_law_1058 rfl rfl ?_
  refine gz_iconst 1059 hC (1 : Int32) dL_law_1059 (by decide) ?_
  refine gz_iadd 1060 hC dL_law_1060 ?_
  refine gz_sldR 1061 hC hXs hbl hbA h1 dL_law_1061 ?_
  refine gz_aload_n 1062 hC 0 dL_law_1062 rfl rfl ?_
  refine gz_iload_n 1063 hC 3 dL_law_1063 rfl rfl ?_
  refine gz_iconst 1064 hC (2 : Int32) dL_law_1064 (by decide) ?_
  refine gz_iadd 1065 hC dL_law_1065 ?_
  refine gz_sldR 1066 hC hXs hbl hbA h2 dL_law_1066 ?_
  refine gz_aload_n 1067 hC 0 dL_law_1067 rfl rfl ?_
  refine gz_iload_n 1068 hC 3 dL_law_1068 rfl rfl ?_
  refine gz_iconst 1069 hC (3 : Int32) dL_law_1069 (by decide) ?_
  refine gz_iadd 1070 hC dL_law_1070 ?_
  refine gz_sldR 1071 hC hXs hbl hbA h3 dL_law_1071 ?_
  refine gz_cvR (st := []) 1072 hC hR0 [.int (xs ((z + (1 : Int32))).toNatClampNeg), .int (xs ((z + (2 : Int32))).toNatClampNeg), .int (xs ((z + (3 : Int32))).toNatClampNeg)] yl_X9_bad yv_X9_bad q_763 ⟨Nat.le_of_ble_eq_true rfl, Nat.le_of_ble_eq_true rfl⟩ (gz_gd_some g1).1 (ct_X9_bad _ _ fu M x (xs ((z + (1 : Int32))).toNatClampNeg) (xs ((z + (2 : Int32))).toNatClampNeg) (xs ((z + (3 : Int32))).toNatClampNeg) (r, M1) e1) rfl rfl (Nat.le_of_ble_eq_true rfl) dL_law_1072 hroom ?_
  refine gz_aload_n 1075 hC 2 dL_law_1075 rfl rfl ?_
  refine gz_aload_n 1076 hC 0 dL_law_1076 rfl rfl ?_
  refine gz_iload_n 1077 hC 3 dL_law_1077 rfl rfl ?_
  refine gz_iconst 1078 hC (1 : Int32) dL_law_1078 (by decide) ?_
  refine gz_iadd 1079 hC dL_law_1079 ?_
  refine gz_sldR 1080 hC hXs hbl hbA h1 dL_law_1080 ?_
  refine gz_aload_n 1081 hC 0 dL_law_1081 rfl rfl ?_
  refine gz_iload_n 1082 hC 3 dL_law_1082 rfl rfl ?_
  refine gz_iconst 1083 hC (2 : Int32) dL_law_1083 (by decide) ?_
  refine gz_iadd 1084 hC dL_law_1084 ?_
  refine gz_sldR 1085 hC hXs hbl hbA h2 dL_law_1085 ?_
  refine gz_aload_n 1086 hC 0 dL_law_1086 rfl rfl ?_
  refine gz_iload_n 1087 hC 3 dL_law_1087 rfl rfl ?_
  refine gz_iconst 1088 hC (3 : Int32) dL_law_1088 (by decide) ?_
  refine gz_iadd 1089 hC dL_law_1089 ?_
  refine gz_sldR 1090 hC hXs hbl hbA h3 dL_law_1090 ?_
  refine gz_cvR (st := [.int r]) 1091 hC hR0 [.int (xs ((z + (1 : Int32))).toNatClampNeg), .int (xs ((z + (2 : Int32))).toNatClampNeg), .int (xs ((z + (3 : Int32))).toNatClampNeg)] yl_X10_bad yv_X10_bad q_1367 ⟨Nat.le_of_ble_eq_true rfl, Nat.le_of_ble_eq_true rfl⟩ (gz_gd_some g2).1 (ct_X10_bad _ _ fu M1 mo (xs ((z + (1 : Int32))).toNatClampNeg) (xs ((z + (2 : Int32))).toNatClampNeg) (xs ((z + (3 : Int32))).toNatClampNeg) (r, M2) e2) rfl rfl (Nat.le_of_ble_eq_true rfl) dL_law_1091 hroom ?_
  refine gz_icmp_eq 1094 1861 hC (A := some ()) (B := none) (y := ()) dL_law_1094 (by decide) (if_pos rfl) (fun _ => ?_) (fun h => nomatch h)
  exact hk _ hI2
theorem law_c_whose {C : gz_C} {IV : gz_M → Prop} {fu x mo b L cs sl : Nat} {xs : Nat → Int32} {z : Int32} {M : gz_M} (hop : gz_op_whose IV fu x mo) (hI : IV M) (hC : gz_ok C code RL 4) (hR0 : gz_cy C 12 440 600000 7302250) (hXs : va_X b L xs C.1.2.2.2.2 C.1.2.2.2.2.heap) (hbl : b < C.1.2.2.2.2.heap.size) (hbA : ¬ gz_A C.2.2.2 b) (h1 : vp_in (z + (1 : Int32)) L) (h2 : vp_in (z + (2 : Int32)) L) (h3 : vp_in (z + (3 : Int32)) L) (h4 : vp_in (z + (4 : Int32)) L) (h5 : vp_in (z + (5 : Int32)) L) (hcr : cs + 43 ≤ 600000 ∧ sl + 1332 ≤ 7302250) (hk : ∀ M2, IV M2 → gz_go C (cs) (sl) M2 [(0, .ref b), (1, .ref x), (2, .ref mo), (3, .int z)] 1861 []) : gz_go C cs sl M [(0, .ref b), (1, .ref x), (2, .ref mo), (3, .int z)] 1099 [] := by
  obtain ⟨r, M1, M2, e1, e2, hI2⟩ := hop M ((xs ((z + (1 : Int32))).toNatClampNeg)) ((xs ((z + (2 : Int32))).toNatClampNeg)) ((xs ((z + (3 : Int32))).toNatClampNeg)) hI
  have hroom : cs + 0 ≤ 600000 ∧ sl + 0 ≤ 7302250 := ⟨by omega, by omega⟩
  have g1 := e1
  unfold f_X9_whose at g1
  have g2 := e2
  unfold f_X10_whose at g2
  refine gz_aload_n 1099 hC 1 dL_law_1099 rfl rfl ?_
  refine gz_aload_n 1100 hC 0 dL_law_1100 rfl rfl ?_
  refine gz_iload_n 1101 hC 3 dL_law_1101 rfl rfl ?_
  refine gz_iconst 1102 hC (1 : Int32) dL_law_1102 (by decide) ?_
  refine gz_iadd 1103 hC dL_law_1103 ?_
  refine gz_sldR 1104 hC hXs hbl hbA h1 dL_law_1104 ?_
  refine gz_aload_n 1105 hC 0 dL_law_1105 rfl rfl ?_
  refine gz_iload_n 1106 hC 3 dL_law_1106 rfl rfl ?_
  refine gz_iconst 1107 hC (2 : Int32) dL_law_1107 (by decide) ?_
  refine gz_iadd 1108 hC dL_law_1108 ?_
  refine gz_sldR 1109 hC hXs hbl hbA h2 dL_law_1109 ?_
  refine gz_aload_n 1110 hC 0 dL_law_1110 rfl rfl ?_
  refine gz_iload_n 1111 hC 3 dL_law_1111 rfl rfl ?_
  refine gz_iconst 1112 hC (3 : Int32) dL_law_1112 (by decide) ?_
  refine gz_iadd 1113 hC dL_law_1113 ?_
  refine gz_sldR 1114 hC hXs hbl hbA h3 dL_law_1114 ?_
  refine gz_cvR (st := []) 1115 hC hR0 [.int (xs ((z + (1 : Int32))).toNatClampNeg), .int (xs ((z + (2 : Int32))).toNatClampNeg), .int (xs ((z + (3 : Int32))).toNatClampNeg)] yl_X9_whose yv_X9_whose q_767 ⟨Nat.le_of_ble_eq_true rfl, Nat.le_of_ble_eq_true rfl⟩ (gz_gd_some g1).1 (ct_X9_whose _ _ fu M x (xs ((z + (1 : Int32))).toNatClampNeg) (xs ((z + (2 : Int32))).toNatClampNeg) (xs ((z + (3 : Int32))).toNatClampNeg) (r, M1) e1) rfl rfl (Nat.le_of_ble_eq_true rfl) dL_law_1115 hroom ?_
  refine gz_aload_n 1118 hC 2 dL_law_1118 rfl rfl ?_
  refine gz_aload_n 1119 hC 0 dL_law_1119 rfl rfl ?_
  refine gz_iload_n 1120 hC 3 dL_law_1120 rfl rfl ?_
  refine gz_iconst 1121 hC (1 : Int32) dL_law_1121 (by decide) ?_
  refine gz_iadd 1122 hC dL_law_1122 ?_
  refine gz_sldR 1123 hC hXs hbl hbA h1 dL_law_1123 ?_
  refine gz_aload_n 1124 hC 0 dL_law_1124 rfl rfl ?_
  refine gz_iload_n 1125 hC 3 dL_law_1125 rfl rfl ?_
  refine gz_iconst 1126 hC (2 : Int32) dL_law_1126 (by decide) ?_
  refine gz_iadd 1127 hC dL_law_1127 ?_
  refine gz_sldR 1128 hC hXs hbl hbA h2 dL_law_1128 ?_
  refine gz_aload_n 1129 hC 0 dL_law_1129 rfl rfl ?_
  refine gz_iload_n 1130 hC 3 dL_law_1130 rfl rfl ?_
  refine gz_iconst 1131 hC (3 : Int32) dL_law_1131 (by decide) ?_
  refine gz_iadd 1132 hC dL_law_1132 ?_
  refine gz_sldR 1133 hC hXs hbl hbA h3 dL_law_1133 ?_
  refine gz_cvR (st := [.int r]) 1134 hC hR0 [.int (xs ((z + (1 : Int32))).toNatClampNeg), .int (xs ((z + (2 : Int32))).toNatClampNeg), .int (xs ((z + (3 : Int32))).toNatClampNeg)] yl_X10_whose yv_X10_whose q_1371 ⟨Nat.le_of_ble_eq_true rfl, Nat.le_of_ble_eq_true rfl⟩ (gz_gd_some g2).1 (ct_X10_whose _ _ fu M1 mo (xs ((z + (1 : Int32))).toNatClampNeg) (xs ((z + (2 : Int32))).toNatClampNeg) (xs ((z + (3 : Int32))).toNatClampNeg) (r, M2) e2) rfl rfl (Nat.le_of_ble_eq_true rfl) dL_law_1134 hroom ?_
  refine gz_icmp_eq 1137 1861 hC (A := some ()) (B := none) (y := ()) dL_law_1137 (by decide) (if_pos rfl) (fun _ => ?_) (fun h => nomatch h)
  exact hk _ hI2
theorem law_c_total {C : gz_C} {IV : gz_M → Prop} {fu x mo b L cs sl : Nat} {xs : Nat → Int32} {z : Int32} {M : gz_M} (hop : gz_op_total IV fu x mo) (hI : IV M) (hC : gz_ok C code RL 4) (hR0 : gz_cy C 12 440 600000 7302250) (hXs : va_X b L xs C.1.2.2.2.2 C.1.2.2.2.2.heap) (hbl : b < C.1.2.2.2.2.heap.size) (hbA : ¬ gz_A C.2.2.2 b) (h1 : vp_in (z + (1 : Int32)) L) (h2 : vp_in (z + (2 : Int32)) L) (h3 : vp_in (z + (3 : Int32)) L) (h4 : vp_in (z + (4 : Int32)) L) (h5 : vp_in (z + (5 : Int32)) L) (hcr : cs + 43 ≤ 600000 ∧ sl + 1332 ≤ 7302250) (hk : ∀ M2, IV M2 → gz_go C (cs) (sl) M2 [(0, .ref b), (1, .ref x), (2, .ref mo), (3, .int z)] 1861 []) : gz_go C cs sl M [(0, .ref b), (1, .ref x), (2, .ref mo), (3, .int z)] 1142 [] := by
  obtain ⟨r, M1, M2, e1, e2, hI2⟩ := hop M ((xs ((z + (1 : Int32))).toNatClampNeg)) ((xs ((z + (2 : Int32))).toNatClampNeg)) hI
  have hroom : cs + 0 ≤ 600000 ∧ sl + 0 ≤ 7302250 := ⟨by omega, by omega⟩
  have g1 := e1
  unfold f_X9_total at g1
  have g2 := e2
  unfold f_X10_total at g2
  refine gz_aload_n 1142 hC 1 dL_law_1142 rfl rfl ?_
  refine gz_aload_n 1143 hC 0 dL_law_1143 rfl rfl ?_
  refine gz_iload_n 1144 hC 3 dL_law_1144 rfl rfl ?_
  refine gz_iconst 1145 hC (1 : Int32) dL_law_1145 (by decide) ?_
  refine gz_iadd 1146 hC dL_law_1146 ?_
  refine gz_sldR 1147 hC hXs hbl hbA h1 dL_law_1147 ?_
  refine gz_aload_n 1148 hC 0 dL_law_1148 rfl rfl ?_
  refine gz_iload_n 1149 hC 3 dL_law_1149 rfl rfl ?_
  refine gz_iconst 1150 hC (2 : Int32) dL_law_1150 (by decide) ?_
  refine gz_iadd 1151 hC dL_law_1151 ?_
  refine gz_sldR 1152 hC hXs hbl hbA h2 dL_law_1152 ?_
  refine gz_cvR (st := []) 1153 hC hR0 [.int (xs ((z + (1 : Int32))).toNatClampNeg), .int (xs ((z + (2 : Int32))).toNatClampNeg)] yl_X9_total yv_X9_total q_785 ⟨Nat.le_of_ble_eq_true rfl, Nat.le_of_ble_eq_true rfl⟩ (gz_gd_some g1).1 (ct_X9_total _ _ fu M x (xs ((z + (1 : Int32))).toNatClampNeg) (xs ((z + (2 : Int32))).toNatClampNeg) (r, M1) e1) rfl rfl (Nat.le_of_ble_eq_true rfl) dL_law_1153 hroom ?_
  refine gz_aload_n 1156 hC 2 dL_law_1156 rfl rfl ?_
  refine gz_aload_n 1157 hC 0 dL_law_1157 rfl rfl ?_
  refine gz_iload_n 1158 hC 3 dL_law_1158 rfl rfl ?_
  refine gz_iconst 1159 hC (1 : Int32) dL_law_1159 (by decide) ?_
  refine gz_iadd 1160 hC dL_law_1160 ?_
  refine gz_sldR 1161 hC hXs hbl hbA h1 dL_law_1161 ?_
  refine gz_aload_n 1162 hC 0 dL_law_1162 rfl rfl ?_
  refine gz_iload_n 1163 hC 3 dL_law_1163 rfl rfl ?_
  refine gz_iconst 1164 hC (2 : Int32) dL_law_1164 (by decide) ?_
  refine gz_iadd 1165 hC dL_law_1165 ?_
  refine gz_sldR 1166 hC hXs hbl hbA h2 dL_law_1166 ?_
  refine gz_cvR (st := [.int r]) 1167 hC hR0 [.int (xs ((z + (1 : Int32))).toNatClampNeg), .int (xs ((z + (2 : Int32))).toNatClampNeg)] yl_X10_total yv_X10_total q_1387 ⟨Nat.le_of_ble_eq_true rfl, Nat.le_of_ble_eq_true rfl⟩ (gz_gd_some g2).1 (ct_X10_total _ _ fu M1 mo (xs ((z + (1 : Int32))).toNatClampNeg) (xs ((z + (2 : Int32))).toNatClampNeg) (r, M2) e2) rfl rfl (Nat.le_of_ble_eq_true rfl) dL_law_1167 hroom ?_
  refine gz_icmp_eq 1170 1861 hC (A := some ()) (B := none) (y := ()) dL_law_1170 (by decide) (if_pos rfl) (fun _ => ?_) (fun h => nomatch h)
  exact hk _ hI2
theorem law_c_out {C : gz_C} {IV : gz_M → Prop} {fu x mo b L cs sl : Nat} {xs : Nat → Int32} {z : Int32} {M : gz_M} (hop : gz_op_out IV fu x mo) (hI : IV M) (hC : gz_ok C code RL 4) (hR0 : gz_cy C 12 440 600000 7302250) (hXs : va_X b L xs C.1.2.2.2.2 C.1.2.2.2.2.heap) (hbl : b < C.1.2.2.2.2.heap.size) (hbA : ¬ gz_A C.2.2.2 b) (h1 : vp_in (z + (1 : Int32)) L) (h2 : vp_in (z + (2 : Int32)) L) (h3 : vp_in (z + (3 : Int32)) L) (h4 : vp_in (z + (4 : Int32)) L) (h5 : vp_in (z + (5 : Int32)) L) (hcr : cs + 43 ≤ 600000 ∧ sl + 1332 ≤ 7302250) (hk : ∀ M2, IV M2 → gz_go C (cs) (sl) M2 [(0, .ref b), (1, .ref x), (2, .ref mo), (3, .int z)] 1861 []) : gz_go C cs sl M [(0, .ref b), (1, .ref x), (2, .ref mo), (3, .int z)] 1175 [] := by
  obtain ⟨r, M1, M2, e1, e2, hI2⟩ := hop M ((xs ((z + (1 : Int32))).toNatClampNeg)) ((xs ((z + (2 : Int32))).toNatClampNeg)) hI
  have hroom : cs + 0 ≤ 600000 ∧ sl + 0 ≤ 7302250 := ⟨by omega, by omega⟩
  have g1 := e1
  unfold f_X9_out at g1
  have g2 := e2
  unfold f_X10_out at g2
  refine gz_aload_n 1175 hC 1 dL_law_1175 rfl rfl ?_
  refine gz_aload_n 1176 hC 0 dL_law_1176 rfl rfl ?_
  refine gz_iload_n 1177 hC 3 dL_law_1177 rfl rfl ?_
  refine gz_iconst 1178 hC (1 : Int32) dL_law_1178 (by decide) ?_
  refine gz_iadd 1179 hC dL_law_1179 ?_
  refine gz_sldR 1180 hC hXs hbl hbA h1 dL_law_1180 ?_
  refine gz_aload_n 1181 hC 0 dL_law_1181 rfl rfl ?_
  refine gz_iload_n 1182 hC 3 dL_law_1182 rfl rfl ?_
  refine gz_iconst 1183 hC (2 : Int32) dL_law_1183 (by decide) ?_
  refine gz_iadd 1184 hC dL_law_1184 ?_
  refine gz_sldR 1185 hC hXs hbl hbA h2 dL_law_1185 ?_
  refine gz_cvR (st := []) 1186 hC hR0 [.int (xs ((z + (1 : Int32))).toNatClampNeg), .int (xs ((z + (2 : Int32))).toNatClampNeg)] yl_X9_out yv_X9_out q_801 ⟨Nat.le_of_ble_eq_true rfl, Nat.le_of_ble_eq_true rfl⟩ (gz_gd_some g1).1 (ct_X9_out _ _ fu M x (xs ((z + (1 : Int32))).toNatClampNeg) (xs ((z + (2 : Int32))).toNatClampNeg) (r, M1) e1) rfl rfl (Nat.le_of_ble_eq_true rfl) dL_law_1186 hroom ?_
  refine gz_aload_n 1189 hC 2 dL_law_1189 rfl rfl ?_
  refine gz_aload_n 1190 hC 0 dL_law_1190 rfl rfl ?_
  refine gz_iload_n 1191 hC 3 dL_law_1191 rfl rfl ?_
  refine gz_iconst 1192 hC (1 : Int32) dL_law_1192 (by decide) ?_
  refine gz_iadd 1193 hC dL_law_1193 ?_
  refine gz_sldR 1194 hC hXs hbl hbA h1 dL_law_1194 ?_
  refine gz_aload_n 1195 hC 0 dL_law_1195 rfl rfl ?_
  refine gz_iload_n 1196 hC 3 dL_law_1196 rfl rfl ?_
  refine gz_iconst 1197 hC (2 : Int32) dL_law_1197 (by decide) ?_
  refine gz_iadd 1198 hC dL_law_1198 ?_
  refine gz_sldR 1199 hC hXs hbl hbA h2 dL_law_1199 ?_
  refine gz_cvR (st := [.int r]) 1200 hC hR0 [.int (xs ((z + (1 : Int32))).toNatClampNeg), .int (xs ((z + (2 : Int32))).toNatClampNeg)] yl_X10_out yv_X10_out q_1403 ⟨Nat.le_of_ble_eq_true rfl, Nat.le_of_ble_eq_true rfl⟩ (gz_gd_some g2).1 (ct_X10_out _ _ fu M1 mo (xs ((z + (1 : Int32))).toNatClampNeg) (xs ((z + (2 : Int32))).toNatClampNeg) (r, M2) e2) rfl rfl (Nat.le_of_ble_eq_true rfl) dL_law_1200 hroom ?_
  refine gz_icmp_eq 1203 1861 hC (A := some ()) (B := none) (y := ()) dL_law_1203 (by decide) (if_pos rfl) (fun _ => ?_) (fun h => nomatch h)
  exact hk _ hI2
theorem law_c_judge {C : gz_C} {IV : gz_M → Prop} {fu x mo b L cs sl : Nat} {xs : Nat → Int32} {z : Int32} {M : gz_M} (hop : gz_op_judge IV fu x mo) (hI : IV M) (hC : gz_ok C code RL 4) (hR0 : gz_cy C 12 440 600000 7302250) (hXs : va_X b L xs C.1.2.2.2.2 C.1.2.2.2.2.heap) (hbl : b < C.1.2.2.2.2.heap.size) (hbA : ¬ gz_A C.2.2.2 b) (h1 : vp_in (z + (1 : Int32)) L) (h2 : vp_in (z + (2 : Int32)) L) (h3 : vp_in (z + (3 : Int32)) L) (h4 : vp_in (z + (4 : Int32)) L) (h5 : vp_in (z + (5 : Int32)) L) (hcr : cs + 43 ≤ 600000 ∧ sl + 1332 ≤ 7302250) (hk : ∀ M2, IV M2 → gz_go C (cs) (sl) M2 [(0, .ref b), (1, .ref x), (2, .ref mo), (3, .int z)] 1861 []) : gz_go C cs sl M [(0, .ref b), (1, .ref x), (2, .ref mo), (3, .int z)] 1208 [] := by
  obtain ⟨r, M1, M2, e1, e2, hI2⟩ := hop M ((xs ((z + (1 : Int32))).toNatClampNeg)) ((xs ((z + (2 : Int32))).toNatClampNeg)) ((xs ((z + (3 : Int32))).toNatClampNeg)) hI
  have hroom : cs + 0 ≤ 600000 ∧ sl + 0 ≤ 7302250 := ⟨by omega, by omega⟩
  have g1 := e1
  unfold f_X9_judge at g1
  have g2 := e2
  unfold f_X10_judge at g2
  refine gz_aload_n 1208 hC 1 dL_law_1208 rfl rfl ?_
  refine gz_aload_n 1209 hC 0 dL_law_1209 rfl rfl ?_
  refine gz_iload_n 1210 hC 3 dL_law_1210 rfl rfl ?_
  refine gz_iconst 1211 hC (1 : Int32) dL_law_1211 (by decide) ?_
  refine gz_iadd 1212 hC dL_law_1212 ?_
  refine gz_sldR 1213 hC hXs hbl hbA h1 dL_law_1213 ?_
  refine gz_aload_n 1214 hC 0 dL_law_1214 rfl rfl ?_
  refine gz_iload_n 1215 hC 3 dL_law_1215 rfl rfl ?_
  refine gz_iconst 1216 hC (2 : Int32) dL_law_1216 (by decide) ?_
  refine gz_iadd 1217 hC dL_law_1217 ?_
  refine gz_sldR 1218 hC hXs hbl hbA h2 dL_law_1218 ?_
  refine gz_aload_n 1219 hC 0 dL_law_1219 rfl rfl ?_
  refine gz_iload_n 1220 hC 3 dL_law_1220 rfl rfl ?_
  refine gz_iconst 1221 hC (3 : Int32) dL_law_1221 (by decide) ?_
  refine gz_iadd 1222 hC dL_law_1222 ?_
  refine gz_sldR 1223 hC hXs hbl hbA h3 dL_law_1223 ?_
  refine gz_cvR (st := []) 1224 hC hR0 [.int (xs ((z + (1 : Int32))).toNatClampNeg), .int (xs ((z + (2 : Int32))).toNatClampNeg), .int (xs ((z + (3 : Int32))).toNatClampNeg)] yl_X9_judge yv_X9_judge q_805 ⟨Nat.le_of_ble_eq_true rfl, Nat.le_of_ble_eq_true rfl⟩ (gz_gd_some g1).1 (ct_X9_judge _ _ fu M x (xs ((z + (1 : Int32))).toNatClampNeg) (xs ((z + (2 : Int32))).toNatClampNeg) (xs ((z + (3 : Int32))).toNatClampNeg) (r, M1) e1) rfl rfl (Nat.le_of_ble_eq_true rfl) dL_law_1224 hroom ?_
  refine gz_aload_n 1227 hC 2 dL_law_1227 rfl rfl ?_
  refine gz_aload_n 1228 hC 0 dL_law_1228 rfl rfl ?_
  refine gz_iload_n 1229 hC 3 dL_law_1229 rfl rfl ?_
  refine gz_iconst 1230 hC (1 : Int32) dL_law_1230 (by decide) ?_
  refine gz_iadd 1231 hC dL_law_1231 ?_
  refine gz_sldR 1232 hC hXs hbl hbA h1 dL_law_1232 ?_
  refine gz_aload_n 1233 hC 0 dL_law_1233 rfl rfl ?_
  refine gz_iload_n 1234 hC 3 dL_law_1234 rfl rfl ?_
  refine gz_iconst 1235 hC (2 : Int32) dL_law_1235 (by decide) ?_
  refine gz_iadd 1236 hC dL_law_1236 ?_
  refine gz_sldR 1237 hC hXs hbl hbA h2 dL_law_1237 ?_
  refine gz_aload_n 1238 hC 0 dL_law_1238 rfl rfl ?_
  refine gz_iload_n 1239 hC 3 dL_law_1239 rfl rfl ?_
  refine gz_iconst 1240 hC (3 : Int32) dL_law_1240 (by decide) ?_
  refine gz_iadd 1241 hC dL_law_1241 ?_
  refine gz_sldR 1242 hC hXs hbl hbA h3 dL_law_1242 ?_
  refine gz_cvR (st := [.int r]) 1243 hC hR0 [.int (xs ((z + (1 : Int32))).toNatClampNeg), .int (xs ((z + (2 : Int32))).toNatClampNeg), .int (xs ((z + (3 : Int32))).toNatClampNeg)] yl_X10_judge yv_X10_judge q_1407 ⟨Nat.le_of_ble_eq_true rfl, Nat.le_of_ble_eq_true rfl⟩ (gz_gd_some g2).1 (ct_X10_judge _ _ fu M1 mo (xs ((z + (1 : Int32))).toNatClampNeg) (xs ((z + (2 : Int32))).toNatClampNeg) (xs ((z + (3 : Int32))).toNatClampNeg) (r, M2) e2) rfl rfl (Nat.le_of_ble_eq_true rfl) dL_law_1243 hroom ?_
  refine gz_icmp_eq 1246 1861 hC (A := some ()) (B := none) (y := ()) dL_law_1246 (by decide) (if_pos rfl) (fun _ => ?_) (fun h => nomatch h)
  exact hk _ hI2
theorem law_c_best {C : gz_C} {IV : gz_M → Prop} {fu x mo b L cs sl : Nat} {xs : Nat → Int32} {z : Int32} {M : gz_M} (hop : gz_op_best IV fu x mo) (hI : IV M) (hC : gz_ok C code RL 4) (hR0 : gz_cy C 12 440 600000 7302250) (hXs : va_X b L xs C.1.2.2.2.2 C.1.2.2.2.2.heap) (hbl : b < C.1.2.2.2.2.heap.size) (hbA : ¬ gz_A C.2.2.2 b) (h1 : vp_in (z + (1 : Int32)) L) (h2 : vp_in (z + (2 : Int32)) L) (h3 : vp_in (z + (3 : Int32)) L) (h4 : vp_in (z + (4 : Int32)) L) (h5 : vp_in (z + (5 : Int32)) L) (hcr : cs + 43 ≤ 600000 ∧ sl + 1332 ≤ 7302250) (hk : ∀ M2, IV M2 → gz_go C (cs) (sl) M2 [(0, .ref b), (1, .ref x), (2, .ref mo), (3, .int z)] 1861 []) : gz_go C cs sl M [(0, .ref b), (1, .ref x), (2, .ref mo), (3, .int z)] 1251 [] := by
  obtain ⟨r, M1, M2, e1, e2, hI2⟩ := hop M ((xs ((z + (1 : Int32))).toNatClampNeg)) ((xs ((z + (2 : Int32))).toNatClampNeg)) hI
  have hroom : cs + 0 ≤ 600000 ∧ sl + 0 ≤ 7302250 := ⟨by omega, by omega⟩
  have g1 := e1
  unfold f_X9_best at g1
  have g2 := e2
  unfold f_X10_best at g2
  refine gz_aload_n 1251 hC 1 dL_law_1251 rfl rfl ?_
  refine gz_aload_n 1252 hC 0 dL_law_1252 rfl rfl ?_
  refine gz_iload_n 1253 hC 3 dL_law_1253 rfl rfl ?_
  refine gz_iconst 1254 hC (1 : Int32) dL_law_1254 (by decide) ?_
  refine gz_iadd 1255 hC dL_law_1255 ?_
  refine gz_sldR 1256 hC hXs hbl hbA h1 dL_law_1256 ?_
  refine gz_aload_n 1257 hC 0 dL_law_1257 rfl rfl ?_
  refine gz_iload_n 1258 hC 3 dL_law_1258 rfl rfl ?_
  refine gz_iconst 1259 hC (2 : Int32) dL_law_1259 (by decide) ?_
  refine gz_iadd 1260 hC dL_law_1260 ?_
  refine gz_sldR 1261 hC hXs hbl hbA h2 dL_law_1261 ?_
  refine gz_cvR (st := []) 1262 hC hR0 [.int (xs ((z + (1 : Int32))).toNatClampNeg), .int (xs ((z + (2 : Int32))).toNatClampNeg)] yl_X9_best yv_X9_best q_813 ⟨Nat.le_of_ble_eq_true rfl, Nat.le_of_ble_eq_true rfl⟩ (gz_gd_some g1).1 (ct_X9_best _ _ fu M x (xs ((z + (1 : Int32))).toNatClampNeg) (xs ((z + (2 : Int32))).toNatClampNeg) (r, M1) e1) rfl rfl (Nat.le_of_ble_eq_true rfl) dL_law_1262 hroom ?_
  refine gz_aload_n 1265 hC 2 dL_law_1265 rfl rfl ?_
  refine gz_aload_n 1266 hC 0 dL_law_1266 rfl rfl ?_
  refine gz_iload_n 1267 hC 3 dL_law_1267 rfl rfl ?_
  refine gz_iconst 1268 hC (1 : Int32) dL_law_1268 (by decide) ?_
  refine gz_iadd 1269 hC dL_law_1269 ?_
  refine gz_sldR 1270 hC hXs hbl hbA h1 dL_law_1270 ?_
  refine gz_aload_n 1271 hC 0 dL_law_1271 rfl rfl ?_
  refine gz_iload_n 1272 hC 3 dL_law_1272 rfl rfl ?_
  refine gz_iconst 1273 hC (2 : Int32) dL_law_1273 (by decide) ?_
  refine gz_iadd 1274 hC dL_law_1274 ?_
  refine gz_sldR 1275 hC hXs hbl hbA h2 dL_law_1275 ?_
  refine gz_cvR (st := [.int r]) 1276 hC hR0 [.int (xs ((z + (1 : Int32))).toNatClampNeg), .int (xs ((z + (2 : Int32))).toNatClampNeg)] yl_X10_best yv_X10_best q_1411 ⟨Nat.le_of_ble_eq_true rfl, Nat.le_of_ble_eq_true rfl⟩ (gz_gd_some g2).1 (ct_X10_best _ _ fu M1 mo (xs ((z + (1 : Int32))).toNatClampNeg) (xs ((z + (2 : Int32))).toNatClampNeg) (r, M2) e2) rfl rfl (Nat.le_of_ble_eq_true rfl) dL_law_1276 hroom ?_
  refine gz_icmp_eq 1279 1861 hC (A := some ()) (B := none) (y := ()) dL_law_1279 (by decide) (if_pos rfl) (fun _ => ?_) (fun h => nomatch h)
  exact hk _ hI2
theorem law_c_more {C : gz_C} {IV : gz_M → Prop} {fu x mo b L cs sl : Nat} {xs : Nat → Int32} {z : Int32} {M : gz_M} (hop : gz_op_more IV fu x mo) (hI : IV M) (hC : gz_ok C code RL 4) (hR0 : gz_cy C 12 440 600000 7302250) (hXs : va_X b L xs C.1.2.2.2.2 C.1.2.2.2.2.heap) (hbl : b < C.1.2.2.2.2.heap.size) (hbA : ¬ gz_A C.2.2.2 b) (h1 : vp_in (z + (1 : Int32)) L) (h2 : vp_in (z + (2 : Int32)) L) (h3 : vp_in (z + (3 : Int32)) L) (h4 : vp_in (z + (4 : Int32)) L) (h5 : vp_in (z + (5 : Int32)) L) (hcr : cs + 43 ≤ 600000 ∧ sl + 1332 ≤ 7302250) (hk : ∀ M2, IV M2 → gz_go C (cs) (sl) M2 [(0, .ref b), (1, .ref x), (2, .ref mo), (3, .int z)] 1861 []) : gz_go C cs sl M [(0, .ref b), (1, .ref x), (2, .ref mo), (3, .int z)] 1284 [] := by
  obtain ⟨r, M1, M2, e1, e2, hI2⟩ := hop M ((xs ((z + (1 : Int32))).toNatClampNeg)) ((xs ((z + (2 : Int32))).toNatClampNeg)) hI
  have hroom : cs + 0 ≤ 600000 ∧ sl + 0 ≤ 7302250 := ⟨by omega, by omega⟩
  have g1 := e1
  unfold f_X9_more at g1
  have g2 := e2
  unfold f_X10_more at g2
  refine gz_aload_n 1284 hC 1 dL_law_1284 rfl rfl ?_
  refine gz_aload_n 1285 hC 0 dL_law_1285 rfl rfl ?_
  refine gz_iload_n 1286 hC 3 dL_law_1286 rfl rfl ?_
  refine gz_iconst 1287 hC (1 : Int32) dL_law_1287 (by decide) ?_
  refine gz_iadd 1288 hC dL_law_1288 ?_
  refine gz_sldR 1289 hC hXs hbl hbA h1 dL_law_1289 ?_
  refine gz_aload_n 1290 hC 0 dL_law_1290 rfl rfl ?_
  refine gz_iload_n 1291 hC 3 dL_law_1291 rfl rfl ?_
  refine gz_iconst 1292 hC (2 : Int32) dL_law_1292 (by decide) ?_
  refine gz_iadd 1293 hC dL_law_1293 ?_
  refine gz_sldR 1294 hC hXs hbl hbA h2 dL_law_1294 ?_
  refine gz_cvR (st := []) 1295 hC hR0 [.int (xs ((z + (1 : Int32))).toNatClampNeg), .int (xs ((z + (2 : Int32))).toNatClampNeg)] yl_X9_more yv_X9_more q_861 ⟨Nat.le_of_ble_eq_true rfl, Nat.le_of_ble_eq_true rfl⟩ (gz_gd_some g1).1 (ct_X9_more _ _ fu M x (xs ((z + (1 : Int32))).toNatClampNeg) (xs ((z + (2 : Int32))).toNatClampNeg) (r, M1) e1) rfl rfl (Nat.le_of_ble_eq_true rfl) dL_law_1295 hroom ?_
  refine gz_aload_n 1298 hC 2 dL_law_1298 rfl rfl ?_
  refine gz_aload_n 1299 hC 0 dL_law_1299 rfl rfl ?_
  refine gz_iload_n 1300 hC 3 dL_law_1300 rfl rfl ?_
  refine gz_iconst 1301 hC (1 : Int32) dL_law_1301 (by decide) ?_
  refine gz_iadd 1302 hC dL_law_1302 ?_
  refine gz_sldR 1303 hC hXs hbl hbA h1 dL_law_1303 ?_
  refine gz_aload_n 1304 hC 0 dL_law_1304 rfl rfl ?_
  refine gz_iload_n 1305 hC 3 dL_law_1305 rfl rfl ?_
  refine gz_iconst 1306 hC (2 : Int32) dL_law_1306 (by decide) ?_
  refine gz_iadd 1307 hC dL_law_1307 ?_
  refine gz_sldR 1308 hC hXs hbl hbA h2 dL_law_1308 ?_
  refine gz_cvR (st := [.int r]) 1309 hC hR0 [.int (xs ((z + (1 : Int32))).toNatClampNeg), .int (xs ((z + (2 : Int32))).toNatClampNeg)] yl_X10_more yv_X10_more q_1426 ⟨Nat.le_of_ble_eq_true rfl, Nat.le_of_ble_eq_true rfl⟩ (gz_gd_some g2).1 (ct_X10_more _ _ fu M1 mo (xs ((z + (1 : Int32))).toNatClampNeg) (xs ((z + (2 : Int32))).toNatClampNeg) (r, M2) e2) rfl rfl (Nat.le_of_ble_eq_true rfl) dL_law_1309 hroom ?_
  refine gz_icmp_eq 1312 1861 hC (A := some ()) (B := none) (y := ()) dL_law_1312 (by decide) (if_pos rfl) (fun _ => ?_) (fun h => nomatch h)
  exact hk _ hI2
theorem law_c_enough {C : gz_C} {IV : gz_M → Prop} {fu x mo b L cs sl : Nat} {xs : Nat → Int32} {z : Int32} {M : gz_M} (hop : gz_op_enough IV fu x mo) (hI : IV M) (hC : gz_ok C code RL 4) (hR0 : gz_cy C 12 440 600000 7302250) (hXs : va_X b L xs C.1.2.2.2.2 C.1.2.2.2.2.heap) (hbl : b < C.1.2.2.2.2.heap.size) (hbA : ¬ gz_A C.2.2.2 b) (h1 : vp_in (z + (1 : Int32)) L) (h2 : vp_in (z + (2 : Int32)) L) (h3 : vp_in (z + (3 : Int32)) L) (h4 : vp_in (z + (4 : Int32)) L) (h5 : vp_in (z + (5 : Int32)) L) (hcr : cs + 43 ≤ 600000 ∧ sl + 1332 ≤ 7302250) (hk : ∀ M2, IV M2 → gz_go C (cs) (sl) M2 [(0, .ref b), (1, .ref x), (2, .ref mo), (3, .int z)] 1861 []) : gz_go C cs sl M [(0, .ref b), (1, .ref x), (2, .ref mo), (3, .int z)] 1317 [] := by
  obtain ⟨r, M1, M2, e1, e2, hI2⟩ := hop M ((xs ((z + (1 : Int32))).toNatClampNeg)) ((xs ((z + (2 : Int32))).toNatClampNeg)) hI
  have hroom : cs + 0 ≤ 600000 ∧ sl + 0 ≤ 7302250 := ⟨by omega, by omega⟩
  have g1 := e1
  unfold f_X9_enough at g1
  have g2 := e2
  unfold f_X10_enough at g2
  refine gz_aload_n 1317 hC 1 dL_law_1317 rfl rfl ?_
  refine gz_aload_n 1318 hC 0 dL_law_1318 rfl rfl ?_
  refine gz_iload_n 1319 hC 3 dL_law_1319 rfl rfl ?_
  refine gz_iconst 1320 hC (1 : Int32) dL_law_1320 (by decide) ?_
  refine gz_iadd 1321 hC dL_law_1321 ?_
  refine gz_sldR 1322 hC hXs hbl hbA h1 dL_law_1322 ?_
  refine gz_aload_n 1323 hC 0 dL_law_1323 rfl rfl ?_
  refine gz_iload_n 1324 hC 3 dL_law_1324 rfl rfl ?_
  refine gz_iconst 1325 hC (2 : Int32) dL_law_1325 (by decide) ?_
  refine gz_iadd 1326 hC dL_law_1326 ?_
  refine gz_sldR 1327 hC hXs hbl hbA h2 dL_law_1327 ?_
  refine gz_cvR (st := []) 1328 hC hR0 [.int (xs ((z + (1 : Int32))).toNatClampNeg), .int (xs ((z + (2 : Int32))).toNatClampNeg)] yl_X9_enough yv_X9_enough q_865 ⟨Nat.le_of_ble_eq_true rfl, Nat.le_of_ble_eq_true rfl⟩ (gz_gd_some g1).1 (ct_X9_enough _ _ fu M x (xs ((z + (1 : Int32))).toNatClampNeg) (xs ((z + (2 : Int32))).toNatClampNeg) (r, M1) e1) rfl rfl (Nat.le_of_ble_eq_true rfl) dL_law_1328 hroom ?_
  refine gz_aload_n 1331 hC 2 dL_law_1331 rfl rfl ?_
  refine gz_aload_n 1332 hC 0 dL_law_1332 rfl rfl ?_
  refine gz_iload_n 1333 hC 3 dL_law_1333 rfl rfl ?_
  refine gz_iconst 1334 hC (1 : Int32) dL_law_1334 (by decide) ?_
  refine gz_iadd 1335 hC dL_law_1335 ?_
  refine gz_sldR 1336 hC hXs hbl hbA h1 dL_law_1336 ?_
  refine gz_aload_n 1337 hC 0 dL_law_1337 rfl rfl ?_
  refine gz_iload_n 1338 hC 3 dL_law_1338 rfl rfl ?_
  refine gz_iconst 1339 hC (2 : Int32) dL_law_1339 (by decide) ?_
  refine gz_iadd 1340 hC dL_law_1340 ?_
  refine gz_sldR 1341 hC hXs hbl hbA h2 dL_law_1341 ?_
  refine gz_cvR (st := [.int r]) 1342 hC hR0 [.int (xs ((z + (1 : Int32))).toNatClampNeg), .int (xs ((z + (2 : Int32))).toNatClampNeg)] yl_X10_enough yv_X10_enough q_1434 ⟨Nat.le_of_ble_eq_true rfl, Nat.le_of_ble_eq_true rfl⟩ (gz_gd_some g2).1 (ct_X10_enough _ _ fu M1 mo (xs ((z + (1 : Int32))).toNatClampNeg) (xs ((z + (2 : Int32))).toNatClampNeg) (r, M2) e2) rfl rfl (Nat.le_of_ble_eq_true rfl) dL_law_1342 hroom ?_
  refine gz_icmp_eq 1345 1861 hC (A := some ()) (B := none) (y := ()) dL_law_1345 (by decide) (if_pos rfl) (fun _ => ?_) (fun h => nomatch h)
  exact hk _ hI2
theorem law_c_changed {C : gz_C} {IV : gz_M → Prop} {fu x mo b L cs sl : Nat} {xs : Nat → Int32} {z : Int32} {M : gz_M} (hop : gz_op_changed IV fu x mo) (hI : IV M) (hC : gz_ok C code RL 4) (hR0 : gz_cy C 12 440 600000 7302250) (hXs : va_X b L xs C.1.2.2.2.2 C.1.2.2.2.2.heap) (hbl : b < C.1.2.2.2.2.heap.size) (hbA : ¬ gz_A C.2.2.2 b) (h1 : vp_in (z + (1 : Int32)) L) (h2 : vp_in (z + (2 : Int32)) L) (h3 : vp_in (z + (3 : Int32)) L) (h4 : vp_in (z + (4 : Int32)) L) (h5 : vp_in (z + (5 : Int32)) L) (hcr : cs + 43 ≤ 600000 ∧ sl + 1332 ≤ 7302250) (hk : ∀ M2, IV M2 → gz_go C (cs) (sl) M2 [(0, .ref b), (1, .ref x), (2, .ref mo), (3, .int z)] 1861 []) : gz_go C cs sl M [(0, .ref b), (1, .ref x), (2, .ref mo), (3, .int z)] 1350 [] := by
  obtain ⟨r, M1, M2, e1, e2, hI2⟩ := hop M ((xs ((z + (1 : Int32))).toNatClampNeg)) ((xs ((z + (2 : Int32))).toNatClampNeg)) hI
  have hroom : cs + 0 ≤ 600000 ∧ sl + 0 ≤ 7302250 := ⟨by omega, by omega⟩
  have g1 := e1
  unfold f_X9_changed at g1
  have g2 := e2
  unfold f_X10_changed at g2
  refine gz_aload_n 1350 hC 1 dL_law_1350 rfl rfl ?_
  refine gz_aload_n 1351 hC 0 dL_law_1351 rfl rfl ?_
  refine gz_iload_n 1352 hC 3 dL_law_1352 rfl rfl ?_
  refine gz_iconst 1353 hC (1 : Int32) dL_law_1353 (by decide) ?_
  refine gz_iadd 1354 hC dL_law_1354 ?_
  refine gz_sldR 1355 hC hXs hbl hbA h1 dL_law_1355 ?_
  refine gz_aload_n 1356 hC 0 dL_law_1356 rfl rfl ?_
  refine gz_iload_n 1357 hC 3 dL_law_1357 rfl rfl ?_
  refine gz_iconst 1358 hC (2 : Int32) dL_law_1358 (by decide) ?_
  refine gz_iadd 1359 hC dL_law_1359 ?_
  refine gz_sldR 1360 hC hXs hbl hbA h2 dL_law_1360 ?_
  refine gz_cvR (st := []) 1361 hC hR0 [.int (xs ((z + (1 : Int32))).toNatClampNeg), .int (xs ((z + (2 : Int32))).toNatClampNeg)] yl_X9_changed yv_X9_changed q_869 ⟨Nat.le_of_ble_eq_true rfl, Nat.le_of_ble_eq_true rfl⟩ (gz_gd_some g1).1 (ct_X9_changed _ _ fu M x (xs ((z + (1 : Int32))).toNatClampNeg) (xs ((z + (2 : Int32))).toNatClampNeg) (r, M1) e1) rfl rfl (Nat.le_of_ble_eq_true rfl) dL_law_1361 hroom ?_
  refine gz_aload_n 1364 hC 2 dL_law_1364 rfl rfl ?_
  refine gz_aload_n 1365 hC 0 dL_law_1365 rfl rfl ?_
  refine gz_iload_n 1366 hC 3 dL_law_1366 rfl rfl ?_
  refine gz_iconst 1367 hC (1 : Int32) dL_law_1367 (by decide) ?_
  refine gz_iadd 1368 hC dL_law_1368 ?_
  refine gz_sldR 1369 hC hXs hbl hbA h1 dL_law_1369 ?_
  refine gz_aload_n 1370 hC 0 dL_law_1370 rfl rfl ?_
  refine gz_iload_n 1371 hC 3 dL_law_1371 rfl rfl ?_
  refine gz_iconst 1372 hC (2 : Int32) dL_law_1372 (by decide) ?_
  refine gz_iadd 1373 hC dL_law_1373 ?_
  refine gz_sldR 1374 hC hXs hbl hbA h2 dL_law_1374 ?_
  refine gz_cvR (st := [.int r]) 1375 hC hR0 [.int (xs ((z + (1 : Int32))).toNatClampNeg), .int (xs ((z + (2 : Int32))).toNatClampNeg)] yl_X10_changed yv_X10_changed q_1438 ⟨Nat.le_of_ble_eq_true rfl, Nat.le_of_ble_eq_true rfl⟩ (gz_gd_some g2).1 (ct_X10_changed _ _ fu M1 mo (xs ((z + (1 : Int32))).toNatClampNeg) (xs ((z + (2 : Int32))).toNatClampNeg) (r, M2) e2) rfl rfl (Nat.le_of_ble_eq_true rfl) dL_law_1375 hroom ?_
  refine gz_icmp_eq 1378 1861 hC (A := some ()) (B := none) (y := ()) dL_law_1378 (by decide) (if_pos rfl) (fun _ => ?_) (fun h => nomatch h)
  exact hk _ hI2
theorem law_c_bound {C : gz_C} {IV : gz_M → Prop} {fu x mo b L cs sl : Nat} {xs : Nat → Int32} {z : Int32} {M : gz_M} (hop : gz_op_bound IV fu x mo) (hI : IV M) (hC : gz_ok C code RL 4) (hR0 : gz_cy C 12 440 600000 7302250) (hXs : va_X b L xs C.1.2.2.2.2 C.1.2.2.2.2.heap) (hbl : b < C.1.2.2.2.2.heap.size) (hbA : ¬ gz_A C.2.2.2 b) (h1 : vp_in (z + (1 : Int32)) L) (h2 : vp_in (z + (2 : Int32)) L) (h3 : vp_in (z + (3 : Int32)) L) (h4 : vp_in (z + (4 : Int32)) L) (h5 : vp_in (z + (5 : Int32)) L) (hcr : cs + 43 ≤ 600000 ∧ sl + 1332 ≤ 7302250) (hk : ∀ M2, IV M2 → gz_go C (cs) (sl) M2 [(0, .ref b), (1, .ref x), (2, .ref mo), (3, .int z)] 1861 []) : gz_go C cs sl M [(0, .ref b), (1, .ref x), (2, .ref mo), (3, .int z)] 1383 [] := by
  obtain ⟨r, M1, M2, e1, e2, hI2⟩ := hop M ((xs ((z + (1 : Int32))).toNatClampNeg)) hI
  have hroom : cs + 0 ≤ 600000 ∧ sl + 0 ≤ 7302250 := ⟨by omega, by omega⟩
  have g1 := e1
  unfold f_X9_bound at g1
  have g2 := e2
  unfold f_X10_bound at g2
  refine gz_aload_n 1383 hC 1 dL_law_1383 rfl rfl ?_
  refine gz_aload_n 1384 hC 0 dL_law_1384 rfl rfl ?_
  refine gz_iload_n 1385 hC 3 dL_law_1385 rfl rfl ?_
  refine gz_iconst 1386 hC (1 : Int32) dL_law_1386 (by decide) ?_
  refine gz_iadd 1387 hC dL_law_1387 ?_
  refine gz_sldR 1388 hC hXs hbl hbA h1 dL_law_1388 ?_
  refine gz_cvR (st := []) 1389 hC hR0 [.int (xs ((z + (1 : Int32))).toNatClampNeg)] yl_X9_bound yv_X9_bound q_881 ⟨Nat.le_of_ble_eq_true rfl, Nat.le_of_ble_eq_true rfl⟩ (gz_gd_some g1).1 (ct_X9_bound _ _ fu M x (xs ((z + (1 : Int32))).toNatClampNeg) (r, M1) e1) rfl rfl (Nat.le_of_ble_eq_true rfl) dL_law_1389 hroom ?_
  refine gz_aload_n 1392 hC 2 dL_law_1392 rfl rfl ?_
  refine gz_aload_n 1393 hC 0 dL_law_1393 rfl rfl ?_
  refine gz_iload_n 1394 hC 3 dL_law_1394 rfl rfl ?_
  refine gz_iconst 1395 hC (1 : Int32) dL_law_1395 (by decide) ?_
  refine gz_iadd 1396 hC dL_law_1396 ?_
  refine gz_sldR 1397 hC hXs hbl hbA h1 dL_law_1397 ?_
  refine gz_cvR (st := [.int r]) 1398 hC hR0 [.int (xs ((z + (1 : Int32))).toNatClampNeg)] yl_X10_bound yv_X10_bound q_1442 ⟨Nat.le_of_ble_eq_true rfl, Nat.le_of_ble_eq_true rfl⟩ (gz_gd_some g2).1 (ct_X10_bound _ _ fu M1 mo (xs ((z + (1 : Int32))).toNatClampNeg) (r, M2) e2) rfl rfl (Nat.le_of_ble_eq_true rfl) dL_law_1398 hroom ?_
  refine gz_icmp_eq 1401 1861 hC (A := some ()) (B := none) (y := ()) dL_law_1401 (by decide) (if_pos rfl) (fun _ => ?_) (fun h => nomatch h)
  exact hk _ hI2
theorem law_c_fair {C : gz_C} {IV : gz_M → Prop} {fu x mo b L cs sl : Nat} {xs : Nat → Int32} {z : Int32} {M : gz_M} (hop : gz_op_fair IV fu x mo) (hI : IV M) (hC : gz_ok C code RL 4) (hR0 : gz_cy C 12 440 600000 7302250) (hXs : va_X b L xs C.1.2.2.2.2 C.1.2.2.2.2.heap) (hbl : b < C.1.2.2.2.2.heap.size) (hbA : ¬ gz_A C.2.2.2 b) (h1 : vp_in (z + (1 : Int32)) L) (h2 : vp_in (z + (2 : Int32)) L) (h3 : vp_in (z + (3 : Int32)) L) (h4 : vp_in (z + (4 : Int32)) L) (h5 : vp_in (z + (5 : Int32)) L) (hcr : cs + 43 ≤ 600000 ∧ sl + 1332 ≤ 7302250) (hk : ∀ M2, IV M2 → gz_go C (cs) (sl) M2 [(0, .ref b), (1, .ref x), (2, .ref mo), (3, .int z)] 1861 []) : gz_go C cs sl M [(0, .ref b), (1, .ref x), (2, .ref mo), (3, .int z)] 1406 [] := by
  obtain ⟨r, M1, M2, e1, e2, hI2⟩ := hop M ((xs ((z + (1 : Int32))).toNatClampNeg)) ((xs ((z + (2 : Int32))).toNatClampNeg)) hI
  have hroom : cs + 0 ≤ 600000 ∧ sl + 0 ≤ 7302250 := ⟨by omega, by omega⟩
  have g1 := e1
  unfold f_X9_fair at g1
  have g2 := e2
  unfold f_X10_fair at g2
  refine gz_aload_n 1406 hC 1 dL_law_1406 rfl rfl ?_
  refine gz_aload_n 1407 hC 0 dL_law_1407 rfl rfl ?_
  refine gz_iload_n 1408 hC 3 dL_law_1408 rfl rfl ?_
  refine gz_iconst 1409 hC (1 : Int32) dL_law_1409 (by decide) ?_
  refine gz_iadd 1410 hC dL_law_1410 ?_
  refine gz_sldR 1411 hC hXs hbl hbA h1 dL_law_1411 ?_
  refine gz_aload_n 1412 hC 0 dL_law_1412 rfl rfl ?_
  refine gz_iload_n 1413 hC 3 dL_law_1413 rfl rfl ?_
  refine gz_iconst 1414 hC (2 : Int32) dL_law_1414 (by decide) ?_
  refine gz_iadd 1415 hC dL_law_1415 ?_
  refine gz_sldR 1416 hC hXs hbl hbA h2 dL_law_1416 ?_
  refine gz_cvR (st := []) 1417 hC hR0 [.int (xs ((z + (1 : Int32))).toNatClampNeg), .int (xs ((z + (2 : Int32))).toNatClampNeg)] yl_X9_fair yv_X9_fair q_885 ⟨Nat.le_of_ble_eq_true rfl, Nat.le_of_ble_eq_true rfl⟩ (gz_gd_some g1).1 (ct_X9_fair _ _ fu M x (xs ((z + (1 : Int32))).toNatClampNeg) (xs ((z + (2 : Int32))).toNatClampNeg) (r, M1) e1) rfl rfl (Nat.le_of_ble_eq_true rfl) dL_law_1417 hroom ?_
  refine gz_aload_n 1420 hC 2 dL_law_1420 rfl rfl ?_
  refine gz_aload_n 1421 hC 0 dL_law_1421 rfl rfl ?_
  refine gz_iload_n 1422 hC 3 dL_law_1422 rfl rfl ?_
  refine gz_iconst 1423 hC (1 : Int32) dL_law_1423 (by decide) ?_
  refine gz_iadd 1424 hC dL_law_1424 ?_
  refine gz_sldR 1425 hC hXs hbl hbA h1 dL_law_1425 ?_
  refine gz_aload_n 1426 hC 0 dL_law_1426 rfl rfl ?_
  refine gz_iload_n 1427 hC 3 dL_law_1427 rfl rfl ?_
  refine gz_iconst 1428 hC (2 : Int32) dL_law_1428 (by decide) ?_
  refine gz_iadd 1429 hC dL_law_1429 ?_
  refine gz_sldR 1430 hC hXs hbl hbA h2 dL_law_1430 ?_
  refine gz_cvR (st := [.int r]) 1431 hC hR0 [.int (xs ((z + (1 : Int32))).toNatClampNeg), .int (xs ((z + (2 : Int32))).toNatClampNeg)] yl_X10_fair yv_X10_fair q_1446 ⟨Nat.le_of_ble_eq_true rfl, Nat.le_of_ble_eq_true rfl⟩ (gz_gd_some g2).1 (ct_X10_fair _ _ fu M1 mo (xs ((z + (1 : Int32))).toNatClampNeg) (xs ((z + (2 : Int32))).toNatClampNeg) (r, M2) e2) rfl rfl (Nat.le_of_ble_eq_true rfl) dL_law_1431 hroom ?_
  refine gz_icmp_eq 1434 1861 hC (A := some ()) (B := none) (y := ()) dL_law_1434 (by decide) (if_pos rfl) (fun _ => ?_) (fun h => nomatch h)
  exact hk _ hI2
theorem law_c_shod {C : gz_C} {IV : gz_M → Prop} {fu x mo b L cs sl : Nat} {xs : Nat → Int32} {z : Int32} {M : gz_M} (hop : gz_op_shod IV fu x mo) (hI : IV M) (hC : gz_ok C code RL 4) (hR0 : gz_cy C 12 440 600000 7302250) (hXs : va_X b L xs C.1.2.2.2.2 C.1.2.2.2.2.heap) (hbl : b < C.1.2.2.2.2.heap.size) (hbA : ¬ gz_A C.2.2.2 b) (h1 : vp_in (z + (1 : Int32)) L) (h2 : vp_in (z + (2 : Int32)) L) (h3 : vp_in (z + (3 : Int32)) L) (h4 : vp_in (z + (4 : Int32)) L) (h5 : vp_in (z + (5 : Int32)) L) (hcr : cs + 43 ≤ 600000 ∧ sl + 1332 ≤ 7302250) (hk : ∀ M2, IV M2 → gz_go C (cs) (sl) M2 [(0, .ref b), (1, .ref x), (2, .ref mo), (3, .int z)] 1861 []) : gz_go C cs sl M [(0, .ref b), (1, .ref x), (2, .ref mo), (3, .int z)] 1439 [] := by
  obtain ⟨r, M1, M2, e1, e2, hI2⟩ := hop M ((xs ((z + (1 : Int32))).toNatClampNeg)) ((xs ((z + (2 : Int32))).toNatClampNeg)) hI
  have hroom : cs + 0 ≤ 600000 ∧ sl + 0 ≤ 7302250 := ⟨by omega, by omega⟩
  have g1 := e1
  unfold f_X9_shod at g1
  have g2 := e2
  unfold f_X10_shod at g2
  refine gz_aload_n 1439 hC 1 dL_law_1439 rfl rfl ?_
  refine gz_aload_n 1440 hC 0 dL_law_1440 rfl rfl ?_
  refine gz_iload_n 1441 hC 3 dL_law_1441 rfl rfl ?_
  refine gz_iconst 1442 hC (1 : Int32) dL_law_1442 (by decide) ?_
  refine gz_iadd 1443 hC dL_law_1443 ?_
  refine gz_sldR 1444 hC hXs hbl hbA h1 dL_law_1444 ?_
  refine gz_aload_n 1445 hC 0 dL_law_1445 rfl rfl ?_
  refine gz_iload_n 1446 hC 3 dL_law_1446 rfl rfl ?_
  refine gz_iconst 1447 hC (2 : Int32) dL_law_1447 (by decide) ?_
  refine gz_iadd 1448 hC dL_law_1448 ?_
  refine gz_sldR 1449 hC hXs hbl hbA h2 dL_law_1449 ?_
  refine gz_cvR (st := []) 1450 hC hR0 [.int (xs ((z + (1 : Int32))).toNatClampNeg), .int (xs ((z + (2 : Int32))).toNatClampNeg)] yl_X9_shod yv_X9_shod q_897 ⟨Nat.le_of_ble_eq_true rfl, Nat.le_of_ble_eq_true rfl⟩ (gz_gd_some g1).1 (ct_X9_shod _ _ fu M x (xs ((z + (1 : Int32))).toNatClampNeg) (xs ((z + (2 : Int32))).toNatClampNeg) (r, M1) e1) rfl rfl (Nat.le_of_ble_eq_true rfl) dL_law_1450 hroom ?_
  refine gz_aload_n 1453 hC 2 dL_law_1453 rfl rfl ?_
  refine gz_aload_n 1454 hC 0 dL_law_1454 rfl rfl ?_
  refine gz_iload_n 1455 hC 3 dL_law_1455 rfl rfl ?_
  refine gz_iconst 1456 hC (1 : Int32) dL_law_1456 (by decide) ?_
  refine gz_iadd 1457 hC dL_law_1457 ?_
  refine gz_sldR 1458 hC hXs hbl hbA h1 dL_law_1458 ?_
  refine gz_aload_n 1459 hC 0 dL_law_1459 rfl rfl ?_
  refine gz_iload_n 1460 hC 3 dL_law_1460 rfl rfl ?_
  refine gz_iconst 1461 hC (2 : Int32) dL_law_1461 (by decide) ?_
  refine gz_iadd 1462 hC dL_law_1462 ?_
  refine gz_sldR 1463 hC hXs hbl hbA h2 dL_law_1463 ?_
  refine gz_cvR (st := [.int r]) 1464 hC hR0 [.int (xs ((z + (1 : Int32))).toNatClampNeg), .int (xs ((z + (2 : Int32))).toNatClampNeg)] yl_X10_shod yv_X10_shod q_1454 ⟨Nat.le_of_ble_eq_true rfl, Nat.le_of_ble_eq_true rfl⟩ (gz_gd_some g2).1 (ct_X10_shod _ _ fu M1 mo (xs ((z + (1 : Int32))).toNatClampNeg) (xs ((z + (2 : Int32))).toNatClampNeg) (r, M2) e2) rfl rfl (Nat.le_of_ble_eq_true rfl) dL_law_1464 hroom ?_
  refine gz_icmp_eq 1467 1861 hC (A := some ()) (B := none) (y := ()) dL_law_1467 (by decide) (if_pos rfl) (fun _ => ?_) (fun h => nomatch h)
  exact hk _ hI2
theorem law_c_line {C : gz_C} {IV : gz_M → Prop} {fu x mo b L cs sl : Nat} {xs : Nat → Int32} {z : Int32} {M : gz_M} (hop : gz_op_line IV fu x mo) (hI : IV M) (hC : gz_ok C code RL 4) (hR0 : gz_cy C 12 440 600000 7302250) (hXs : va_X b L xs C.1.2.2.2.2 C.1.2.2.2.2.heap) (hbl : b < C.1.2.2.2.2.heap.size) (hbA : ¬ gz_A C.2.2.2 b) (h1 : vp_in (z + (1 : Int32)) L) (h2 : vp_in (z + (2 : Int32)) L) (h3 : vp_in (z + (3 : Int32)) L) (h4 : vp_in (z + (4 : Int32)) L) (h5 : vp_in (z + (5 : Int32)) L) (hcr : cs + 43 ≤ 600000 ∧ sl + 1332 ≤ 7302250) (hk : ∀ M2, IV M2 → gz_go C (cs) (sl) M2 [(0, .ref b), (1, .ref x), (2, .ref mo), (3, .int z)] 1861 []) : gz_go C cs sl M [(0, .ref b), (1, .ref x), (2, .ref mo), (3, .int z)] 1472 [] := by
  obtain ⟨r, M1, M2, e1, e2, hI2⟩ := hop M ((xs ((z + (1 : Int32))).toNatClampNeg)) ((xs ((z + (2 : Int32))).toNatClampNeg)) ((xs ((z + (3 : Int32))).toNatClampNeg)) ((xs ((z + (4 : Int32))).toNatClampNeg)) hI
  have hroom : cs + 0 ≤ 600000 ∧ sl + 0 ≤ 7302250 := ⟨by omega, by omega⟩
  have g1 := e1
  unfold f_X9_line at g1
  have g2 := e2
  unfold f_X10_line at g2
  refine gz_aload_n 1472 hC 1 dL_law_1472 rfl rfl ?_
  refine gz_aload_n 1473 hC 0 dL_law_1473 rfl rfl ?_
  refine gz_iload_n 1474 hC 3 dL_law_1474 rfl rfl ?_
  refine gz_iconst 1475 hC (1 : Int32) dL_law_1475 (by decide) ?_
  refine gz_iadd 1476 hC dL_law_1476 ?_
  refine gz_sldR 1477 hC hXs hbl hbA h1 dL_law_1477 ?_
  refine gz_aload_n 1478 hC 0 dL_law_1478 rfl rfl ?_
  refine gz_iload_n 1479 hC 3 dL_law_1479 rfl rfl ?_
  refine gz_iconst 1480 hC (2 : Int32) dL_law_1480 (by decide) ?_
  refine gz_iadd 1481 hC dL_law_1481 ?_
  refine gz_sldR 1482 hC hXs hbl hbA h2 dL_law_1482 ?_
  refine gz_aload_n 1483 hC 0 dL_law_1483 rfl rfl ?_
  refine gz_iload_n 1484 hC 3 dL_law_1484 rfl rfl ?_
  refine gz_iconst 1485 hC (3 : Int32) dL_law_1485 (by decide) ?_
  refine gz_iadd 1486 hC dL_law_1486 ?_
  refine gz_sldR 1487 hC hXs hbl hbA h3 dL_law_1487 ?_
  refine gz_aload_n 1488 hC 0 dL_law_1488 rfl rfl ?_
  refine gz_iload_n 1489 hC 3 dL_law_1489 rfl rfl ?_
  refine gz_iconst 1490 hC (4 : Int32) dL_law_1490 (by decide) ?_
  refine gz_iadd 1491 hC dL_law_1491 ?_
  refine gz_sldR 1492 hC hXs hbl hbA h4 dL_law_1492 ?_
  refine gz_cvR (st := []) 1493 hC hR0 [.int (xs ((z + (1 : Int32))).toNatClampNeg), .int (xs ((z + (2 : Int32))).toNatClampNeg), .int (xs ((z + (3 : Int32))).toNatClampNeg), .int (xs ((z + (4 : Int32))).toNatClampNeg)] yl_X9_line yv_X9_line q_905 ⟨Nat.le_of_ble_eq_true rfl, Nat.le_of_ble_eq_true rfl⟩ (gz_gd_some g1).1 (ct_X9_line _ _ fu M x (xs ((z + (1 : Int32))).toNatClampNeg) (xs ((z + (2 : Int32))).toNatClampNeg) (xs ((z + (3 : Int32))).toNatClampNeg) (xs ((z + (4 : Int32))).toNatClampNeg) (r, M1) e1) rfl rfl (Nat.le_of_ble_eq_true rfl) dL_law_1493 hroom ?_
  refine gz_aload_n 1496 hC 2 dL_law_1496 rfl rfl ?_
  refine gz_aload_n 1497 hC 0 dL_law_1497 rfl rfl ?_
  refine gz_iload_n 1498 hC 3 dL_law_1498 rfl rfl ?_
  refine gz_iconst 1499 hC (1 : Int32) dL_law_1499 (by decide) ?_
  refine gz_iadd 1500 hC dL_law_1500 ?_
  refine gz_sldR 1501 hC hXs hbl hbA h1 dL_law_1501 ?_
  refine gz_aload_n 1502 hC 0 dL_law_1502 rfl rfl ?_
  refine gz_iload_n 1503 hC 3 dL_law_1503 rfl rfl ?_
  refine gz_iconst 1504 hC (2 : Int32) dL_law_1504 (by decide) ?_
  refine gz_iadd 1505 hC dL_law_1505 ?_
  refine gz_sldR 1506 hC hXs hbl hbA h2 dL_law_1506 ?_
  refine gz_aload_n 1507 hC 0 dL_law_1507 rfl rfl ?_
  refine gz_iload_n 1508 hC 3 dL_law_1508 rfl rfl ?_
  refine gz_iconst 1509 hC (3 : Int32) dL_law_1509 (by decide) ?_
  refine gz_iadd 1510 hC dL_law_1510 ?_
  refine gz_sldR 1511 hC hXs hbl hbA h3 dL_law_1511 ?_
  refine gz_aload_n 1512 hC 0 dL_law_1512 rfl rfl ?_
  refine gz_iload_n 1513 hC 3 dL_law_1513 rfl rfl ?_
  refine gz_iconst 1514 hC (4 : Int32) dL_law_1514 (by decide) ?_
  refine gz_iadd 1515 hC dL_law_1515 ?_
  refine gz_sldR 1516 hC hXs hbl hbA h4 dL_law_1516 ?_
  refine gz_cvR (st := [.int r]) 1517 hC hR0 [.int (xs ((z + (1 : Int32))).toNatClampNeg), .int (xs ((z + (2 : Int32))).toNatClampNeg), .int (xs ((z + (3 : Int32))).toNatClampNeg), .int (xs ((z + (4 : Int32))).toNatClampNeg)] yl_X10_line yv_X10_line q_1462 ⟨Nat.le_of_ble_eq_true rfl, Nat.le_of_ble_eq_true rfl⟩ (gz_gd_some g2).1 (ct_X10_line _ _ fu M1 mo (xs ((z + (1 : Int32))).toNatClampNeg) (xs ((z + (2 : Int32))).toNatClampNeg) (xs ((z + (3 : Int32))).toNatClampNeg) (xs ((z + (4 : Int32))).toNatClampNeg) (r, M2) e2) rfl rfl (Nat.le_of_ble_eq_true rfl) dL_law_1517 hroom ?_
  refine gz_icmp_eq 1520 1861 hC (A := some ()) (B := none) (y := ()) dL_law_1520 (by decide) (if_pos rfl) (fun _ => ?_) (fun h => nomatch h)
  exact hk _ hI2
theorem law_c_corners {C : gz_C} {IV : gz_M → Prop} {fu x mo b L cs sl : Nat} {xs : Nat → Int32} {z : Int32} {M : gz_M} (hop : gz_op_corners IV fu x mo) (hI : IV M) (hC : gz_ok C code RL 4) (hR0 : gz_cy C 12 440 600000 7302250) (hXs : va_X b L xs C.1.2.2.2.2 C.1.2.2.2.2.heap) (hbl : b < C.1.2.2.2.2.heap.size) (hbA : ¬ gz_A C.2.2.2 b) (h1 : vp_in (z + (1 : Int32)) L) (h2 : vp_in (z + (2 : Int32)) L) (h3 : vp_in (z + (3 : Int32)) L) (h4 : vp_in (z + (4 : Int32)) L) (h5 : vp_in (z + (5 : Int32)) L) (hcr : cs + 43 ≤ 600000 ∧ sl + 1332 ≤ 7302250) (hk : ∀ M2, IV M2 → gz_go C (cs) (sl) M2 [(0, .ref b), (1, .ref x), (2, .ref mo), (3, .int z)] 1861 []) : gz_go C cs sl M [(0, .ref b), (1, .ref x), (2, .ref mo), (3, .int z)] 1525 [] := by
  obtain ⟨r, M1, M2, e1, e2, hI2⟩ := hop M ((xs ((z + (1 : Int32))).toNatClampNeg)) hI
  have hroom : cs + 0 ≤ 600000 ∧ sl + 0 ≤ 7302250 := ⟨by omega, by omega⟩
  have g1 := e1
  unfold f_X9_corners at g1
  have g2 := e2
  unfold f_X10_corners at g2
  refine gz_aload_n 1525 hC 1 dL_law_1525 rfl rfl ?_
  refine gz_aload_n 1526 hC 0 dL_law_1526 rfl rfl ?_
  refine gz_iload_n 1527 hC 3 dL_law_1527 rfl rfl ?_
  refine gz_iconst 1528 hC (1 : Int32) dL_law_1528 (by decide) ?_
  refine gz_iadd 1529 hC dL_law_1529 ?_
  refine gz_sldR 1530 hC hXs hbl hbA h1 dL_law_1530 ?_
  refine gz_cvR (st := []) 1531 hC hR0 [.int (xs ((z + (1 : Int32))).toNatClampNeg)] yl_X9_corners yv_X9_corners q_940 ⟨Nat.le_of_ble_eq_true rfl, Nat.le_of_ble_eq_true rfl⟩ (gz_gd_some g1).1 (ct_X9_corners _ _ fu M x (xs ((z + (1 : Int32))).toNatClampNeg) (r, M1) e1) rfl rfl (Nat.le_of_ble_eq_true rfl) dL_law_1531 hroom ?_
  refine gz_aload_n 1534 hC 2 dL_law_1534 rfl rfl ?_
  refine gz_aload_n 1535 hC 0 dL_law_1535 rfl rfl ?_
  refine gz_iload_n 1536 hC 3 dL_law_1536 rfl rfl ?_
  refine gz_iconst 1537 hC (1 : Int32) dL_law_1537 (by decide) ?_
  refine gz_iadd 1538 hC dL_law_1538 ?_
  refine gz_sldR 1539 hC hXs hbl hbA h1 dL_law_1539 ?_
  refine gz_cvR (st := [.int r]) 1540 hC hR0 [.int (xs ((z + (1 : Int32))).toNatClampNeg)] yl_X10_corners yv_X10_corners q_1480 ⟨Nat.le_of_ble_eq_true rfl, Nat.le_of_ble_eq_true rfl⟩ (gz_gd_some g2).1 (ct_X10_corners _ _ fu M1 mo (xs ((z + (1 : Int32))).toNatClampNeg) (r, M2) e2) rfl rfl (Nat.le_of_ble_eq_true rfl) dL_law_1540 hroom ?_
  refine gz_icmp_eq 1543 1861 hC (A := some ()) (B := none) (y := ()) dL_law_1543 (by decide) (if_pos rfl) (fun _ => ?_) (fun h => nomatch h)
  exact hk _ hI2
theorem law_c_corner {C : gz_C} {IV : gz_M → Prop} {fu x mo b L cs sl : Nat} {xs : Nat → Int32} {z : Int32} {M : gz_M} (hop : gz_op_corner IV fu x mo) (hI : IV M) (hC : gz_ok C code RL 4) (hR0 : gz_cy C 12 440 600000 7302250) (hXs : va_X b L xs C.1.2.2.2.2 C.1.2.2.2.2.heap) (hbl : b < C.1.2.2.2.2.heap.size) (hbA : ¬ gz_A C.2.2.2 b) (h1 : vp_in (z + (1 : Int32)) L) (h2 : vp_in (z + (2 : Int32)) L) (h3 : vp_in (z + (3 : Int32)) L) (h4 : vp_in (z + (4 : Int32)) L) (h5 : vp_in (z + (5 : Int32)) L) (hcr : cs + 43 ≤ 600000 ∧ sl + 1332 ≤ 7302250) (hk : ∀ M2, IV M2 → gz_go C (cs) (sl) M2 [(0, .ref b), (1, .ref x), (2, .ref mo), (3, .int z)] 1861 []) : gz_go C cs sl M [(0, .ref b), (1, .ref x), (2, .ref mo), (3, .int z)] 1548 [] := by
  obtain ⟨r, M1, M2, e1, e2, hI2⟩ := hop M ((xs ((z + (1 : Int32))).toNatClampNeg)) ((xs ((z + (2 : Int32))).toNatClampNeg)) hI
  have hroom : cs + 0 ≤ 600000 ∧ sl + 0 ≤ 7302250 := ⟨by omega, by omega⟩
  have g1 := e1
  unfold f_X9_corner at g1
  have g2 := e2
  unfold f_X10_corner at g2
  refine gz_aload_n 1548 hC 1 dL_law_1548 rfl rfl ?_
  refine gz_aload_n 1549 hC 0 dL_law_1549 rfl rfl ?_
  refine gz_iload_n 1550 hC 3 dL_law_1550 rfl rfl ?_
  refine gz_iconst 1551 hC (1 : Int32) dL_law_1551 (by decide) ?_
  refine gz_iadd 1552 hC dL_law_1552 ?_
  refine gz_sldR 1553 hC hXs hbl hbA h1 dL_law_1553 ?_
  refine gz_aload_n 1554 hC 0 dL_law_1554 rfl rfl ?_
  refine gz_iload_n 1555 hC 3 dL_law_1555 rfl rfl ?_
  refine gz_iconst 1556 hC (2 : Int32) dL_law_1556 (by decide) ?_
  refine gz_iadd 1557 hC dL_law_1557 ?_
  refine gz_sldR 1558 hC hXs hbl hbA h2 dL_law_1558 ?_
  refine gz_cvR (st := []) 1559 hC hR0 [.int (xs ((z + (1 : Int32))).toNatClampNeg), .int (xs ((z + (2 : Int32))).toNatClampNeg)] yl_X9_corner yv_X9_corner q_949 ⟨Nat.le_of_ble_eq_true rfl, Nat.le_of_ble_eq_true rfl⟩ (gz_gd_some g1).1 (ct_X9_corner _ _ fu M x (xs ((z + (1 : Int32))).toNatClampNeg) (xs ((z + (2 : Int32))).toNatClampNeg) (r, M1) e1) rfl rfl (Nat.le_of_ble_eq_true rfl) dL_law_1559 hroom ?_
  refine gz_aload_n 1562 hC 2 dL_law_1562 rfl rfl ?_
  refine gz_aload_n 1563 hC 0 dL_law_1563 rfl rfl ?_
  refine gz_iload_n 1564 hC 3 dL_law_1564 rfl rfl ?_
  refine gz_iconst 1565 hC (1 : Int32) dL_law_1565 (by decide) ?_
  refine gz_iadd 1566 hC dL_law_1566 ?_
  refine gz_sldR 1567 hC hXs hbl hbA h1 dL_law_1567 ?_
  refine gz_aload_n 1568 hC 0 dL_law_1568 rfl rfl ?_
  refine gz_iload_n 1569 hC 3 dL_law_1569 rfl rfl ?_
  refine gz_iconst 1570 hC (2 : Int32) dL_law_1570 (by decide) ?_
  refine gz_iadd 1571 hC dL_law_1571 ?_
  refine gz_sldR 1572 hC hXs hbl hbA h2 dL_law_1572 ?_
  refine gz_cvR (st := [.int r]) 1573 hC hR0 [.int (xs ((z + (1 : Int32))).toNatClampNeg), .int (xs ((z + (2 : Int32))).toNatClampNeg)] yl_X10_corner yv_X10_corner q_1484 ⟨Nat.le_of_ble_eq_true rfl, Nat.le_of_ble_eq_true rfl⟩ (gz_gd_some g2).1 (ct_X10_corner _ _ fu M1 mo (xs ((z + (1 : Int32))).toNatClampNeg) (xs ((z + (2 : Int32))).toNatClampNeg) (r, M2) e2) rfl rfl (Nat.le_of_ble_eq_true rfl) dL_law_1573 hroom ?_
  refine gz_icmp_eq 1576 1861 hC (A := some ()) (B := none) (y := ()) dL_law_1576 (by decide) (if_pos rfl) (fun _ => ?_) (fun h => nomatch h)
  exact hk _ hI2
theorem law_c_keeps {C : gz_C} {IV : gz_M → Prop} {fu x mo b L cs sl : Nat} {xs : Nat → Int32} {z : Int32} {M : gz_M} (hop : gz_op_keeps IV fu x mo) (hI : IV M) (hC : gz_ok C code RL 4) (hR0 : gz_cy C 12 440 600000 7302250) (hXs : va_X b L xs C.1.2.2.2.2 C.1.2.2.2.2.heap) (hbl : b < C.1.2.2.2.2.heap.size) (hbA : ¬ gz_A C.2.2.2 b) (h1 : vp_in (z + (1 : Int32)) L) (h2 : vp_in (z + (2 : Int32)) L) (h3 : vp_in (z + (3 : Int32)) L) (h4 : vp_in (z + (4 : Int32)) L) (h5 : vp_in (z + (5 : Int32)) L) (hcr : cs + 43 ≤ 600000 ∧ sl + 1332 ≤ 7302250) (hk : ∀ M2, IV M2 → gz_go C (cs) (sl) M2 [(0, .ref b), (1, .ref x), (2, .ref mo), (3, .int z)] 1861 []) : gz_go C cs sl M [(0, .ref b), (1, .ref x), (2, .ref mo), (3, .int z)] 1581 [] := by
  obtain ⟨r, M1, M2, e1, e2, hI2⟩ := hop M ((xs ((z + (1 : Int32))).toNatClampNeg)) ((xs ((z + (2 : Int32))).toNatClampNeg)) ((xs ((z + (3 : Int32))).toNatClampNeg)) hI
  have hroom : cs + 0 ≤ 600000 ∧ sl + 0 ≤ 7302250 := ⟨by omega, by omega⟩
  have g1 := e1
  unfold f_X9_keeps at g1
  have g2 := e2
  unfold f_X10_keeps at g2
  refine gz_aload_n 1581 hC 1 dL_law_1581 rfl rfl ?_
  refine gz_aload_n 1582 hC 0 dL_law_1582 rfl rfl ?_
  refine gz_iload_n 1583 hC 3 dL_law_1583 rfl rfl ?_
  refine gz_iconst 1584 hC (1 : Int32) dL_law_1584 (by decide) ?_
  refine gz_iadd 1585 hC dL_law_1585 ?_
  refine gz_sldR 1586 hC hXs hbl hbA h1 dL_law_1586 ?_
  refine gz_aload_n 1587 hC 0 dL_law_1587 rfl rfl ?_
  refine gz_iload_n 1588 hC 3 dL_law_1588 rfl rfl ?_
  refine gz_iconst 1589 hC (2 : Int32) dL_law_1589 (by decide) ?_
  refine gz_iadd 1590 hC dL_law_1590 ?_
  refine gz_sldR 1591 hC hXs hbl hbA h2 dL_law_1591 ?_
  refine gz_aload_n 1592 hC 0 dL_law_1592 rfl rfl ?_
  refine gz_iload_n 1593 hC 3 dL_law_1593 rfl rfl ?_
  refine gz_iconst 1594 hC (3 : Int32) dL_law_1594 (by decide) ?_
  refine gz_iadd 1595 hC dL_law_1595 ?_
  refine gz_sldR 1596 hC hXs hbl hbA h3 dL_law_1596 ?_
  refine gz_cvR (st := []) 1597 hC hR0 [.int (xs ((z + (1 : Int32))).toNatClampNeg), .int (xs ((z + (2 : Int32))).toNatClampNeg), .int (xs ((z + (3 : Int32))).toNatClampNeg)] yl_X9_keeps yv_X9_keeps q_972 ⟨Nat.le_of_ble_eq_true rfl, Nat.le_of_ble_eq_true rfl⟩ (gz_gd_some g1).1 (ct_X9_keeps _ _ fu M x (xs ((z + (1 : Int32))).toNatClampNeg) (xs ((z + (2 : Int32))).toNatClampNeg) (xs ((z + (3 : Int32))).toNatClampNeg) (r, M1) e1) rfl rfl (Nat.le_of_ble_eq_true rfl) dL_law_1597 hroom ?_
  refine gz_aload_n 1600 hC 2 dL_law_1600 rfl rfl ?_
  refine gz_aload_n 1601 hC 0 dL_law_1601 rfl rfl ?_
  refine gz_iload_n 1602 hC 3 dL_law_1602 rfl rfl ?_
  refine gz_iconst 1603 hC (1 : Int32) dL_law_1603 (by decide) ?_
  refine gz_iadd 1604 hC dL_law_1604 ?_
  refine gz_sldR 1605 hC hXs hbl hbA h1 dL_law_1605 ?_
  refine gz_aload_n 1606 hC 0 dL_law_1606 rfl rfl ?_
  refine gz_iload_n 1607 hC 3 dL_law_1607 rfl rfl ?_
  refine gz_iconst 1608 hC (2 : Int32) dL_law_1608 (by decide) ?_
  refine gz_iadd 1609 hC dL_law_1609 ?_
  refine gz_sldR 1610 hC hXs hbl hbA h2 dL_law_1610 ?_
  refine gz_aload_n 1611 hC 0 dL_law_1611 rfl rfl ?_
  refine gz_iload_n 1612 hC 3 dL_law_1612 rfl rfl ?_
  refine gz_iconst 1613 hC (3 : Int32) dL_law_1613 (by decide) ?_
  refine gz_iadd 1614 hC dL_law_1614 ?_
  refine gz_sldR 1615 hC hXs hbl hbA h3 dL_law_1615 ?_
  refine gz_cvR (st := [.int r]) 1616 hC hR0 [.int (xs ((z + (1 : Int32))).toNatClampNeg), .int (xs ((z + (2 : Int32))).toNatClampNeg), .int (xs ((z + (3 : Int32))).toNatClampNeg)] yl_X10_keeps yv_X10_keeps q_1488 ⟨Nat.le_of_ble_eq_true rfl, Nat.le_of_ble_eq_true rfl⟩ (gz_gd_some g2).1 (ct_X10_keeps _ _ fu M1 mo (xs ((z + (1 : Int32))).toNatClampNeg) (xs ((z + (2 : Int32))).toNatClampNeg) (xs ((z + (3 : Int32))).toNatClampNeg) (r, M2) e2) rfl rfl (Nat.le_of_ble_eq_true rfl) dL_law_1616 hroom ?_
  refine gz_icmp_eq 1619 1861 hC (A := some ()) (B := none) (y := ()) dL_law_1619 (by decide) (if_pos rfl) (fun _ => ?_) (fun h => nomatch h)
  exact hk _ hI2
theorem law_c_lend {C : gz_C} {IV : gz_M → Prop} {fu x mo b L cs sl : Nat} {xs : Nat → Int32} {z : Int32} {M : gz_M} (hop : gz_op_lend IV fu x mo) (hI : IV M) (hC : gz_ok C code RL 4) (hR0 : gz_cy C 12 440 600000 7302250) (hXs : va_X b L xs C.1.2.2.2.2 C.1.2.2.2.2.heap) (hbl : b < C.1.2.2.2.2.heap.size) (hbA : ¬ gz_A C.2.2.2 b) (h1 : vp_in (z + (1 : Int32)) L) (h2 : vp_in (z + (2 : Int32)) L) (h3 : vp_in (z + (3 : Int32)) L) (h4 : vp_in (z + (4 : Int32)) L) (h5 : vp_in (z + (5 : Int32)) L) (hcr : cs + 43 ≤ 600000 ∧ sl + 1332 ≤ 7302250) (hk : ∀ M2, IV M2 → gz_go C (cs) (sl) M2 [(0, .ref b), (1, .ref x), (2, .ref mo), (3, .int z)] 1861 []) : gz_go C cs sl M [(0, .ref b), (1, .ref x), (2, .ref mo), (3, .int z)] 1624 [] := by
  obtain ⟨r, M1, M2, e1, e2, hI2⟩ := hop M ((xs ((z + (1 : Int32))).toNatClampNeg)) ((xs ((z + (2 : Int32))).toNatClampNeg)) ((xs ((z + (3 : Int32))).toNatClampNeg)) ((xs ((z + (4 : Int32))).toNatClampNeg)) hI
  have hroom : cs + 0 ≤ 600000 ∧ sl + 0 ≤ 7302250 := ⟨by omega, by omega⟩
  have g1 := e1
  unfold f_X9_lend at g1
  have g2 := e2
  unfold f_X10_lend at g2
  refine gz_aload_n 1624 hC 1 dL_law_1624 rfl rfl ?_
  refine gz_aload_n 1625 hC 0 dL_law_1625 rfl rfl ?_
  refine gz_iload_n 1626 hC 3 dL_law_1626 rfl rfl ?_
  refine gz_iconst 1627 hC (1 : Int32) dL_law_1627 (by decide) ?_
  refine gz_iadd 1628 hC dL_law_1628 ?_
  refine gz_sldR 1629 hC hXs hbl hbA h1 dL_law_1629 ?_
  refine gz_aload_n 1630 hC 0 dL_law_1630 rfl rfl ?_
  refine gz_iload_n 1631 hC 3 dL_law_1631 rfl rfl ?_
  refine gz_iconst 1632 hC (2 : Int32) dL_law_1632 (by decide) ?_
  refine gz_iadd 1633 hC dL_law_1633 ?_
  refine gz_sldR 1634 hC hXs hbl hbA h2 dL_law_1634 ?_
  refine gz_aload_n 1635 hC 0 dL_law_1635 rfl rfl ?_
  refine gz_iload_n 1636 hC 3 dL_law_1636 rfl rfl ?_
  refine gz_iconst 1637 hC (3 : Int32) dL_law_1637 (by decide) ?_
  refine gz_iadd 1638 hC dL_law_1638 ?_
  refine gz_sldR 1639 hC hXs hbl hbA h3 dL_law_1639 ?_
  refine gz_aload_n 1640 hC 0 dL_law_1640 rfl rfl ?_
  refine gz_iload_n 1641 hC 3 dL_law_1641 rfl rfl ?_
  refine gz_iconst 1642 hC (4 : Int32) dL_law_1642 (by decide) ?_
  refine gz_iadd 1643 hC dL_law_1643 ?_
  refine gz_sldR 1644 hC hXs hbl hbA h4 dL_law_1644 ?_
  refine gz_cvR (st := []) 1645 hC hR0 [.int (xs ((z + (1 : Int32))).toNatClampNeg), .int (xs ((z + (2 : Int32))).toNatClampNeg), .int (xs ((z + (3 : Int32))).toNatClampNeg), .int (xs ((z + (4 : Int32))).toNatClampNeg)] yl_X9_lend yv_X9_lend q_981 ⟨Nat.le_of_ble_eq_true rfl, Nat.le_of_ble_eq_true rfl⟩ (gz_gd_some g1).1 (ct_X9_lend _ _ fu M x (xs ((z + (1 : Int32))).toNatClampNeg) (xs ((z + (2 : Int32))).toNatClampNeg) (xs ((z + (3 : Int32))).toNatClampNeg) (xs ((z + (4 : Int32))).toNatClampNeg) (r, M1) e1) rfl rfl (Nat.le_of_ble_eq_true rfl) dL_law_1645 hroom ?_
  refine gz_aload_n 1648 hC 2 dL_law_1648 rfl rfl ?_
  refine gz_aload_n 1649 hC 0 dL_law_1649 rfl rfl ?_
  refine gz_iload_n 1650 hC 3 dL_law_1650 rfl rfl ?_
  refine gz_iconst 1651 hC (1 : Int32) dL_law_1651 (by decide) ?_
  refine gz_iadd 1652 hC dL_law_1652 ?_
  refine gz_sldR 1653 hC hXs hbl hbA h1 dL_law_1653 ?_
  refine gz_aload_n 1654 hC 0 dL_law_1654 rfl rfl ?_
  refine gz_iload_n 1655 hC 3 dL_law_1655 rfl rfl ?_
  refine gz_iconst 1656 hC (2 : Int32) dL_law_1656 (by decide) ?_
  refine gz_iadd 1657 hC dL_law_1657 ?_
  refine gz_sldR 1658 hC hXs hbl hbA h2 dL_law_1658 ?_
  refine gz_aload_n 1659 hC 0 dL_law_1659 rfl rfl ?_
  refine gz_iload_n 1660 hC 3 dL_law_1660 rfl rfl ?_
  refine gz_iconst 1661 hC (3 : Int32) dL_law_1661 (by decide) ?_
  refine gz_iadd 1662 hC dL_law_1662 ?_
  refine gz_sldR 1663 hC hXs hbl hbA h3 dL_law_1663 ?_
  refine gz_aload_n 1664 hC 0 dL_law_1664 rfl rfl ?_
  refine gz_iload_n 1665 hC 3 dL_law_1665 rfl rfl ?_
  refine gz_iconst 1666 hC (4 : Int32) dL_law_1666 (by decide) ?_
  refine gz_iadd 1667 hC dL_law_1667 ?_
  refine gz_sldR 1668 hC hXs hbl hbA h4 dL_law_1668 ?_
  refine gz_cvR (st := [.int r]) 1669 hC hR0 [.int (xs ((z + (1 : Int32))).toNatClampNeg), .int (xs ((z + (2 : Int32))).toNatClampNeg), .int (xs ((z + (3 : Int32))).toNatClampNeg), .int (xs ((z + (4 : Int32))).toNatClampNeg)] yl_X10_lend yv_X10_lend q_1492 ⟨Nat.le_of_ble_eq_true rfl, Nat.le_of_ble_eq_true rfl⟩ (gz_gd_some g2).1 (ct_X10_lend _ _ fu M1 mo (xs ((z + (1 : Int32))).toNatClampNeg) (xs ((z + (2 : Int32))).toNatClampNeg) (xs ((z + (3 : Int32))).toNatClampNeg) (xs ((z + (4 : Int32))).toNatClampNeg) (r, M2) e2) rfl rfl (Nat.le_of_ble_eq_true rfl) dL_law_1669 hroom ?_
  refine gz_icmp_eq 1672 1861 hC (A := some ()) (B := none) (y := ()) dL_law_1672 (by decide) (if_pos rfl) (fun _ => ?_) (fun h => nomatch h)
  exact hk _ hI2
theorem law_c_doubt {C : gz_C} {IV : gz_M → Prop} {fu x mo b L cs sl : Nat} {xs : Nat → Int32} {z : Int32} {M : gz_M} (hop : gz_op_doubt IV fu x mo) (hI : IV M) (hC : gz_ok C code RL 4) (hR0 : gz_cy C 12 440 600000 7302250) (hXs : va_X b L xs C.1.2.2.2.2 C.1.2.2.2.2.heap) (hbl : b < C.1.2.2.2.2.heap.size) (hbA : ¬ gz_A C.2.2.2 b) (h1 : vp_in (z + (1 : Int32)) L) (h2 : vp_in (z + (2 : Int32)) L) (h3 : vp_in (z + (3 : Int32)) L) (h4 : vp_in (z + (4 : Int32)) L) (h5 : vp_in (z + (5 : Int32)) L) (hcr : cs + 43 ≤ 600000 ∧ sl + 1332 ≤ 7302250) (hk : ∀ M2, IV M2 → gz_go C (cs) (sl) M2 [(0, .ref b), (1, .ref x), (2, .ref mo), (3, .int z)] 1861 []) : gz_go C cs sl M [(0, .ref b), (1, .ref x), (2, .ref mo), (3, .int z)] 1677 [] := by
  obtain ⟨r, M1, M2, e1, e2, hI2⟩ := hop M ((xs ((z + (1 : Int32))).toNatClampNeg)) ((xs ((z + (2 : Int32))).toNatClampNeg)) hI
  have hroom : cs + 0 ≤ 600000 ∧ sl + 0 ≤ 7302250 := ⟨by omega, by omega⟩
  have g1 := e1
  unfold f_X9_doubt at g1
  have g2 := e2
  unfold f_X10_doubt at g2
  refine gz_aload_n 1677 hC 1 dL_law_1677 rfl rfl ?_
  refine gz_aload_n 1678 hC 0 dL_law_1678 rfl rfl ?_
  refine gz_iload_n 1679 hC 3 dL_law_1679 rfl rfl ?_
  refine gz_iconst 1680 hC (1 : Int32) dL_law_1680 (by decide) ?_
  refine gz_iadd 1681 hC dL_law_1681 ?_
  refine gz_sldR 1682 hC hXs hbl hbA h1 dL_law_1682 ?_
  refine gz_aload_n 1683 hC 0 dL_law_1683 rfl rfl ?_
  refine gz_iload_n 1684 hC 3 dL_law_1684 rfl rfl ?_
  refine gz_iconst 1685 hC (2 : Int32) dL_law_1685 (by decide) ?_
  refine gz_iadd 1686 hC dL_law_1686 ?_
  refine gz_sldR 1687 hC hXs hbl hbA h2 dL_law_1687 ?_
  refine gz_cvR (st := []) 1688 hC hR0 [.int (xs ((z + (1 : Int32))).toNatClampNeg), .int (xs ((z + (2 : Int32))).toNatClampNeg)] yl_X9_doubt yv_X9_doubt q_988 ⟨Nat.le_of_ble_eq_true rfl, Nat.le_of_ble_eq_true rfl⟩ (gz_gd_some g1).1 (ct_X9_doubt _ _ fu M x (xs ((z + (1 : Int32))).toNatClampNeg) (xs ((z + (2 : Int32))).toNatClampNeg) (r, M1) e1) rfl rfl (Nat.le_of_ble_eq_true rfl) dL_law_1688 hroom ?_
  refine gz_aload_n 1691 hC 2 dL_law_1691 rfl rfl ?_
  refine gz_aload_n 1692 hC 0 dL_law_1692 rfl rfl ?_
  refine gz_iload_n 1693 hC 3 dL_law_1693 rfl rfl ?_
  refine gz_iconst 1694 hC (1 : Int32) dL_law_1694 (by decide) ?_
  refine gz_iadd 1695 hC dL_law_1695 ?_
  refine gz_sldR 1696 hC hXs hbl hbA h1 dL_law_1696 ?_
  refine gz_aload_n 1697 hC 0 dL_law_1697 rfl rfl ?_
  refine gz_iload_n 1698 hC 3 dL_law_1698 rfl rfl ?_
  refine gz_iconst 1699 hC (2 : Int32) dL_law_1699 (by decide) ?_
  refine gz_iadd 1700 hC dL_law_1700 ?_
  refine gz_sldR 1701 hC hXs hbl hbA h2 dL_law_1701 ?_
  refine gz_cvR (st := [.int r]) 1702 hC hR0 [.int (xs ((z + (1 : Int32))).toNatClampNeg), .int (xs ((z + (2 : Int32))).toNatClampNeg)] yl_X10_doubt yv_X10_doubt q_1504 ⟨Nat.le_of_ble_eq_true rfl, Nat.le_of_ble_eq_true rfl⟩ (gz_gd_some g2).1 (ct_X10_doubt _ _ fu M1 mo (xs ((z + (1 : Int32))).toNatClampNeg) (xs ((z + (2 : Int32))).toNatClampNeg) (r, M2) e2) rfl rfl (Nat.le_of_ble_eq_true rfl) dL_law_1702 hroom ?_
  refine gz_icmp_eq 1705 1861 hC (A := some ()) (B := none) (y := ()) dL_law_1705 (by decide) (if_pos rfl) (fun _ => ?_) (fun h => nomatch h)
  exact hk _ hI2
theorem law_c_idle {C : gz_C} {IV : gz_M → Prop} {fu x mo b L cs sl : Nat} {xs : Nat → Int32} {z : Int32} {M : gz_M} (hop : gz_op_idle IV fu x mo) (hI : IV M) (hC : gz_ok C code RL 4) (hR0 : gz_cy C 12 440 600000 7302250) (hXs : va_X b L xs C.1.2.2.2.2 C.1.2.2.2.2.heap) (hbl : b < C.1.2.2.2.2.heap.size) (hbA : ¬ gz_A C.2.2.2 b) (h1 : vp_in (z + (1 : Int32)) L) (h2 : vp_in (z + (2 : Int32)) L) (h3 : vp_in (z + (3 : Int32)) L) (h4 : vp_in (z + (4 : Int32)) L) (h5 : vp_in (z + (5 : Int32)) L) (hcr : cs + 43 ≤ 600000 ∧ sl + 1332 ≤ 7302250) (hk : ∀ M2, IV M2 → gz_go C (cs) (sl) M2 [(0, .ref b), (1, .ref x), (2, .ref mo), (3, .int z)] 1861 []) : gz_go C cs sl M [(0, .ref b), (1, .ref x), (2, .ref mo), (3, .int z)] 1710 [] := by
  obtain ⟨r, M1, M2, e1, e2, hI2⟩ := hop M ((xs ((z + (1 : Int32))).toNatClampNeg)) hI
  have hroom : cs + 0 ≤ 600000 ∧ sl + 0 ≤ 7302250 := ⟨by omega, by omega⟩
  have g1 := e1
  unfold f_X9_idle at g1
  have g2 := e2
  unfold f_X10_idle at g2
  refine gz_aload_n 1710 hC 1 dL_law_1710 rfl rfl ?_
  refine gz_aload_n 1711 hC 0 dL_law_1711 rfl rfl ?_
  refine gz_iload_n 1712 hC 3 dL_law_1712 rfl rfl ?_
  refine gz_iconst 1713 hC (1 : Int32) dL_law_1713 (by decide) ?_
  refine gz_iadd 1714 hC dL_law_1714 ?_
  refine gz_sldR 1715 hC hXs hbl hbA h1 dL_law_1715 ?_
  refine gz_cvR (st := []) 1716 hC hR0 [.int (xs ((z + (1 : Int32))).toNatClampNeg)] yl_X9_idle yv_X9_idle q_1001 ⟨Nat.le_of_ble_eq_true rfl, Nat.le_of_ble_eq_true rfl⟩ (gz_gd_some g1).1 (ct_X9_idle _ _ fu M x (xs ((z + (1 : Int32))).toNatClampNeg) (r, M1) e1) rfl rfl (Nat.le_of_ble_eq_true rfl) dL_law_1716 hroom ?_
  refine gz_aload_n 1719 hC 2 dL_law_1719 rfl rfl ?_
  refine gz_aload_n 1720 hC 0 dL_law_1720 rfl rfl ?_
  refine gz_iload_n 1721 hC 3 dL_law_1721 rfl rfl ?_
  refine gz_iconst 1722 hC (1 : Int32) dL_law_1722 (by decide) ?_
  refine gz_iadd 1723 hC dL_law_1723 ?_
  refine gz_sldR 1724 hC hXs hbl hbA h1 dL_law_1724 ?_
  refine gz_cvR (st := [.int r]) 1725 hC hR0 [.int (xs ((z + (1 : Int32))).toNatClampNeg)] yl_X10_idle yv_X10_idle q_1508 ⟨Nat.le_of_ble_eq_true rfl, Nat.le_of_ble_eq_true rfl⟩ (gz_gd_some g2).1 (ct_X10_idle _ _ fu M1 mo (xs ((z + (1 : Int32))).toNatClampNeg) (r, M2) e2) rfl rfl (Nat.le_of_ble_eq_true rfl) dL_law_1725 hroom ?_
  refine gz_icmp_eq 1728 1861 hC (A := some ()) (B := none) (y := ()) dL_law_1728 (by decide) (if_pos rfl) (fun _ => ?_) (fun h => nomatch h)
  exact hk _ hI2
theorem law_c_begin {C : gz_C} {IV : gz_M → Prop} {fu x mo b L cs sl : Nat} {xs : Nat → Int32} {z : Int32} {M : gz_M} (hop : gz_op_begin IV fu x mo) (hI : IV M) (hC : gz_ok C code RL 4) (hR0 : gz_cy C 12 440 600000 7302250) (hXs : va_X b L xs C.1.2.2.2.2 C.1.2.2.2.2.heap) (hbl : b < C.1.2.2.2.2.heap.size) (hbA : ¬ gz_A C.2.2.2 b) (h1 : vp_in (z + (1 : Int32)) L) (h2 : vp_in (z + (2 : Int32)) L) (h3 : vp_in (z + (3 : Int32)) L) (h4 : vp_in (z + (4 : Int32)) L) (h5 : vp_in (z + (5 : Int32)) L) (hcr : cs + 43 ≤ 600000 ∧ sl + 1332 ≤ 7302250) (hk : ∀ M2, IV M2 → gz_go C (cs) (sl) M2 [(0, .ref b), (1, .ref x), (2, .ref mo), (3, .int z)] 1861 []) : gz_go C cs sl M [(0, .ref b), (1, .ref x), (2, .ref mo), (3, .int z)] 1733 [] := by
  obtain ⟨r, M1, M2, e1, e2, hI2⟩ := hop M ((xs ((z + (1 : Int32))).toNatClampNeg)) ((xs ((z + (2 : Int32))).toNatClampNeg)) hI
  have hroom : cs + 0 ≤ 600000 ∧ sl + 0 ≤ 7302250 := ⟨by omega, by omega⟩
  have g1 := e1
  unfold f_X9_begin at g1
  have g2 := e2
  unfold f_X10_begin at g2
  refine gz_aload_n 1733 hC 1 dL_law_1733 rfl rfl ?_
  refine gz_aload_n 1734 hC 0 dL_law_1734 rfl rfl ?_
  refine gz_iload_n 1735 hC 3 dL_law_1735 rfl rfl ?_
  refine gz_iconst 1736 hC (1 : Int32) dL_law_1736 (by decide) ?_
  refine gz_iadd 1737 hC dL_law_1737 ?_
  refine gz_sldR 1738 hC hXs hbl hbA h1 dL_law_1738 ?_
  refine gz_aload_n 1739 hC 0 dL_law_1739 rfl rfl ?_
  refine gz_iload_n 1740 hC 3 dL_law_1740 rfl rfl ?_
  refine gz_iconst 1741 hC (2 : Int32) dL_law_1741 (by decide) ?_
  refine gz_iadd 1742 hC dL_law_1742 ?_
  refine gz_sldR 1743 hC hXs hbl hbA h2 dL_law_1743 ?_
  refine gz_cvR (st := []) 1744 hC hR0 [.int (xs ((z + (1 : Int32))).toNatClampNeg), .int (xs ((z + (2 : Int32))).toNatClampNeg)] yl_X9_begin yv_X9_begin q_1005 ⟨Nat.le_of_ble_eq_true rfl, Nat.le_of_ble_eq_true rfl⟩ (gz_gd_some g1).1 (ct_X9_begin _ _ fu M x (xs ((z + (1 : Int32))).toNatClampNeg) (xs ((z + (2 : Int32))).toNatClampNeg) (r, M1) e1) rfl rfl (Nat.le_of_ble_eq_true rfl) dL_law_1744 hroom ?_
  refine gz_aload_n 1747 hC 2 dL_law_1747 rfl rfl ?_
  refine gz_aload_n 1748 hC 0 dL_law_1748 rfl rfl ?_
  refine gz_iload_n 1749 hC 3 dL_law_1749 rfl rfl ?_
  refine gz_iconst 1750 hC (1 : Int32) dL_law_1750 (by decide) ?_
  refine gz_iadd 1751 hC dL_law_1751 ?_
  refine gz_sldR 1752 hC hXs hbl hbA h1 dL_law_1752 ?_
  refine gz_aload_n 1753 hC 0 dL_law_1753 rfl rfl ?_
  refine gz_iload_n 1754 hC 3 dL_law_1754 rfl rfl ?_
  refine gz_iconst 1755 hC (2 : Int32) dL_law_1755 (by decide) ?_
  refine gz_iadd 1756 hC dL_law_1756 ?_
  refine gz_sldR 1757 hC hXs hbl hbA h2 dL_law_1757 ?_
  refine gz_cvR (st := [.int r]) 1758 hC hR0 [.int (xs ((z + (1 : Int32))).toNatClampNeg), .int (xs ((z + (2 : Int32))).toNatClampNeg)] yl_X10_begin yv_X10_begin q_1512 ⟨Nat.le_of_ble_eq_true rfl, Nat.le_of_ble_eq_true rfl⟩ (gz_gd_some g2).1 (ct_X10_begin _ _ fu M1 mo (xs ((z + (1 : Int32))).toNatClampNeg) (xs ((z + (2 : Int32))).toNatClampNeg) (r, M2) e2) rfl rfl (Nat.le_of_ble_eq_true rfl) dL_law_1758 hroom ?_
  refine gz_icmp_eq 1761 1861 hC (A := some ()) (B := none) (y := ()) dL_law_1761 (by decide) (if_pos rfl) (fun _ => ?_) (fun h => nomatch h)
  exact hk _ hI2
theorem law_c_step {C : gz_C} {IV : gz_M → Prop} {fu x mo b L cs sl : Nat} {xs : Nat → Int32} {z : Int32} {M : gz_M} (hop : gz_op_step IV fu x mo) (hI : IV M) (hC : gz_ok C code RL 4) (hR0 : gz_cy C 12 440 600000 7302250) (hXs : va_X b L xs C.1.2.2.2.2 C.1.2.2.2.2.heap) (hbl : b < C.1.2.2.2.2.heap.size) (hbA : ¬ gz_A C.2.2.2 b) (h1 : vp_in (z + (1 : Int32)) L) (h2 : vp_in (z + (2 : Int32)) L) (h3 : vp_in (z + (3 : Int32)) L) (h4 : vp_in (z + (4 : Int32)) L) (h5 : vp_in (z + (5 : Int32)) L) (hcr : cs + 43 ≤ 600000 ∧ sl + 1332 ≤ 7302250) (hk : ∀ M2, IV M2 → gz_go C (cs) (sl) M2 [(0, .ref b), (1, .ref x), (2, .ref mo), (3, .int z)] 1861 []) : gz_go C cs sl M [(0, .ref b), (1, .ref x), (2, .ref mo), (3, .int z)] 1766 [] := by
  obtain ⟨r, M1, M2, e1, e2, hI2⟩ := hop M ((xs ((z + (1 : Int32))).toNatClampNeg)) hI
  have hroom : cs + 0 ≤ 600000 ∧ sl + 0 ≤ 7302250 := ⟨by omega, by omega⟩
  have g1 := e1
  unfold f_X9_step at g1
  have g2 := e2
  unfold f_X10_step at g2
  refine gz_aload_n 1766 hC 1 dL_law_1766 rfl rfl ?_
  refine gz_aload_n 1767 hC 0 dL_law_1767 rfl rfl ?_
  refine gz_iload_n 1768 hC 3 dL_law_1768 rfl rfl ?_
  refine gz_iconst 1769 hC (1 : Int32) dL_law_1769 (by decide) ?_
  refine gz_iadd 1770 hC dL_law_1770 ?_
  refine gz_sldR 1771 hC hXs hbl hbA h1 dL_law_1771 ?_
  refine gz_cvR (st := []) 1772 hC hR0 [.int (xs ((z + (1 : Int32))).toNatClampNeg)] yl_X9_step yv_X9_step q_1022 ⟨Nat.le_of_ble_eq_true rfl, Nat.le_of_ble_eq_true rfl⟩ (gz_gd_some g1).1 (ct_X9_step _ _ fu M x (xs ((z + (1 : Int32))).toNatClampNeg) (r, M1) e1) rfl rfl (Nat.le_of_ble_eq_true rfl) dL_law_1772 hroom ?_
  refine gz_aload_n 1775 hC 2 dL_law_1775 rfl rfl ?_
  refine gz_aload_n 1776 hC 0 dL_law_1776 rfl rfl ?_
  refine gz_iload_n 1777 hC 3 dL_law_1777 rfl rfl ?_
  refine gz_iconst 1778 hC (1 : Int32) dL_law_1778 (by decide) ?_
  refine gz_iadd 1779 hC dL_law_1779 ?_
  refine gz_sldR 1780 hC hXs hbl hbA h1 dL_law_1780 ?_
  refine gz_cvR (st := [.int r]) 1781 hC hR0 [.int (xs ((z + (1 : Int32))).toNatClampNeg)] yl_X10_step yv_X10_step q_1519 ⟨Nat.le_of_ble_eq_true rfl, Nat.le_of_ble_eq_true rfl⟩ (gz_gd_some g2).1 (ct_X10_step _ _ fu M1 mo (xs ((z + (1 : Int32))).toNatClampNeg) (r, M2) e2) rfl rfl (Nat.le_of_ble_eq_true rfl) dL_law_1781 hroom ?_
  refine gz_icmp_eq 1784 1861 hC (A := some ()) (B := none) (y := ()) dL_law_1784 (by decide) (if_pos rfl) (fun _ => ?_) (fun h => nomatch h)
  exact hk _ hI2
theorem law_c_search {C : gz_C} {IV : gz_M → Prop} {fu x mo b L cs sl : Nat} {xs : Nat → Int32} {z : Int32} {M : gz_M} (hop : gz_op_search IV fu x mo) (hI : IV M) (hC : gz_ok C code RL 4) (hR0 : gz_cy C 12 440 600000 7302250) (hXs : va_X b L xs C.1.2.2.2.2 C.1.2.2.2.2.heap) (hbl : b < C.1.2.2.2.2.heap.size) (hbA : ¬ gz_A C.2.2.2 b) (h1 : vp_in (z + (1 : Int32)) L) (h2 : vp_in (z + (2 : Int32)) L) (h3 : vp_in (z + (3 : Int32)) L) (h4 : vp_in (z + (4 : Int32)) L) (h5 : vp_in (z + (5 : Int32)) L) (hcr : cs + 43 ≤ 600000 ∧ sl + 1332 ≤ 7302250) (hk : ∀ M2, IV M2 → gz_go C (cs) (sl) M2 [(0, .ref b), (1, .ref x), (2, .ref mo), (3, .int z)] 1861 []) : gz_go C cs sl M [(0, .ref b), (1, .ref x), (2, .ref mo), (3, .int z)] 1789 [] := by
  obtain ⟨r, M1, M2, e1, e2, hI2⟩ := hop M ((xs ((z + (1 : Int32))).toNatClampNeg)) hI
  have hroom : cs + 0 ≤ 600000 ∧ sl + 0 ≤ 7302250 := ⟨by omega, by omega⟩
  have g1 := e1
  unfold f_X9_search at g1
  have g2 := e2
  unfold f_X10_search at g2
  refine gz_aload_n 1789 hC 1 dL_law_1789 rfl rfl ?_
  refine gz_aload_n 1790 hC 0 dL_law_1790 rfl rfl ?_
  refine gz_iload_n 1791 hC 3 dL_law_1791 rfl rfl ?_
  refine gz_iconst 1792 hC (1 : Int32) dL_law_1792 (by decide) ?_
  refine gz_iadd 1793 hC dL_law_1793 ?_
  refine gz_sldR 1794 hC hXs hbl hbA h1 dL_law_1794 ?_
  refine gz_cvR (st := []) 1795 hC hR0 [.int (xs ((z + (1 : Int32))).toNatClampNeg)] yl_X9_search yv_X9_search q_1037 ⟨Nat.le_of_ble_eq_true rfl, Nat.le_of_ble_eq_true rfl⟩ (gz_gd_some g1).1 (ct_X9_search _ _ fu M x (xs ((z + (1 : Int32))).toNatClampNeg) (r, M1) e1) rfl rfl (Nat.le_of_ble_eq_true rfl) dL_law_1795 hroom ?_
  refine gz_aload_n 1798 hC 2 dL_law_1798 rfl rfl ?_
  refine gz_aload_n 1799 hC 0 dL_law_1799 rfl rfl ?_
  refine gz_iload_n 1800 hC 3 dL_law_1800 rfl rfl ?_
  refine gz_iconst 1801 hC (1 : Int32) dL_law_1801 (by decide) ?_
  refine gz_iadd 1802 hC dL_law_1802 ?_
  refine gz_sldR 1803 hC hXs hbl hbA h1 dL_law_1803 ?_
  refine gz_cvR (st := [.int r]) 1804 hC hR0 [.int (xs ((z + (1 : Int32))).toNatClampNeg)] yl_X10_search yv_X10_search q_1528 ⟨Nat.le_of_ble_eq_true rfl, Nat.le_of_ble_eq_true rfl⟩ (gz_gd_some g2).1 (ct_X10_search _ _ fu M1 mo (xs ((z + (1 : Int32))).toNatClampNeg) (r, M2) e2) rfl rfl (Nat.le_of_ble_eq_true rfl) dL_law_1804 hroom ?_
  refine gz_icmp_eq 1807 1861 hC (A := some ()) (B := none) (y := ()) dL_law_1807 (by decide) (if_pos rfl) (fun _ => ?_) (fun h => nomatch h)
  exact hk _ hI2
theorem law_c_image {C : gz_C} {IV : gz_M → Prop} {fu x mo b L cs sl : Nat} {xs : Nat → Int32} {z : Int32} {M : gz_M} (hop : gz_op_image IV fu x mo) (hI : IV M) (hC : gz_ok C code RL 4) (hR0 : gz_cy C 12 440 600000 7302250) (hXs : va_X b L xs C.1.2.2.2.2 C.1.2.2.2.2.heap) (hbl : b < C.1.2.2.2.2.heap.size) (hbA : ¬ gz_A C.2.2.2 b) (h1 : vp_in (z + (1 : Int32)) L) (h2 : vp_in (z + (2 : Int32)) L) (h3 : vp_in (z + (3 : Int32)) L) (h4 : vp_in (z + (4 : Int32)) L) (h5 : vp_in (z + (5 : Int32)) L) (hcr : cs + 43 ≤ 600000 ∧ sl + 1332 ≤ 7302250) (hk : ∀ M2, IV M2 → gz_go C (cs + 43) (sl + 1332) M2 [(0, .ref b), (1, .ref x), (2, .ref mo), (3, .int z)] 1861 []) : gz_go C cs sl M [(0, .ref b), (1, .ref x), (2, .ref mo), (3, .int z)] 1812 [] := by
  obtain ⟨r, M1, M2, e1, e2, hI2⟩ := hop M hI
  have hroom : cs + 0 ≤ 600000 ∧ sl + 0 ≤ 7302250 := ⟨by omega, by omega⟩
  have g1 := e1
  unfold f_X9_image at g1
  have g2 := e2
  unfold f_X10_image at g2
  refine gz_aload_n 1812 hC 1 dL_law_1812 rfl rfl ?_
  refine gz_cvR (st := []) 1813 hC hR0 [] yl_X9_image yv_X9_image q_1041 ⟨Nat.le_of_ble_eq_true rfl, Nat.le_of_ble_eq_true rfl⟩ (gz_gd_some g1).1 (ct_X9_image _ _ fu M x (r, M1) e1) rfl rfl (Nat.le_of_ble_eq_true rfl) dL_law_1813 hroom ?_
  refine gz_aload_n 1816 hC 2 dL_law_1816 rfl rfl ?_
  refine gz_cvR (st := [.int r]) 1817 hC hR0 [] yl_X10_image yv_X10_image q_1532 ⟨Nat.le_of_ble_eq_true rfl, Nat.le_of_ble_eq_true rfl⟩ (gz_gd_some g2).1 (ct_X10_image _ _ fu M1 mo (r, M2) e2) rfl rfl (Nat.le_of_ble_eq_true rfl) dL_law_1817 ⟨hcr.1, hcr.2⟩ ?_
  refine gz_icmp_eq 1820 1861 hC (A := some ()) (B := none) (y := ()) dL_law_1820 (by decide) (if_pos rfl) (fun _ => ?_) (fun h => nomatch h)
  exact hk _ hI2
theorem law_c_back {C : gz_C} {IV : gz_M → Prop} {fu x mo b L cs sl : Nat} {xs : Nat → Int32} {z : Int32} {M : gz_M} (hop : gz_op_back IV fu x mo) (hI : IV M) (hC : gz_ok C code RL 4) (hR0 : gz_cy C 12 440 600000 7302250) (hXs : va_X b L xs C.1.2.2.2.2 C.1.2.2.2.2.heap) (hbl : b < C.1.2.2.2.2.heap.size) (hbA : ¬ gz_A C.2.2.2 b) (h1 : vp_in (z + (1 : Int32)) L) (h2 : vp_in (z + (2 : Int32)) L) (h3 : vp_in (z + (3 : Int32)) L) (h4 : vp_in (z + (4 : Int32)) L) (h5 : vp_in (z + (5 : Int32)) L) (hcr : cs + 43 ≤ 600000 ∧ sl + 1332 ≤ 7302250) (hk : ∀ M2, IV M2 → gz_go C (cs) (sl) M2 [(0, .ref b), (1, .ref x), (2, .ref mo), (3, .int z)] 1861 []) : gz_go C cs sl M [(0, .ref b), (1, .ref x), (2, .ref mo), (3, .int z)] 1825 [] := by
  obtain ⟨r, M1, M2, e1, e2, hI2⟩ := hop M hI
  have hroom : cs + 0 ≤ 600000 ∧ sl + 0 ≤ 7302250 := ⟨by omega, by omega⟩
  have g1 := e1
  unfold f_X9_back at g1
  have g2 := e2
  unfold f_X10_back at g2
  refine gz_aload_n 1825 hC 1 dL_law_1825 rfl rfl ?_
  refine gz_cvR (st := []) 1826 hC hR0 [] yl_X9_back yv_X9_back q_1054 ⟨Nat.le_of_ble_eq_true rfl, Nat.le_of_ble_eq_true rfl⟩ (gz_gd_some g1).1 (ct_X9_back _ _ fu M x (r, M1) e1) rfl rfl (Nat.le_of_ble_eq_true rfl) dL_law_1826 hroom ?_
  refine gz_aload_n 1829 hC 2 dL_law_1829 rfl rfl ?_
  refine gz_cvR (st := [.int r]) 1830 hC hR0 [] yl_X10_back yv_X10_back q_1542 ⟨Nat.le_of_ble_eq_true rfl, Nat.le_of_ble_eq_true rfl⟩ (gz_gd_some g2).1 (ct_X10_back _ _ fu M1 mo (r, M2) e2) rfl rfl (Nat.le_of_ble_eq_true rfl) dL_law_1830 hroom ?_
  refine gz_icmp_eq 1833 1861 hC (A := some ()) (B := none) (y := ()) dL_law_1833 (by decide) (if_pos rfl) (fun _ => ?_) (fun h => nomatch h)
  exact hk _ hI2
theorem law_c_status {C : gz_C} {IV : gz_M → Prop} {fu x mo b L cs sl : Nat} {xs : Nat → Int32} {z : Int32} {M : gz_M} (hop : gz_op_status IV fu x mo) (hI : IV M) (hC : gz_ok C code RL 4) (hR0 : gz_cy C 12 440 600000 7302250) (hXs : va_X b L xs C.1.2.2.2.2 C.1.2.2.2.2.heap) (hbl : b < C.1.2.2.2.2.heap.size) (hbA : ¬ gz_A C.2.2.2 b) (h1 : vp_in (z + (1 : Int32)) L) (h2 : vp_in (z + (2 : Int32)) L) (h3 : vp_in (z + (3 : Int32)) L) (h4 : vp_in (z + (4 : Int32)) L) (h5 : vp_in (z + (5 : Int32)) L) (hcr : cs + 43 ≤ 600000 ∧ sl + 1332 ≤ 7302250) (hk : ∀ M2, IV M2 → gz_go C (cs) (sl) M2 [(0, .ref b), (1, .ref x), (2, .ref mo), (3, .int z)] 1861 []) : gz_go C cs sl M [(0, .ref b), (1, .ref x), (2, .ref mo), (3, .int z)] 1838 [] := by
  obtain ⟨r, e1, e2, hI2⟩ := hop M ((xs ((z + (1 : Int32))).toNatClampNeg)) hI
  have hroom : cs + 0 ≤ 600000 ∧ sl + 0 ≤ 7302250 := ⟨by omega, by omega⟩
  have g1 := e1
  unfold f_X9_status at g1
  have g2 := e2
  unfold f_X10_status at g2
  refine gz_aload_n 1838 hC 1 dL_law_1838 rfl rfl ?_
  refine gz_aload_n 1839 hC 0 dL_law_1839 rfl rfl ?_
  refine gz_iload_n 1840 hC 3 dL_law_1840 rfl rfl ?_
  refine gz_iconst 1841 hC (1 : Int32) dL_law_1841 (by decide) ?_
  refine gz_iadd 1842 hC dL_law_1842 ?_
  refine gz_sldR 1843 hC hXs hbl hbA h1 dL_law_1843 ?_
  refine gz_cvR (st := []) 1844 hC hR0 [.int (xs ((z + (1 : Int32))).toNatClampNeg)] yl_X9_status yv_X9_status q_1058 ⟨Nat.le_of_ble_eq_true rfl, Nat.le_of_ble_eq_true rfl⟩ (gz_gd_some g1).1 (ct_X9_status _ _ fu M x (xs ((z + (1 : Int32))).toNatClampNeg) r e1) rfl rfl (Nat.le_of_ble_eq_true rfl) dL_law_1844 hroom ?_
  refine gz_aload_n 1847 hC 2 dL_law_1847 rfl rfl ?_
  refine gz_aload_n 1848 hC 0 dL_law_1848 rfl rfl ?_
  refine gz_iload_n 1849 hC 3 dL_law_1849 rfl rfl ?_
  refine gz_iconst 1850 hC (1 : Int32) dL_law_1850 (by decide) ?_
  refine gz_iadd 1851 hC dL_law_1851 ?_
  refine gz_sldR 1852 hC hXs hbl hbA h1 dL_law_1852 ?_
  refine gz_cvR (st := [.int r]) 1853 hC hR0 [.int (xs ((z + (1 : Int32))).toNatClampNeg)] yl_X10_status yv_X10_status q_1546 ⟨Nat.le_of_ble_eq_true rfl, Nat.le_of_ble_eq_true rfl⟩ (gz_gd_some g2).1 (ct_X10_status _ _ fu M mo (xs ((z + (1 : Int32))).toNatClampNeg) r e2) rfl rfl (Nat.le_of_ble_eq_true rfl) dL_law_1853 hroom ?_
  refine gz_icmp_eq 1856 1861 hC (A := some ()) (B := none) (y := ()) dL_law_1856 (by decide) (if_pos rfl) (fun _ => ?_) (fun h => nomatch h)
  exact hk _ hI2
