def gz_OPS (IV : gz_M → Prop) (fu x mo : Nat) : Prop := gz_op_row IV fu x mo ∧ gz_op_set IV fu x mo ∧ gz_op_copy IV fu x mo ∧ gz_op_element IV fu x mo ∧ gz_op_holds IV fu x mo ∧ gz_op_tool IV fu x mo ∧ gz_op_says IV fu x mo ∧ gz_op_tries IV fu x mo ∧ gz_op_shoes IV fu x mo ∧ gz_op_feed IV fu x mo ∧ gz_op_wipe IV fu x mo ∧ gz_op_valley IV fu x mo ∧ gz_op_valleyOf IV fu x mo ∧ gz_op_footOf IV fu x mo ∧ gz_op_lastOf IV fu x mo ∧ gz_op_feet IV fu x mo ∧ gz_op_alter IV fu x mo ∧ gz_op_carve IV fu x mo ∧ gz_op_build IV fu x mo ∧ gz_op_year IV fu x mo ∧ gz_op_does IV fu x mo ∧ gz_op_bad IV fu x mo ∧ gz_op_whose IV fu x mo ∧ gz_op_total IV fu x mo ∧ gz_op_out IV fu x mo ∧ gz_op_judge IV fu x mo ∧ gz_op_best IV fu x mo ∧ gz_op_more IV fu x mo ∧ gz_op_enough IV fu x mo ∧ gz_op_changed IV fu x mo ∧ gz_op_bound IV fu x mo ∧ gz_op_fair IV fu x mo ∧ gz_op_shod IV fu x mo ∧ gz_op_line IV fu x mo ∧ gz_op_corners IV fu x mo ∧ gz_op_corner IV fu x mo ∧ gz_op_keeps IV fu x mo ∧ gz_op_lend IV fu x mo ∧ gz_op_doubt IV fu x mo ∧ gz_op_idle IV fu x mo ∧ gz_op_begin IV fu x mo ∧ gz_op_step IV fu x mo ∧ gz_op_search IV fu x mo ∧ gz_op_image IV fu x mo ∧ gz_op_back IV fu x mo ∧ gz_op_status IV fu x mo
theorem gz_sub6 {L i : Nat} (hL : L ≤ 384) (hi : i ≤ 64) : Int32.ofNat L - (6 : Int32) < nI (6 * i) ↔ L < 6 * i + 6 := by
  have e : (Int32.ofNat L - (6 : Int32)).toInt = (L : Int) - 6 := by
    rw [Int32.toInt_sub]
    have e1 : (Int32.ofNat L).toInt = (L : Int) := nI_toInt (n := L) (by omega)
    rw [e1]
    show ((L : Int) - 6).bmod (2 ^ 32) = (L : Int) - 6
    exact Int.bmod_eq_of_le (by omega) (by omega)
  rw [Int32.lt_iff_toInt_lt, e, nI_toInt (by omega)]
  omega
theorem gz_vin {L i : Nat} (k : Nat) (hL : L ≤ 384) (h : 6 * i + k < L) : vp_in (nI (6 * i) + nI k) L := by
  rw [nI_add]
  exact vp_in_nI h (by omega)
set_option maxHeartbeats 4000000 in
theorem law_loop {C : gz_C} {IV : gz_M → Prop} {fu x mo b L : Nat} {xs : Nat → Int32} (hops : gz_OPS IV fu x mo) (hC : gz_ok C code RL 4) (hR0 : gz_cy C 12 440 600000 7302250) (hXs : va_X b L xs C.1.2.2.2.2 C.1.2.2.2.2.heap) (hbl : b < C.1.2.2.2.2.heap.size) (hbA : ¬ gz_A C.2.2.2 b) (hL : L ≤ 384)
    (hend : ∀ (cs sl : Nat) (M : gz_M) (lv : List (Nat × Value)), cs ≤ 600000 → sl ≤ 7302250 → gz_go C cs sl M lv 1867 []) : ∀ (n i : Nat) (M : gz_M), 64 ≤ i + n → i ≤ 64 → IV M → gz_go C (200 + 43 * i) (9000 + 1332 * i) M [(0, .ref b), (1, .ref x), (2, .ref mo), (3, .int (nI (6 * i)))] 18 [] := by
  have hout : ∀ (i : Nat) (M : gz_M), i ≤ 64 → L < 6 * i + 6 → gz_go C (200 + 43 * i) (9000 + 1332 * i) M [(0, .ref b), (1, .ref x), (2, .ref mo), (3, .int (nI (6 * i)))] 18 [] := by
    intro i M hi hlt
    refine gz_iload_n 18 hC 3 dL_law_18 rfl rfl ?_
    refine gz_aload_n 19 hC 0 dL_law_19 rfl rfl ?_
    refine gz_slenR 20 hC hXs hbl hbA dL_law_20 ?_
    refine gz_bipush 21 hC (6 : Int32) dL_law_21 (by decide) ?_
    refine gz_isub 23 hC dL_law_23 ?_
    refine gz_icmp_gt 24 1867 hC (A := some ()) (B := none) (y := ()) dL_law_24 (by decide) (if_pos ((gz_sub6 hL hi).mpr hlt)) (fun _ => ?_) (fun h => nomatch h)
    exact hend _ _ _ _ (by omega) (by omega)
  intro n
  induction n with
  | zero =>
    intro i M h1 h2 hI
    exact hout i M h2 (by omega)
  | succ n ih =>
    intro i M h1 h2 hI
    by_cases hlt : L < 6 * i + 6
    · exact hout i M h2 hlt
    have hge : 6 * i + 6 ≤ L := by omega
    refine gz_iload_n 18 hC 3 dL_law_18 rfl rfl ?_
    refine gz_aload_n 19 hC 0 dL_law_19 rfl rfl ?_
    refine gz_slenR 20 hC hXs hbl hbA dL_law_20 ?_
    refine gz_bipush 21 hC (6 : Int32) dL_law_21 (by decide) ?_
    refine gz_isub 23 hC dL_law_23 ?_
    refine gz_icmp_gt 24 1867 hC (A := none) (B := some ()) (y := ()) dL_law_24 (by decide) (if_neg (fun h => hlt ((gz_sub6 hL h2).mp h))) (fun h => nomatch h) (fun _ => ?_)
    refine gz_aload_n 27 hC 0 dL_law_27 rfl rfl ?_
    refine gz_iload_n 28 hC 3 dL_law_28 rfl rfl ?_
    refine gz_sldR 29 hC hXs hbl hbA (vp_in_nI (by omega) (by omega)) dL_law_29 ?_
    refine gz_bipush 30 hC (63 : Int32) dL_law_30 (by decide) ?_
    refine gz_iand 32 hC dL_law_32 ?_
    generalize xs (nI (6 * i)).toNatClampNeg &&& (63 : Int32) = X
    have v1 : vp_in (nI (6 * i) + (1 : Int32)) L := gz_vin 1 hL (by omega)
    have v2 : vp_in (nI (6 * i) + (2 : Int32)) L := gz_vin 2 hL (by omega)
    have v3 : vp_in (nI (6 * i) + (3 : Int32)) L := gz_vin 3 hL (by omega)
    have v4 : vp_in (nI (6 * i) + (4 : Int32)) L := gz_vin 4 hL (by omega)
    have v5 : vp_in (nI (6 * i) + (5 : Int32)) L := gz_vin 5 hL (by omega)
    have hcr : (200 + 43 * i) + 43 ≤ 600000 ∧ (9000 + 1332 * i) + 1332 ≤ 7302250 := ⟨by omega, by omega⟩
    have hk : ∀ (c1 s1 : Nat) (M2 : gz_M), c1 ≤ 200 + 43 * (i + 1) → s1 ≤ 9000 + 1332 * (i + 1) → IV M2 → gz_go C c1 s1 M2 [(0, .ref b), (1, .ref x), (2, .ref mo), (3, .int (nI (6 * i)))] 1861 [] := by
      intro c1 s1 M2 g1 g2 hI2
      refine gz_wid g1 g2 ?_
      refine gz_iinc 1861 hC (nI (6 * (i + 1))) 3 [(3, .int (nI (6 * (i + 1)))), (0, .ref b), (1, .ref x), (2, .ref mo)] dL_law_1861 rfl (nI_add (6 * i) 6) (by decide) rfl ?_
      refine gz_goto 1864 18 hC dL_law_1864 (by decide) ?_
      refine gz_sub [1, 2, 3, 0] [(0, .ref b), (1, .ref x), (2, .ref mo), (3, .int (nI (6 * (i + 1))))] rfl ?_
      exact ih (i + 1) M2 (by omega) (by omega) hI2
    have hk0 : ∀ M2, IV M2 → gz_go C (200 + 43 * i) (9000 + 1332 * i) M2 [(0, .ref b), (1, .ref x), (2, .ref mo), (3, .int (nI (6 * i)))] 1861 [] := fun M2 h => hk _ _ M2 (by omega) (by omega) h
    have hk1 : ∀ M2, IV M2 → gz_go C (200 + 43 * i + 43) (9000 + 1332 * i + 1332) M2 [(0, .ref b), (1, .ref x), (2, .ref mo), (3, .int (nI (6 * i)))] 1861 [] := fun M2 h => hk _ _ M2 (by omega) (by omega) h
    by_cases e0 : X = (0 : Int32)
    · exact gz_tin 33 232 hC (off := 199) dL_law_33 e0 (by decide) (by decide) (by decide) (law_c_row (hops.1) hI hC hR0 hXs hbl hbA v1 v2 v3 v4 v5 hcr hk0)
    by_cases e1 : X = (1 : Int32)
    · exact gz_tin 33 275 hC (off := 242) dL_law_33 e1 (by decide) (by decide) (by decide) (law_c_set (hops.2.1) hI hC hR0 hXs hbl hbA v1 v2 v3 v4 v5 hcr hk0)
    by_cases e2 : X = (2 : Int32)
    · exact gz_tin 33 348 hC (off := 315) dL_law_33 e2 (by decide) (by decide) (by decide) (law_c_copy (hops.2.2.1) hI hC hR0 hXs hbl hbA v1 v2 v3 v4 v5 hcr hk0)
    by_cases e3 : X = (3 : Int32)
    · exact gz_tin 33 411 hC (off := 378) dL_law_33 e3 (by decide) (by decide) (by decide) (law_c_element (hops.2.2.2.1) hI hC hR0 hXs hbl hbA v1 v2 v3 v4 v5 hcr hk0)
    by_cases e4 : X = (4 : Int32)
    · exact gz_tin 33 445 hC (off := 412) dL_law_33 e4 (by decide) (by decide) (by decide) (law_c_holds (hops.2.2.2.2.1) hI hC hR0 hXs hbl hbA v1 v2 v3 v4 v5 hcr hk0)
    by_cases e5 : X = (5 : Int32)
    · exact gz_tin 33 468 hC (off := 435) dL_law_33 e5 (by decide) (by decide) (by decide) (law_c_tool (hops.2.2.2.2.2.1) hI hC hR0 hXs hbl hbA v1 v2 v3 v4 v5 hcr hk0)
    by_cases e6 : X = (6 : Int32)
    · exact gz_tin 33 521 hC (off := 488) dL_law_33 e6 (by decide) (by decide) (by decide) (law_c_says (hops.2.2.2.2.2.2.1) hI hC hR0 hXs hbl hbA v1 v2 v3 v4 v5 hcr hk0)
    by_cases e7 : X = (7 : Int32)
    · exact gz_tin 33 554 hC (off := 521) dL_law_33 e7 (by decide) (by decide) (by decide) (law_c_tries (hops.2.2.2.2.2.2.2.1) hI hC hR0 hXs hbl hbA v1 v2 v3 v4 v5 hcr hk0)
    by_cases e8 : X = (8 : Int32)
    · exact gz_tin 33 597 hC (off := 564) dL_law_33 e8 (by decide) (by decide) (by decide) (law_c_shoes (hops.2.2.2.2.2.2.2.2.1) hI hC hR0 hXs hbl hbA v1 v2 v3 v4 v5 hcr hk0)
    by_cases e9 : X = (9 : Int32)
    · exact gz_tin 33 630 hC (off := 597) dL_law_33 e9 (by decide) (by decide) (by decide) (law_c_feed (hops.2.2.2.2.2.2.2.2.2.1) hI hC hR0 hXs hbl hbA v1 v2 v3 v4 v5 hcr hk0)
    by_cases e10 : X = (10 : Int32)
    · exact gz_tin 33 663 hC (off := 630) dL_law_33 e10 (by decide) (by decide) (by decide) (law_c_wipe (hops.2.2.2.2.2.2.2.2.2.2.1) hI hC hR0 hXs hbl hbA v1 v2 v3 v4 v5 hcr hk0)
    by_cases e11 : X = (11 : Int32)
    · exact gz_tin 33 676 hC (off := 643) dL_law_33 e11 (by decide) (by decide) (by decide) (law_c_valley (hops.2.2.2.2.2.2.2.2.2.2.2.1) hI hC hR0 hXs hbl hbA v1 v2 v3 v4 v5 hcr hk0)
    by_cases e12 : X = (12 : Int32)
    · exact gz_tin 33 689 hC (off := 656) dL_law_33 e12 (by decide) (by decide) (by decide) (law_c_valleyOf (hops.2.2.2.2.2.2.2.2.2.2.2.2.1) hI hC hR0 hXs hbl hbA v1 v2 v3 v4 v5 hcr hk0)
    by_cases e13 : X = (13 : Int32)
    · exact gz_tin 33 722 hC (off := 689) dL_law_33 e13 (by decide) (by decide) (by decide) (law_c_footOf (hops.2.2.2.2.2.2.2.2.2.2.2.2.2.1) hI hC hR0 hXs hbl hbA v1 v2 v3 v4 v5 hcr hk0)
    by_cases e14 : X = (14 : Int32)
    · exact gz_tin 33 765 hC (off := 732) dL_law_33 e14 (by decide) (by decide) (by decide) (law_c_lastOf (hops.2.2.2.2.2.2.2.2.2.2.2.2.2.2.1) hI hC hR0 hXs hbl hbA v1 v2 v3 v4 v5 hcr hk0)
    by_cases e15 : X = (15 : Int32)
    · exact gz_tin 33 808 hC (off := 775) dL_law_33 e15 (by decide) (by decide) (by decide) (law_c_feet (hops.2.2.2.2.2.2.2.2.2.2.2.2.2.2.2.1) hI hC hR0 hXs hbl hbA v1 v2 v3 v4 v5 hcr hk0)
    by_cases e16 : X = (16 : Int32)
    · exact gz_tin 33 841 hC (off := 808) dL_law_33 e16 (by decide) (by decide) (by decide) (law_c_alter (hops.2.2.2.2.2.2.2.2.2.2.2.2.2.2.2.2.1) hI hC hR0 hXs hbl hbA v1 v2 v3 v4 v5 hcr hk0)
    by_cases e17 : X = (17 : Int32)
    · exact gz_tin 33 894 hC (off := 861) dL_law_33 e17 (by decide) (by decide) (by decide) (law_c_carve (hops.2.2.2.2.2.2.2.2.2.2.2.2.2.2.2.2.2.1) hI hC hR0 hXs hbl hbA v1 v2 v3 v4 v5 hcr hk0)
    by_cases e18 : X = (18 : Int32)
    · exact gz_tin 33 947 hC (off := 914) dL_law_33 e18 (by decide) (by decide) (by decide) (law_c_build (hops.2.2.2.2.2.2.2.2.2.2.2.2.2.2.2.2.2.2.1) hI hC hR0 hXs hbl hbA v1 v2 v3 v4 v5 hcr hk0)
    by_cases e19 : X = (19 : Int32)
    · exact gz_tin 33 990 hC (off := 957) dL_law_33 e19 (by decide) (by decide) (by decide) (law_c_year (hops.2.2.2.2.2.2.2.2.2.2.2.2.2.2.2.2.2.2.2.1) hI hC hR0 hXs hbl hbA v1 v2 v3 v4 v5 hcr hk0)
    by_cases e20 : X = (20 : Int32)
    · exact gz_tin 33 1013 hC (off := 980) dL_law_33 e20 (by decide) (by decide) (by decide) (law_c_does (hops.2.2.2.2.2.2.2.2.2.2.2.2.2.2.2.2.2.2.2.2.1) hI hC hR0 hXs hbl hbA v1 v2 v3 v4 v5 hcr hk0)
    by_cases e21 : X = (21 : Int32)
    · exact gz_tin 33 1056 hC (off := 1023) dL_law_33 e21 (by decide) (by decide) (by decide) (law_c_bad (hops.2.2.2.2.2.2.2.2.2.2.2.2.2.2.2.2.2.2.2.2.2.1) hI hC hR0 hXs hbl hbA v1 v2 v3 v4 v5 hcr hk0)
    by_cases e22 : X = (22 : Int32)
    · exact gz_tin 33 1099 hC (off := 1066) dL_law_33 e22 (by decide) (by decide) (by decide) (law_c_whose (hops.2.2.2.2.2.2.2.2.2.2.2.2.2.2.2.2.2.2.2.2.2.2.1) hI hC hR0 hXs hbl hbA v1 v2 v3 v4 v5 hcr hk0)
    by_cases e23 : X = (23 : Int32)
    · exact gz_tin 33 1142 hC (off := 1109) dL_law_33 e23 (by decide) (by decide) (by decide) (law_c_total (hops.2.2.2.2.2.2.2.2.2.2.2.2.2.2.2.2.2.2.2.2.2.2.2.1) hI hC hR0 hXs hbl hbA v1 v2 v3 v4 v5 hcr hk0)
    by_cases e24 : X = (24 : Int32)
    · exact gz_tin 33 1175 hC (off := 1142) dL_law_33 e24 (by decide) (by decide) (by decide) (law_c_out (hops.2.2.2.2.2.2.2.2.2.2.2.2.2.2.2.2.2.2.2.2.2.2.2.2.1) hI hC hR0 hXs hbl hbA v1 v2 v3 v4 v5 hcr hk0)
    by_cases e25 : X = (25 : Int32)
    · exact gz_tin 33 1208 hC (off := 1175) dL_law_33 e25 (by decide) (by decide) (by decide) (law_c_judge (hops.2.2.2.2.2.2.2.2.2.2.2.2.2.2.2.2.2.2.2.2.2.2.2.2.2.1) hI hC hR0 hXs hbl hbA v1 v2 v3 v4 v5 hcr hk0)
    by_cases e26 : X = (26 : Int32)
    · exact gz_tin 33 1251 hC (off := 1218) dL_law_33 e26 (by decide) (by decide) (by decide) (law_c_best (hops.2.2.2.2.2.2.2.2.2.2.2.2.2.2.2.2.2.2.2.2.2.2.2.2.2.2.1) hI hC hR0 hXs hbl hbA v1 v2 v3 v4 v5 hcr hk0)
    by_cases e27 : X = (27 : Int32)
    · exact gz_tin 33 1284 hC (off := 1251) dL_law_33 e27 (by decide) (by decide) (by decide) (law_c_more (hops.2.2.2.2.2.2.2.2.2.2.2.2.2.2.2.2.2.2.2.2.2.2.2.2.2.2.2.1) hI hC hR0 hXs hbl hbA v1 v2 v3 v4 v5 hcr hk0)
    by_cases e28 : X = (28 : Int32)
    · exact gz_tin 33 1317 hC (off := 1284) dL_law_33 e28 (by decide) (by decide) (by decide) (law_c_enough (hops.2.2.2.2.2.2.2.2.2.2.2.2.2.2.2.2.2.2.2.2.2.2.2.2.2.2.2.2.1) hI hC hR0 hXs hbl hbA v1 v2 v3 v4 v5 hcr hk0)
    by_cases e29 : X = (29 : Int32)
    · exact gz_tin 33 1350 hC (off := 1317) dL_law_33 e29 (by decide) (by decide) (by decide) (law_c_changed (hops.2.2.2.2.2.2.2.2.2.2.2.2.2.2.2.2.2.2.2.2.2.2.2.2.2.2.2.2.2.1) hI hC hR0 hXs hbl hbA v1 v2 v3 v4 v5 hcr hk0)
    by_cases e30 : X = (30 : Int32)
    · exact gz_tin 33 1383 hC (off := 1350) dL_law_33 e30 (by decide) (by decide) (by decide) (law_c_bound (hops.2.2.2.2.2.2.2.2.2.2.2.2.2.2.2.2.2.2.2.2.2.2.2.2.2.2.2.2.2.2.1) hI hC hR0 hXs hbl hbA v1 v2 v3 v4 v5 hcr hk0)
    by_cases e31 : X = (31 : Int32)
    · exact gz_tin 33 1406 hC (off := 1373) dL_law_33 e31 (by decide) (by decide) (by decide) (law_c_fair (hops.2.2.2.2.2.2.2.2.2.2.2.2.2.2.2.2.2.2.2.2.2.2.2.2.2.2.2.2.2.2.2.1) hI hC hR0 hXs hbl hbA v1 v2 v3 v4 v5 hcr hk0)
    by_cases e32 : X = (32 : Int32)
    · exact gz_tin 33 1439 hC (off := 1406) dL_law_33 e32 (by decide) (by decide) (by decide) (law_c_shod (hops.2.2.2.2.2.2.2.2.2.2.2.2.2.2.2.2.2.2.2.2.2.2.2.2.2.2.2.2.2.2.2.2.1) hI hC hR0 hXs hbl hbA v1 v2 v3 v4 v5 hcr hk0)
    by_cases e33 : X = (33 : Int32)
    · exact gz_tin 33 1472 hC (off := 1439) dL_law_33 e33 (by decide) (by decide) (by decide) (law_c_line (hops.2.2.2.2.2.2.2.2.2.2.2.2.2.2.2.2.2.2.2.2.2.2.2.2.2.2.2.2.2.2.2.2.2.1) hI hC hR0 hXs hbl hbA v1 v2 v3 v4 v5 hcr hk0)
    by_cases e34 : X = (34 : Int32)
    · exact gz_tin 33 1525 hC (off := 1492) dL_law_33 e34 (by decide) (by decide) (by decide) (law_c_corners (hops.2.2.2.2.2.2.2.2.2.2.2.2.2.2.2.2.2.2.2.2.2.2.2.2.2.2.2.2.2.2.2.2.2.2.1) hI hC hR0 hXs hbl hbA v1 v2 v3 v4 v5 hcr hk0)
    by_cases e35 : X = (35 : Int32)
    · exact gz_tin 33 1548 hC (off := 1515) dL_law_33 e35 (by decide) (by decide) (by decide) (law_c_corner (hops.2.2.2.2.2.2.2.2.2.2.2.2.2.2.2.2.2.2.2.2.2.2.2.2.2.2.2.2.2.2.2.2.2.2.2.1) hI hC hR0 hXs hbl hbA v1 v2 v3 v4 v5 hcr hk0)
    by_cases e36 : X = (36 : Int32)
    · exact gz_tin 33 1581 hC (off := 1548) dL_law_33 e36 (by decide) (by decide) (by decide) (law_c_keeps (hops.2.2.2.2.2.2.2.2.2.2.2.2.2.2.2.2.2.2.2.2.2.2.2.2.2.2.2.2.2.2.2.2.2.2.2.2.1) hI hC hR0 hXs hbl hbA v1 v2 v3 v4 v5 hcr hk0)
    by_cases e37 : X = (37 : Int32)
    · exact gz_tin 33 1624 hC (off := 1591) dL_law_33 e37 (by decide) (by decide) (by decide) (law_c_lend (hops.2.2.2.2.2.2.2.2.2.2.2.2.2.2.2.2.2.2.2.2.2.2.2.2.2.2.2.2.2.2.2.2.2.2.2.2.2.1) hI hC hR0 hXs hbl hbA v1 v2 v3 v4 v5 hcr hk0)
    by_cases e38 : X = (38 : Int32)
    · exact gz_tin 33 1677 hC (off := 1644) dL_law_33 e38 (by decide) (by decide) (by decide) (law_c_doubt (hops.2.2.2.2.2.2.2.2.2.2.2.2.2.2.2.2.2.2.2.2.2.2.2.2.2.2.2.2.2.2.2.2.2.2.2.2.2.2.1) hI hC hR0 hXs hbl hbA v1 v2 v3 v4 v5 hcr hk0)
    by_cases e39 : X = (39 : Int32)
    · exact gz_tin 33 1710 hC (off := 1677) dL_law_33 e39 (by decide) (by decide) (by decide) (law_c_idle (hops.2.2.2.2.2.2.2.2.2.2.2.2.2.2.2.2.2.2.2.2.2.2.2.2.2.2.2.2.2.2.2.2.2.2.2.2.2.2.2.1) hI hC hR0 hXs hbl hbA v1 v2 v3 v4 v5 hcr hk0)
    by_cases e40 : X = (40 : Int32)
    · exact gz_tin 33 1733 hC (off := 1700) dL_law_33 e40 (by decide) (by decide) (by decide) (law_c_begin (hops.2.2.2.2.2.2.2.2.2.2.2.2.2.2.2.2.2.2.2.2.2.2.2.2.2.2.2.2.2.2.2.2.2.2.2.2.2.2.2.2.1) hI hC hR0 hXs hbl hbA v1 v2 v3 v4 v5 hcr hk0)
    by_cases e41 : X = (41 : Int32)
    · exact gz_tin 33 1766 hC (off := 1733) dL_law_33 e41 (by decide) (by decide) (by decide) (law_c_step (hops.2.2.2.2.2.2.2.2.2.2.2.2.2.2.2.2.2.2.2.2.2.2.2.2.2.2.2.2.2.2.2.2.2.2.2.2.2.2.2.2.2.1) hI hC hR0 hXs hbl hbA v1 v2 v3 v4 v5 hcr hk0)
    by_cases e42 : X = (42 : Int32)
    · exact gz_tin 33 1789 hC (off := 1756) dL_law_33 e42 (by decide) (by decide) (by decide) (law_c_search (hops.2.2.2.2.2.2.2.2.2.2.2.2.2.2.2.2.2.2.2.2.2.2.2.2.2.2.2.2.2.2.2.2.2.2.2.2.2.2.2.2.2.2.1) hI hC hR0 hXs hbl hbA v1 v2 v3 v4 v5 hcr hk0)
    by_cases e43 : X = (43 : Int32)
    · exact gz_tin 33 1812 hC (off := 1779) dL_law_33 e43 (by decide) (by decide) (by decide) (law_c_image (hops.2.2.2.2.2.2.2.2.2.2.2.2.2.2.2.2.2.2.2.2.2.2.2.2.2.2.2.2.2.2.2.2.2.2.2.2.2.2.2.2.2.2.2.1) hI hC hR0 hXs hbl hbA v1 v2 v3 v4 v5 hcr hk1)
    by_cases e44 : X = (44 : Int32)
    · exact gz_tin 33 1825 hC (off := 1792) dL_law_33 e44 (by decide) (by decide) (by decide) (law_c_back (hops.2.2.2.2.2.2.2.2.2.2.2.2.2.2.2.2.2.2.2.2.2.2.2.2.2.2.2.2.2.2.2.2.2.2.2.2.2.2.2.2.2.2.2.2.1) hI hC hR0 hXs hbl hbA v1 v2 v3 v4 v5 hcr hk0)
    by_cases e45 : X = (45 : Int32)
    · exact gz_tin 33 1838 hC (off := 1805) dL_law_33 e45 (by decide) (by decide) (by decide) (law_c_status (hops.2.2.2.2.2.2.2.2.2.2.2.2.2.2.2.2.2.2.2.2.2.2.2.2.2.2.2.2.2.2.2.2.2.2.2.2.2.2.2.2.2.2.2.2.2) hI hC hR0 hXs hbl hbA v1 v2 v3 v4 v5 hcr hk0)
    exact gz_tout 33 1861 hC dL_law_33 (by have h0 := lv_neT (a := 0) e0 (by decide); have h1 := lv_neT (a := 1) e1 (by decide); have h2 := lv_neT (a := 2) e2 (by decide); have h3 := lv_neT (a := 3) e3 (by decide); have h4 := lv_neT (a := 4) e4 (by decide); have h5 := lv_neT (a := 5) e5 (by decide); have h6 := lv_neT (a := 6) e6 (by decide); have h7 := lv_neT (a := 7) e7 (by decide); have h8 := lv_neT (a := 8) e8 (by decide); have h9 := lv_neT (a := 9) e9 (by decide); have h10 := lv_neT (a := 10) e10 (by decide); have h11 := lv_neT (a := 11) e11 (by decide); have h12 := lv_neT (a := 12) e12 (by decide); have h13 := lv_neT (a := 13) e13 (by decide); have h14 := lv_neT (a := 14) e14 (by decide); have h15 := lv_neT (a := 15) e15 (by decide); have h16 := lv_neT (a := 16) e16 (by decide); have h17 := lv_neT (a := 17) e17 (by decide); have h18 := lv_neT (a := 18) e18 (by decide); have h19 := lv_neT (a := 19) e19 (by decide); have h20 := lv_neT (a := 20) e20 (by decide); have h21 := lv_neT (a := 21) e21 (by decide); have h22 := lv_neT (a := 22) e22 (by decide); have h23 := lv_neT (a := 23) e23 (by decide); have h24 := lv_neT (a := 24) e24 (by decide); have h25 := lv_neT (a := 25) e25 (by decide); have h26 := lv_neT (a := 26) e26 (by decide); have h27 := lv_neT (a := 27) e27 (by decide); have h28 := lv_neT (a := 28) e28 (by decide); have h29 := lv_neT (a := 29) e29 (by decide); have h30 := lv_neT (a := 30) e30 (by decide); have h31 := lv_neT (a := 31) e31 (by decide); have h32 := lv_neT (a := 32) e32 (by decide); have h33 := lv_neT (a := 33) e33 (by decide); have h34 := lv_neT (a := 34) e34 (by decide); have h35 := lv_neT (a := 35) e35 (by decide); have h36 := lv_neT (a := 36) e36 (by decide); have h37 := lv_neT (a := 37) e37 (by decide); have h38 := lv_neT (a := 38) e38 (by decide); have h39 := lv_neT (a := 39) e39 (by decide); have h40 := lv_neT (a := 40) e40 (by decide); have h41 := lv_neT (a := 41) e41 (by decide); have h42 := lv_neT (a := 42) e42 (by decide); have h43 := lv_neT (a := 43) e43 (by decide); have h44 := lv_neT (a := 44) e44 (by decide); have h45 := lv_neT (a := 45) e45 (by decide); omega) (by decide) (hk0 M hI)
