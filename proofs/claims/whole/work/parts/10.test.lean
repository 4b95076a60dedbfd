theorem fl_X6_15 : gz_fl RX6 15 6 1 .int false := ⟨_, rfl, by decide, List.mem_of_getElem? (i := 104) (by decide +kernel), rfl, by decide, by decide +kernel, rfl, rfl⟩
theorem fl_X6_9 : gz_fl RX6 9 6 0 (.array .int) true := ⟨_, rfl, by decide, List.mem_of_getElem? (i := 103) (by decide +kernel), rfl, by decide, by decide +kernel, rfl, rfl⟩
theorem fl_X7_15 : gz_fl RX7 15 7 1 (.array .int) true := ⟨_, rfl, by decide, List.mem_of_getElem? (i := 158) (by decide +kernel), rfl, by decide, by decide +kernel, rfl, rfl⟩
theorem fl_X7_18 : gz_fl RX7 18 7 2 (.array .int) true := ⟨_, rfl, by decide, List.mem_of_getElem? (i := 159) (by decide +kernel), rfl, by decide, by decide +kernel, rfl, rfl⟩
theorem fl_X7_21 : gz_fl RX7 21 7 3 (.array .int) true := ⟨_, rfl, by decide, List.mem_of_getElem? (i := 163) (by decide +kernel), rfl, by decide, by decide +kernel, rfl, rfl⟩
theorem fl_X7_28 : gz_fl RX7 28 7 5 .int false := ⟨_, rfl, by decide, List.mem_of_getElem? (i := 172) (by decide +kernel), rfl, by decide, by decide +kernel, rfl, rfl⟩
theorem fl_X7_9 : gz_fl RX7 9 7 0 (.array .int) true := ⟨_, rfl, by decide, List.mem_of_getElem? (i := 157) (by decide +kernel), rfl, by decide, by decide +kernel, rfl, rfl⟩
theorem fk_6_0 : gz_fk 6 0 = 3 := by decide
theorem fk_6_1 : gz_fk 6 1 < 2 := by decide
theorem fk_7_0 : gz_fk 7 0 = 3 := by decide
theorem fk_7_1 : gz_fk 7 1 = 3 := by decide
theorem fk_7_2 : gz_fk 7 2 = 3 := by decide
theorem fk_7_3 : gz_fk 7 3 = 3 := by decide
theorem fk_7_5 : gz_fk 7 5 < 2 := by decide
theorem q_529 : Cond.methodLink RX7 60 yX7_lastPart ∈ lw_tbl := List.mem_of_getElem? (i := 529) (by decide +kernel)
theorem q_533 : Cond.methodLink RX7 63 yX7_share ∈ lw_tbl := List.mem_of_getElem? (i := 533) (by decide +kernel)
theorem q_537 : Cond.methodLink RX7 56 yX7_footPart ∈ lw_tbl := List.mem_of_getElem? (i := 537) (by decide +kernel)
theorem q_551 : Cond.methodLink RX7 67 yX7_badness ∈ lw_tbl := List.mem_of_getElem? (i := 551) (by decide +kernel)
theorem q_783 : Cond.constant RX7 71 (2147483647 : Int32) ∈ lw_tbl := List.mem_of_getElem? (i := 783) (by decide +kernel)
theorem q_784 : Cond.methodLink RX7 72 yX7_badnessOf ∈ lw_tbl := List.mem_of_getElem? (i := 784) (by decide +kernel)
theorem yl_X7_badness : gz_yl yX7_badness cX7_badness 10 (some .int) 6 := ⟨List.mem_of_getElem? (i := 528) (by decide +kernel), List.mem_of_getElem? (i := 75) (by decide +kernel), by decide +kernel, by decide +kernel⟩
theorem yv_X7_badness : gz_yv yX7_badness 7 := ⟨List.mem_of_getElem? (i := 526) (by decide +kernel), List.mem_of_getElem? (i := 527) (by decide +kernel), by decide, _, rfl, rfl⟩
theorem yl_X7_badnessOf : gz_yl yX7_badnessOf cX7_badnessOf 3 (some .int) 2 := ⟨List.mem_of_getElem? (i := 550) (by decide +kernel), List.mem_of_getElem? (i := 75) (by decide +kernel), by decide +kernel, by decide +kernel⟩
theorem yv_X7_badnessOf : gz_yv yX7_badnessOf 7 := ⟨List.mem_of_getElem? (i := 548) (by decide +kernel), List.mem_of_getElem? (i := 549) (by decide +kernel), by decide, _, rfl, rfl⟩
theorem yl_X7_footPart : gz_yl yX7_footPart cX7_footPart 3 (some .int) 2 := ⟨List.mem_of_getElem? (i := 540) (by decide +kernel), List.mem_of_getElem? (i := 75) (by decide +kernel), by decide +kernel, by decide +kernel⟩
theorem yv_X7_footPart : gz_yv yX7_footPart 7 := ⟨List.mem_of_getElem? (i := 538) (by decide +kernel), List.mem_of_getElem? (i := 539) (by decide +kernel), by decide, _, rfl, rfl⟩
theorem yl_X7_lastPart : gz_yl yX7_lastPart cX7_lastPart 3 (some .int) 2 := ⟨List.mem_of_getElem? (i := 532) (by decide +kernel), List.mem_of_getElem? (i := 75) (by decide +kernel), by decide +kernel, by decide +kernel⟩
theorem yv_X7_lastPart : gz_yv yX7_lastPart 7 := ⟨List.mem_of_getElem? (i := 530) (by decide +kernel), List.mem_of_getElem? (i := 531) (by decide +kernel), by decide, _, rfl, rfl⟩
theorem yl_X7_share : gz_yl yX7_share cX7_share 6 (some .int) 4 := ⟨List.mem_of_getElem? (i := 536) (by decide +kernel), List.mem_of_getElem? (i := 75) (by decide +kernel), by decide +kernel, by decide +kernel⟩
theorem yv_X7_share : gz_yv yX7_share 7 := ⟨List.mem_of_getElem? (i := 534) (by decide +kernel), List.mem_of_getElem? (i := 535) (by decide +kernel), by decide, _, rfl, rfl⟩
theorem gz_km1 : Int32.ofInt (-1) = (-1 : Int32) := by decide
theorem gz_k0 : Int32.ofInt (0) = (0 : Int32) := by decide
theorem gz_k1 : Int32.ofInt (1) = (1 : Int32) := by decide
theorem gz_k2 : Int32.ofInt (2) = (2 : Int32) := by decide
theorem gz_k4 : Int32.ofInt (4) = (4 : Int32) := by decide
theorem gz_k5 : Int32.ofInt (5) = (5 : Int32) := by decide
theorem gz_00 : 0 ≤ 0 ∧ 0 ≤ 0 := ⟨Nat.le_refl 0, Nat.le_refl 0⟩

theorem dX6_at_0 : decode cX6_at 0 = .ok (.iload_n 1, 1) := by decide +kernel
theorem dX6_at_1 : decode cX6_at 1 = .ok (.ifCond .lt 20, 3) := by decide +kernel
theorem dX6_at_4 : decode cX6_at 4 = .ok (.iload_n 1, 1) := by decide +kernel
theorem dX6_at_5 : decode cX6_at 5 = .ok (.aload_n 0, 1) := by decide +kernel
theorem dX6_at_6 : decode cX6_at 6 = .ok (.getfield 15, 3) := by decide +kernel
theorem dX6_at_9 : decode cX6_at 9 = .ok (.if_icmp .ge 12, 3) := by decide +kernel
theorem dX6_at_12 : decode cX6_at 12 = .ok (.aload_n 0, 1) := by decide +kernel
theorem dX6_at_13 : decode cX6_at 13 = .ok (.getfield 9, 3) := by decide +kernel
theorem dX6_at_16 : decode cX6_at 16 = .ok (.iload_n 1, 1) := by decide +kernel
theorem dX6_at_17 : decode cX6_at 17 = .ok (.iaload, 1) := by decide +kernel
theorem dX6_at_18 : decode cX6_at 18 = .ok (.goto 4, 3) := by decide +kernel
theorem dX6_at_21 : decode cX6_at 21 = .ok (.iconst (-1), 1) := by decide +kernel
theorem dX6_at_22 : decode cX6_at 22 = .ok (.ireturn, 1) := by decide +kernel

def f_X6_at (fu : Nat) (M : gz_M) (a0 : Nat) (a1 : Int32) : Option (Int32) :=
  gz_gd M 6 a0 <|
  gz_jn (fun (x4 : Int32) =>
  some x4) fun j22 =>
  gz_jn (j22 (-1 : Int32)) fun j21 =>
  if a1 < 0 then
    j21
  else
    (gz_gI M 6 1 a0).bind fun x1 =>
    if x1 ≤ a1 then
      j21
    else
      (gz_gR M 6 0 a0).bind fun x2 =>
      (gz_aI M x2 a1).bind fun x3 =>
      j22 x3

set_option maxHeartbeats 4000000 in
theorem ct_X6_at (l : Launch) (G : gz_G) (fu : Nat) (M : gz_M) (a0 : Nat) (a1 : Int32) (y : Int32) (hF : f_X6_at fu M a0 a1 = some y) : gz_ct l yX6_at cX6_at 2 (some .int) 0 0 0 0 G [.ref a0, .int a1] M (some (.int y)) M := by
  refine gz_ct.of (by decide) (Nat.le_of_ble_eq_true rfl) (fun C hC hX => ?_)
  unfold f_X6_at at hF
  obtain ⟨-, hF⟩ := gz_gd_some hF
  show gz_go C 0 0 M [(0, .ref a0), (1, .int a1)] 0 []
  refine gz_iload_n 0 hC 1 dX6_at_0 rfl rfl ?_
  refine gz_join (fun (j : Int32 → Option (Int32)) => ∀ (x4 : Int32), j x4 = some y → gz_go C 0 0 M [] 22 [.int x4]) hF (fun x4 hF => ?_) (fun j22 hj22 hF => ?_)
  · skip
    exact gz_iretP 22 hC hX dX6_at_22 hF
  refine gz_join (fun (j : Option (Int32)) => j = some y → gz_go C 0 0 M [] 21 []) hF (fun hF => ?_) (fun j21 hj21 hF => ?_)
  · skip
    refine gz_iconst 21 hC (-1 : Int32) dX6_at_21 gz_km1 ?_
    exact hj22 _ hF
  refine gz_if_lt 1 21 hC dX6_at_1 (by decide) hF (fun hF => ?_) (fun hF => ?_)
  · skip
    refine gz_sub [] [] rfl ?_
    exact hj21 hF
  · skip
    refine gz_iload_n 4 hC 1 dX6_at_4 rfl rfl ?_
    refine gz_aload_n 5 hC 0 dX6_at_5 rfl rfl ?_
    refine gz_getI 6 hC fl_X6_15 fk_6_1 dX6_at_6 hF (fun x1 hF => ?_)
    refine gz_icmp_ge 9 21 hC dX6_at_9 (by decide) hF (fun hF => ?_) (fun hF => ?_)
    · skip
      refine gz_sub [] [] rfl ?_
      exact hj21 hF
    · skip
      refine gz_aload_n 12 hC 0 dX6_at_12 rfl rfl ?_
      refine gz_getR 13 hC fl_X6_9 fk_6_0 dX6_at_13 hF (fun x2 hF => ?_)
      refine gz_iload_n 16 hC 1 dX6_at_16 rfl rfl ?_
      refine gz_iald 17 hC dX6_at_17 hF (fun x3 hF => ?_)
      refine gz_goto 18 22 hC dX6_at_18 (by decide) ?_
      refine gz_sub [] [] rfl ?_
      exact hj22 _ hF

theorem dX7_footPart_0 : decode cX7_footPart 0 = .ok (.aload_n 0, 1) := by decide +kernel
theorem dX7_footPart_1 : decode cX7_footPart 1 = .ok (.getfield 9, 3) := by decide +kernel
theorem dX7_footPart_4 : decode cX7_footPart 4 = .ok (.iload_n 1, 1) := by decide +kernel
theorem dX7_footPart_5 : decode cX7_footPart 5 = .ok (.iconst 5, 1) := by decide +kernel
theorem dX7_footPart_6 : decode cX7_footPart 6 = .ok (.imul, 1) := by decide +kernel
theorem dX7_footPart_7 : decode cX7_footPart 7 = .ok (.iload_n 2, 1) := by decide +kernel
theorem dX7_footPart_8 : decode cX7_footPart 8 = .ok (.iadd, 1) := by decide +kernel
theorem dX7_footPart_9 : decode cX7_footPart 9 = .ok (.iaload, 1) := by decide +kernel
theorem dX7_footPart_10 : decode cX7_footPart 10 = .ok (.ireturn, 1) := by decide +kernel

def f_X7_footPart (fu : Nat) (M : gz_M) (a0 : Nat) (a1 : Int32) (a2 : Int32) : Option (Int32) :=
  gz_gd M 7 a0 <|
  (gz_gR M 7 0 a0).bind fun x1 =>
  (gz_aI M x1 ((a1 * (5 : Int32)) + a2)).bind fun x2 =>
  some x2

set_option maxHeartbeats 4000000 in
theorem ct_X7_footPart (l : Launch) (G : gz_G) (fu : Nat) (M : gz_M) (a0 : Nat) (a1 : Int32) (a2 : Int32) (y : Int32) (hF : f_X7_footPart fu M a0 a1 a2 = some y) : gz_ct l yX7_footPart cX7_footPart 3 (some .int) 0 0 0 0 G [.ref a0, .int a1, .int a2] M (some (.int y)) M := by
  refine gz_ct.of (by decide) (Nat.le_of_ble_eq_true rfl) (fun C hC hX => ?_)
  unfold f_X7_footPart at hF
  obtain ⟨-, hF⟩ := gz_gd_some hF
  show gz_go C 0 0 M [(0, .ref a0), (1, .int a1), (2, .int a2)] 0 []
  refine gz_aload_n 0 hC 0 dX7_footPart_0 rfl rfl ?_
  refine gz_getR 1 hC fl_X7_9 fk_7_0 dX7_footPart_1 hF (fun x1 hF => ?_)
  refine gz_iload_n 4 hC 1 dX7_footPart_4 rfl rfl ?_
  refine gz_iconst 5 hC (5 : Int32) dX7_footPart_5 gz_k5 ?_
  refine gz_imul 6 hC dX7_footPart_6 ?_
  refine gz_iload_n 7 hC 2 dX7_footPart_7 rfl rfl ?_
  refine gz_iadd 8 hC dX7_footPart_8 ?_
  refine gz_iald 9 hC dX7_footPart_9 hF (fun x2 hF => ?_)
  exact gz_iretP 10 hC hX dX7_footPart_10 hF

theorem dX7_share_0 : decode cX7_share 0 = .ok (.aload_n 0, 1) := by decide +kernel
theorem dX7_share_1 : decode cX7_share 1 = .ok (.iload_n 1, 1) := by decide +kernel
theorem dX7_share_2 : decode cX7_share 2 = .ok (.iload_n 2, 1) := by decide +kernel
theorem dX7_share_3 : decode cX7_share 3 = .ok (.invokevirtual 56, 3) := by decide +kernel
theorem dX7_share_6 : decode cX7_share 6 = .ok (.iload_n 3, 1) := by decide +kernel
theorem dX7_share_7 : decode cX7_share 7 = .ok (.iadd, 1) := by decide +kernel
theorem dX7_share_8 : decode cX7_share 8 = .ok (.istore 5, 2) := by decide +kernel
theorem dX7_share_10 : decode cX7_share 10 = .ok (.iload 4, 2) := by decide +kernel
theorem dX7_share_12 : decode cX7_share 12 = .ok (.iload 5, 2) := by decide +kernel
theorem dX7_share_14 : decode cX7_share 14 = .ok (.aload_n 0, 1) := by decide +kernel
theorem dX7_share_15 : decode cX7_share 15 = .ok (.iload_n 1, 1) := by decide +kernel
theorem dX7_share_16 : decode cX7_share 16 = .ok (.iconst 4, 1) := by decide +kernel
theorem dX7_share_17 : decode cX7_share 17 = .ok (.invokevirtual 56, 3) := by decide +kernel
theorem dX7_share_20 : decode cX7_share 20 = .ok (.isub, 1) := by decide +kernel
theorem dX7_share_21 : decode cX7_share 21 = .ok (.if_icmp .lt 17, 3) := by decide +kernel
theorem dX7_share_24 : decode cX7_share 24 = .ok (.iload 4, 2) := by decide +kernel
theorem dX7_share_26 : decode cX7_share 26 = .ok (.iload 5, 2) := by decide +kernel
theorem dX7_share_28 : decode cX7_share 28 = .ok (.aload_n 0, 1) := by decide +kernel
theorem dX7_share_29 : decode cX7_share 29 = .ok (.getfield 21, 3) := by decide +kernel
theorem dX7_share_32 : decode cX7_share 32 = .ok (.iload_n 2, 1) := by decide +kernel
theorem dX7_share_33 : decode cX7_share 33 = .ok (.iaload, 1) := by decide +kernel
theorem dX7_share_34 : decode cX7_share 34 = .ok (.iadd, 1) := by decide +kernel
theorem dX7_share_35 : decode cX7_share 35 = .ok (.if_icmp .le 5, 3) := by decide +kernel
theorem dX7_share_38 : decode cX7_share 38 = .ok (.iconst (-1), 1) := by decide +kernel
theorem dX7_share_39 : decode cX7_share 39 = .ok (.ireturn, 1) := by decide +kernel
theorem dX7_share_40 : decode cX7_share 40 = .ok (.iload 4, 2) := by decide +kernel
theorem dX7_share_42 : decode cX7_share 42 = .ok (.iload 5, 2) := by decide +kernel
theorem dX7_share_44 : decode cX7_share 44 = .ok (.if_icmp .le 18, 3) := by decide +kernel
theorem dX7_share_47 : decode cX7_share 47 = .ok (.aload_n 0, 1) := by decide +kernel
theorem dX7_share_48 : decode cX7_share 48 = .ok (.getfield 18, 3) := by decide +kernel
theorem dX7_share_51 : decode cX7_share 51 = .ok (.iload_n 2, 1) := by decide +kernel
theorem dX7_share_52 : decode cX7_share 52 = .ok (.iaload, 1) := by decide +kernel
theorem dX7_share_53 : decode cX7_share 53 = .ok (.iload 4, 2) := by decide +kernel
theorem dX7_share_55 : decode cX7_share 55 = .ok (.iload 5, 2) := by decide +kernel
theorem dX7_share_57 : decode cX7_share 57 = .ok (.isub, 1) := by decide +kernel
theorem dX7_share_58 : decode cX7_share 58 = .ok (.imul, 1) := by decide +kernel
theorem dX7_share_59 : decode cX7_share 59 = .ok (.goto 4, 3) := by decide +kernel
theorem dX7_share_62 : decode cX7_share 62 = .ok (.iconst 0, 1) := by decide +kernel
theorem dX7_share_63 : decode cX7_share 63 = .ok (.ireturn, 1) := by decide +kernel

def f_X7_share (fu : Nat) (M : gz_M) (a0 : Nat) (a1 : Int32) (a2 : Int32) (a3 : Int32) (a4 : Int32) : Option (Int32) :=
  gz_gd M 7 a0 <|
  (f_X7_footPart fu M a0 a1 a2).bind fun x1 =>
  (f_X7_footPart fu M a0 a1 (4 : Int32)).bind fun x2 =>
  gz_jn (some (-1 : Int32)) fun j38 =>
  if a4 < ((x1 + a3) - x2) then
    j38
  else
    (gz_gR M 7 3 a0).bind fun x3 =>
    (gz_aI M x3 a2).bind fun x4 =>
    if a4 ≤ ((x1 + a3) + x4) then
      gz_jn (fun (x7 : Int32) =>
      some x7) fun j63 =>
      if a4 ≤ (x1 + a3) then
        j63 (0 : Int32)
      else
        (gz_gR M 7 2 a0).bind fun x5 =>
        (gz_aI M x5 a2).bind fun x6 =>
        j63 (x6 * (a4 - (x1 + a3)))
    else
      j38

set_option maxHeartbeats 4000000 in
theorem ct_X7_share (l : Launch) (G : gz_G) (fu : Nat) (M : gz_M) (a0 : Nat) (a1 : Int32) (a2 : Int32) (a3 : Int32) (a4 : Int32) (y : Int32) (hF : f_X7_share fu M a0 a1 a2 a3 a4 = some y) : gz_ct l yX7_share cX7_share 6 (some .int) 1 22 0 0 G [.ref a0, .int a1, .int a2, .int a3, .int a4] M (some (.int y)) M := by
  refine gz_ct.of (by decide) (Nat.le_of_ble_eq_true rfl) (fun C hC hX => ?_)
  unfold f_X7_share at hF
  obtain ⟨-, hF⟩ := gz_gd_some hF
  show gz_go C 0 0 M [(0, .ref a0), (1, .int a1), (2, .int a2), (3, .int a3), (4, .int a4)] 0 []
  refine gz_aload_n 0 hC 0 dX7_share_0 rfl rfl ?_
  refine gz_iload_n 1 hC 1 dX7_share_1 rfl rfl ?_
  refine gz_iload_n 2 hC 2 dX7_share_2 rfl rfl ?_
  refine gz_cvP (st := []) 3 hC hX [.int a1, .int a2] Value.int yl_X7_footPart yv_X7_footPart q_537 ⟨Nat.le_of_ble_eq_true rfl, Nat.le_of_ble_eq_true rfl⟩ ⟨_, rfl⟩ (fun r h => ct_X7_footPart _ _ fu M a0 a1 a2 r h) rfl rfl (Nat.le_of_ble_eq_true rfl) dX7_share_3 gz_00 hF (fun x1 hF => ?_)
  refine gz_iload_n 6 hC 3 dX7_share_6 rfl rfl ?_
  refine gz_iadd 7 hC dX7_share_7 ?_
  refine gz_istore 8 hC [(5, .int (x1 + a3)), (0, .ref a0), (1, .int a1), (2, .int a2), (3, .int a3), (4, .int a4)] dX7_share_8 (by decide) rfl ?_
  refine gz_iload 10 hC 5 dX7_share_10 rfl ?_
  refine gz_iload 12 hC 0 dX7_share_12 rfl ?_
  refine gz_aload_n 14 hC 1 dX7_share_14 rfl rfl ?_
  refine gz_iload_n 15 hC 2 dX7_share_15 rfl rfl ?_
  refine gz_iconst 16 hC (4 : Int32) dX7_share_16 gz_k4 ?_
  refine gz_cvP (st := [.int (x1 + a3), .int a4]) 17 hC hX [.int a1, .int (4 : Int32)] Value.int yl_X7_footPart yv_X7_footPart q_537 ⟨Nat.le_of_ble_eq_true rfl, Nat.le_of_ble_eq_true rfl⟩ ⟨_, rfl⟩ (fun r h => ct_X7_footPart _ _ fu M a0 a1 (4 : Int32) r h) rfl rfl (Nat.le_of_ble_eq_true rfl) dX7_share_17 gz_00 hF (fun x2 hF => ?_)
  refine gz_isub 20 hC dX7_share_20 ?_
  refine gz_join (fun (j : Option (Int32)) => j = some y → gz_go C 0 0 M [] 38 []) hF (fun hF => ?_) (fun j38 hj38 hF => ?_)
  · skip
    refine gz_iconst 38 hC (-1 : Int32) dX7_share_38 gz_km1 ?_
    exact gz_iretP 39 hC hX dX7_share_39 hF
  refine gz_icmp_lt 21 38 hC dX7_share_21 (by decide) hF (fun hF => ?_) (fun hF => ?_)
  · skip
    refine gz_sub [] [] rfl ?_
    exact hj38 hF
  · skip
    refine gz_iload 24 hC 5 dX7_share_24 rfl ?_
    refine gz_iload 26 hC 0 dX7_share_26 rfl ?_
    refine gz_aload_n 28 hC 1 dX7_share_28 rfl rfl ?_
    refine gz_getR 29 hC fl_X7_21 fk_7_3 dX7_share_29 hF (fun x3 hF => ?_)
    refine gz_iload_n 32 hC 3 dX7_share_32 rfl rfl ?_
    refine gz_iald 33 hC dX7_share_33 hF (fun x4 hF => ?_)
    refine gz_iadd 34 hC dX7_share_34 ?_
    refine gz_icmp_le 35 40 hC dX7_share_35 (by decide) hF (fun hF => ?_) (fun hF => ?_)
    · skip
      refine gz_iload 40 hC 5 dX7_share_40 rfl ?_
      refine gz_iload 42 hC 0 dX7_share_42 rfl ?_
      refine gz_join (fun (j : Int32 → Option (Int32)) => ∀ (x7 : Int32), j x7 = some y → gz_go C 0 0 M [] 63 [.int x7]) hF (fun x7 hF => ?_) (fun j63 hj63 hF => ?_)
      · skip
        exact gz_iretP 63 hC hX dX7_share_63 hF
      refine gz_icmp_le 44 62 hC dX7_share_44 (by decide) hF (fun hF => ?_) (fun hF => ?_)
      · skip
        refine gz_iconst 62 hC (0 : Int32) dX7_share_62 gz_k0 ?_
        refine gz_sub [] [] rfl ?_
        exact hj63 _ hF
      · skip
        refine gz_aload_n 47 hC 1 dX7_share_47 rfl rfl ?_
        refine gz_getR 48 hC fl_X7_18 fk_7_2 dX7_share_48 hF (fun x5 hF => ?_)
        refine gz_iload_n 51 hC 3 dX7_share_51 rfl rfl ?_
        refine gz_iald 52 hC dX7_share_52 hF (fun x6 hF => ?_)
        refine gz_iload 53 hC 5 dX7_share_53 rfl ?_
        refine gz_iload 55 hC 0 dX7_share_55 rfl ?_
        refine gz_isub 57 hC dX7_share_57 ?_
        refine gz_imul 58 hC dX7_share_58 ?_
        refine gz_goto 59 63 hC dX7_share_59 (by decide) ?_
        refine gz_sub [] [] rfl ?_
        exact hj63 _ hF
    · skip
      refine gz_sub [] [] rfl ?_
      exact hj38 hF

theorem dX7_lastPart_0 : decode cX7_lastPart 0 = .ok (.aload_n 0, 1) := by decide +kernel
theorem dX7_lastPart_1 : decode cX7_lastPart 1 = .ok (.getfield 15, 3) := by decide +kernel
theorem dX7_lastPart_4 : decode cX7_lastPart 4 = .ok (.iload_n 1, 1) := by decide +kernel
theorem dX7_lastPart_5 : decode cX7_lastPart 5 = .ok (.iconst 4, 1) := by decide +kernel
theorem dX7_lastPart_6 : decode cX7_lastPart 6 = .ok (.imul, 1) := by decide +kernel
theorem dX7_lastPart_7 : decode cX7_lastPart 7 = .ok (.iload_n 2, 1) := by decide +kernel
theorem dX7_lastPart_8 : decode cX7_lastPart 8 = .ok (.iadd, 1) := by decide +kernel
theorem dX7_lastPart_9 : decode cX7_lastPart 9 = .ok (.iaload, 1) := by decide +kernel
theorem dX7_lastPart_10 : decode cX7_lastPart 10 = .ok (.ireturn, 1) := by decide +kernel

def f_X7_lastPart (fu : Nat) (M : gz_M) (a0 : Nat) (a1 : Int32) (a2 : Int32) : Option (Int32) :=
  gz_gd M 7 a0 <|
  (gz_gR M 7 1 a0).bind fun x1 =>
  (gz_aI M x1 ((a1 * (4 : Int32)) + a2)).bind fun x2 =>
  some x2

set_option maxHeartbeats 4000000 in
theorem ct_X7_lastPart (l : Launch) (G : gz_G) (fu : Nat) (M : gz_M) (a0 : Nat) (a1 : Int32) (a2 : Int32) (y : Int32) (hF : f_X7_lastPart fu M a0 a1 a2 = some y) : gz_ct l yX7_lastPart cX7_lastPart 3 (some .int) 0 0 0 0 G [.ref a0, .int a1, .int a2] M (some (.int y)) M := by
  refine gz_ct.of (by decide) (Nat.le_of_ble_eq_true rfl) (fun C hC hX => ?_)
  unfold f_X7_lastPart at hF
  obtain ⟨-, hF⟩ := gz_gd_some hF
  show gz_go C 0 0 M [(0, .ref a0), (1, .int a1), (2, .int a2)] 0 []
  refine gz_aload_n 0 hC 0 dX7_lastPart_0 rfl rfl ?_
  refine gz_getR 1 hC fl_X7_15 fk_7_1 dX7_lastPart_1 hF (fun x1 hF => ?_)
  refine gz_iload_n 4 hC 1 dX7_lastPart_4 rfl rfl ?_
  refine gz_iconst 5 hC (4 : Int32) dX7_lastPart_5 gz_k4 ?_
  refine gz_imul 6 hC dX7_lastPart_6 ?_
  refine gz_iload_n 7 hC 2 dX7_lastPart_7 rfl rfl ?_
  refine gz_iadd 8 hC dX7_lastPart_8 ?_
  refine gz_iald 9 hC dX7_lastPart_9 hF (fun x2 hF => ?_)
  exact gz_iretP 10 hC hX dX7_lastPart_10 hF

theorem dX7_badness_0 : decode cX7_badness 0 = .ok (.aload_n 0, 1) := by decide +kernel
theorem dX7_badness_1 : decode cX7_badness 1 = .ok (.iload 4, 2) := by decide +kernel
theorem dX7_badness_3 : decode cX7_badness 3 = .ok (.iconst 0, 1) := by decide +kernel
theorem dX7_badness_4 : decode cX7_badness 4 = .ok (.iload 5, 2) := by decide +kernel
theorem dX7_badness_6 : decode cX7_badness 6 = .ok (.aload_n 1, 1) := by decide +kernel
theorem dX7_badness_7 : decode cX7_badness 7 = .ok (.iload_n 2, 1) := by decide +kernel
theorem dX7_badness_8 : decode cX7_badness 8 = .ok (.iconst 0, 1) := by decide +kernel
theorem dX7_badness_9 : decode cX7_badness 9 = .ok (.invokevirtual 60, 3) := by decide +kernel
theorem dX7_badness_12 : decode cX7_badness 12 = .ok (.iload_n 3, 1) := by decide +kernel
theorem dX7_badness_13 : decode cX7_badness 13 = .ok (.iadd, 1) := by decide +kernel
theorem dX7_badness_14 : decode cX7_badness 14 = .ok (.invokevirtual 63, 3) := by decide +kernel
theorem dX7_badness_17 : decode cX7_badness 17 = .ok (.istore 7, 2) := by decide +kernel
theorem dX7_badness_19 : decode cX7_badness 19 = .ok (.aload_n 0, 1) := by decide +kernel
theorem dX7_badness_20 : decode cX7_badness 20 = .ok (.iload 4, 2) := by decide +kernel
theorem dX7_badness_22 : decode cX7_badness 22 = .ok (.iconst 1, 1) := by decide +kernel
theorem dX7_badness_23 : decode cX7_badness 23 = .ok (.iload 6, 2) := by decide +kernel
theorem dX7_badness_25 : decode cX7_badness 25 = .ok (.aload_n 1, 1) := by decide +kernel
theorem dX7_badness_26 : decode cX7_badness 26 = .ok (.iload_n 2, 1) := by decide +kernel
theorem dX7_badness_27 : decode cX7_badness 27 = .ok (.iconst 1, 1) := by decide +kernel
theorem dX7_badness_28 : decode cX7_badness 28 = .ok (.invokevirtual 60, 3) := by decide +kernel
theorem dX7_badness_31 : decode cX7_badness 31 = .ok (.iload_n 3, 1) := by decide +kernel
theorem dX7_badness_32 : decode cX7_badness 32 = .ok (.iadd, 1) := by decide +kernel
theorem dX7_badness_33 : decode cX7_badness 33 = .ok (.invokevirtual 63, 3) := by decide +kernel
theorem dX7_badness_36 : decode cX7_badness 36 = .ok (.istore 8, 2) := by decide +kernel
theorem dX7_badness_38 : decode cX7_badness 38 = .ok (.aload_n 0, 1) := by decide +kernel
theorem dX7_badness_39 : decode cX7_badness 39 = .ok (.iload 4, 2) := by decide +kernel
theorem dX7_badness_41 : decode cX7_badness 41 = .ok (.iconst 2, 1) := by decide +kernel
theorem dX7_badness_42 : decode cX7_badness 42 = .ok (.iconst 0, 1) := by decide +kernel
theorem dX7_badness_43 : decode cX7_badness 43 = .ok (.aload_n 1, 1) := by decide +kernel
theorem dX7_badness_44 : decode cX7_badness 44 = .ok (.iload_n 2, 1) := by decide +kernel
theorem dX7_badness_45 : decode cX7_badness 45 = .ok (.iconst 2, 1) := by decide +kernel
theorem dX7_badness_46 : decode cX7_badness 46 = .ok (.invokevirtual 60, 3) := by decide +kernel
theorem dX7_badness_49 : decode cX7_badness 49 = .ok (.iload_n 3, 1) := by decide +kernel
theorem dX7_badness_50 : decode cX7_badness 50 = .ok (.iadd, 1) := by decide +kernel
theorem dX7_badness_51 : decode cX7_badness 51 = .ok (.invokevirtual 63, 3) := by decide +kernel
theorem dX7_badness_54 : decode cX7_badness 54 = .ok (.istore 9, 2) := by decide +kernel
theorem dX7_badness_56 : decode cX7_badness 56 = .ok (.iload 7, 2) := by decide +kernel
theorem dX7_badness_58 : decode cX7_badness 58 = .ok (.iconst (-1), 1) := by decide +kernel
theorem dX7_badness_59 : decode cX7_badness 59 = .ok (.if_icmp .eq 15, 3) := by decide +kernel
theorem dX7_badness_62 : decode cX7_badness 62 = .ok (.iload 8, 2) := by decide +kernel
theorem dX7_badness_64 : decode cX7_badness 64 = .ok (.iconst (-1), 1) := by decide +kernel
theorem dX7_badness_65 : decode cX7_badness 65 = .ok (.if_icmp .eq 9, 3) := by decide +kernel
theorem dX7_badness_68 : decode cX7_badness 68 = .ok (.iload 9, 2) := by decide +kernel
theorem dX7_badness_70 : decode cX7_badness 70 = .ok (.iconst (-1), 1) := by decide +kernel
theorem dX7_badness_71 : decode cX7_badness 71 = .ok (.if_icmp .ne 7, 3) := by decide +kernel
theorem dX7_badness_74 : decode cX7_badness 74 = .ok (.iconst (-1), 1) := by decide +kernel
theorem dX7_badness_75 : decode cX7_badness 75 = .ok (.goto 11, 3) := by decide +kernel
theorem dX7_badness_78 : decode cX7_badness 78 = .ok (.iload 7, 2) := by decide +kernel
theorem dX7_badness_80 : decode cX7_badness 80 = .ok (.iload 8, 2) := by decide +kernel
theorem dX7_badness_82 : decode cX7_badness 82 = .ok (.iadd, 1) := by decide +kernel
theorem dX7_badness_83 : decode cX7_badness 83 = .ok (.iload 9, 2) := by decide +kernel
theorem dX7_badness_85 : decode cX7_badness 85 = .ok (.iadd, 1) := by decide +kernel
theorem dX7_badness_86 : decode cX7_badness 86 = .ok (.ireturn, 1) := by decide +kernel

def f_X7_badness (fu : Nat) (M : gz_M) (a0 : Nat) (a1 : Nat) (a2 : Int32) (a3 : Int32) (a4 : Int32) (a5 : Int32) (a6 : Int32) : Option (Int32) :=
  gz_gd M 7 a0 <|
  (f_X7_lastPart fu M a1 a2 (0 : Int32)).bind fun x1 =>
  (f_X7_share fu M a0 a4 (0 : Int32) a5 (x1 + a3)).bind fun x2 =>
  (f_X7_lastPart fu M a1 a2 (1 : Int32)).bind fun x3 =>
  (f_X7_share fu M a0 a4 (1 : Int32) a6 (x3 + a3)).bind fun x4 =>
  (f_X7_lastPart fu M a1 a2 (2 : Int32)).bind fun x5 =>
  (f_X7_share fu M a0 a4 (2 : Int32) (0 : Int32) (x5 + a3)).bind fun x6 =>
  gz_jn (fun (x7 : Int32) =>
  some x7) fun j86 =>
  gz_jn (j86 (-1 : Int32)) fun j74 =>
  if x2 = (-1 : Int32) then
    j74
  else
    if x4 = (-1 : Int32) then
      j74
    else
      if x6 = (-1 : Int32) then
        j74
      else
        j86 ((x2 + x4) + x6)

set_option maxHeartbeats 4000000 in
theorem ct_X7_badness (l : Launch) (G : gz_G) (fu : Nat) (M : gz_M) (a0 : Nat) (a1 : Nat) (a2 : Int32) (a3 : Int32) (a4 : Int32) (a5 : Int32) (a6 : Int32) (y : Int32) (hF : f_X7_badness fu M a0 a1 a2 a3 a4 a5 a6 = some y) : gz_ct l yX7_badness cX7_badness 10 (some .int) 2 47 0 0 G [.ref a0, .ref a1, .int a2, .int a3, .int a4, .int a5, .int a6] M (some (.int y)) M := by
  refine gz_ct.of (by decide) (Nat.le_of_ble_eq_true rfl) (fun C hC hX => ?_)
  unfold f_X7_badness at hF
  obtain ⟨-, hF⟩ := gz_gd_some hF
  show gz_go C 0 0 M [(0, .ref a0), (1, .ref a1), (2, .int a2), (3, .int a3), (4, .int a4), (5, .int a5), (6, .int a6)] 0 []
  refine gz_aload_n 0 hC 0 dX7_badness_0 rfl rfl ?_
  refine gz_iload 1 hC 4 dX7_badness_1 rfl ?_
  refine gz_iconst 3 hC (0 : Int32) dX7_badness_3 gz_k0 ?_
  refine gz_iload 4 hC 5 dX7_badness_4 rfl ?_
  refine gz_aload_n 6 hC 1 dX7_badness_6 rfl rfl ?_
  refine gz_iload_n 7 hC 2 dX7_badness_7 rfl rfl ?_
  refine gz_iconst 8 hC (0 : Int32) dX7_badness_8 gz_k0 ?_
  refine gz_cvP (st := [.int a5, .int (0 : Int32), .int a4, .ref a0]) 9 hC hX [.int a2, .int (0 : Int32)] Value.int yl_X7_lastPart yv_X7_lastPart q_529 ⟨Nat.le_of_ble_eq_true rfl, Nat.le_of_ble_eq_true rfl⟩ ⟨_, rfl⟩ (fun r h => ct_X7_lastPart _ _ fu M a1 a2 (0 : Int32) r h) rfl rfl (Nat.le_of_ble_eq_true rfl) dX7_badness_9 gz_00 hF (fun x1 hF => ?_)
  refine gz_iload_n 12 hC 3 dX7_badness_12 rfl rfl ?_
  refine gz_iadd 13 hC dX7_badness_13 ?_
  refine gz_cvP (st := []) 14 hC hX [.int a4, .int (0 : Int32), .int a5, .int (x1 + a3)] Value.int yl_X7_share yv_X7_share q_533 ⟨Nat.le_of_ble_eq_true rfl, Nat.le_of_ble_eq_true rfl⟩ ⟨_, rfl⟩ (fun r h => ct_X7_share _ _ fu M a0 a4 (0 : Int32) a5 (x1 + a3) r h) rfl rfl (Nat.le_of_ble_eq_true rfl) dX7_badness_14 gz_00 hF (fun x2 hF => ?_)
  refine gz_istore 17 hC [(7, .int x2), (0, .ref a0), (1, .ref a1), (2, .int a2), (3, .int a3), (4, .int a4), (5, .int a5), (6, .int a6)] dX7_badness_17 (by decide) rfl ?_
  refine gz_aload_n 19 hC 1 dX7_badness_19 rfl rfl ?_
  refine gz_iload 20 hC 5 dX7_badness_20 rfl ?_
  refine gz_iconst 22 hC (1 : Int32) dX7_badness_22 gz_k1 ?_
  refine gz_iload 23 hC 7 dX7_badness_23 rfl ?_
  refine gz_aload_n 25 hC 2 dX7_badness_25 rfl rfl ?_
  refine gz_iload_n 26 hC 3 dX7_badness_26 rfl rfl ?_
  refine gz_iconst 27 hC (1 : Int32) dX7_badness_27 gz_k1 ?_
  refine gz_cvP (st := [.int a6, .int (1 : Int32), .int a4, .ref a0]) 28 hC hX [.int a2, .int (1 : Int32)] Value.int yl_X7_lastPart yv_X7_lastPart q_529 ⟨Nat.le_of_ble_eq_true rfl, Nat.le_of_ble_eq_true rfl⟩ ⟨_, rfl⟩ (fun r h => ct_X7_lastPart _ _ fu M a1 a2 (1 : Int32) r h) rfl rfl (Nat.le_of_ble_eq_true rfl) dX7_badness_28 gz_00 hF (fun x3 hF => ?_)
  refine gz_iload_n 31 hC 4 dX7_badness_31 rfl rfl ?_
  refine gz_iadd 32 hC dX7_badness_32 ?_
  refine gz_cvP (st := []) 33 hC hX [.int a4, .int (1 : Int32), .int a6, .int (x3 + a3)] Value.int yl_X7_share yv_X7_share q_533 ⟨Nat.le_of_ble_eq_true rfl, Nat.le_of_ble_eq_true rfl⟩ ⟨_, rfl⟩ (fun r h => ct_X7_share _ _ fu M a0 a4 (1 : Int32) a6 (x3 + a3) r h) rfl rfl (Nat.le_of_ble_eq_true rfl) dX7_badness_33 gz_00 hF (fun x4 hF => ?_)
  refine gz_istore 36 hC [(8, .int x4), (7, .int x2), (0, .ref a0), (1, .ref a1), (2, .int a2), (3, .int a3), (4, .int a4), (5, .int a5), (6, .int a6)] dX7_badness_36 (by decide) rfl ?_
  refine gz_aload_n 38 hC 2 dX7_badness_38 rfl rfl ?_
  refine gz_iload 39 hC 6 dX7_badness_39 rfl ?_
  refine gz_iconst 41 hC (2 : Int32) dX7_badness_41 gz_k2 ?_
  refine gz_iconst 42 hC (0 : Int32) dX7_badness_42 gz_k0 ?_
  refine gz_aload_n 43 hC 3 dX7_badness_43 rfl rfl ?_
  refine gz_iload_n 44 hC 4 dX7_badness_44 rfl rfl ?_
  refine gz_iconst 45 hC (2 : Int32) dX7_badness_45 gz_k2 ?_
  refine gz_cvP (st := [.int (0 : Int32), .int (2 : Int32), .int a4, .ref a0]) 46 hC hX [.int a2, .int (2 : Int32)] Value.int yl_X7_lastPart yv_X7_lastPart q_529 ⟨Nat.le_of_ble_eq_true rfl, Nat.le_of_ble_eq_true rfl⟩ ⟨_, rfl⟩ (fun r h => ct_X7_lastPart _ _ fu M a1 a2 (2 : Int32) r h) rfl rfl (Nat.le_of_ble_eq_true rfl) dX7_badness_46 gz_00 hF (fun x5 hF => ?_)
  refine gz_iload_n 49 hC 5 dX7_badness_49 rfl rfl ?_
  refine gz_iadd 50 hC dX7_badness_50 ?_
  refine gz_cvP (st := []) 51 hC hX [.int a4, .int (2 : Int32), .int (0 : Int32), .int (x5 + a3)] Value.int yl_X7_share yv_X7_share q_533 ⟨Nat.le_of_ble_eq_true rfl, Nat.le_of_ble_eq_true rfl⟩ ⟨_, rfl⟩ (fun r h => ct_X7_share _ _ fu M a0 a4 (2 : Int32) (0 : Int32) (x5 + a3) r h) rfl rfl (Nat.le_of_ble_eq_true rfl) dX7_badness_51 gz_00 hF (fun x6 hF => ?_)
  refine gz_istore 54 hC [(9, .int x6), (8, .int x4), (7, .int x2), (0, .ref a0), (1, .ref a1), (2, .int a2), (3, .int a3), (4, .int a4), (5, .int a5), (6, .int a6)] dX7_badness_54 (by decide) rfl ?_
  refine gz_iload 56 hC 2 dX7_badness_56 rfl ?_
  refine gz_iconst 58 hC (-1 : Int32) dX7_badness_58 gz_km1 ?_
  refine gz_join (fun (j : Int32 → Option (Int32)) => ∀ (x7 : Int32), j x7 = some y → gz_go C 0 0 M [] 86 [.int x7]) hF (fun x7 hF => ?_) (fun j86 hj86 hF => ?_)
  · skip
    exact gz_iretP 86 hC hX dX7_badness_86 hF
  refine gz_join (fun (j : Option (Int32)) => j = some y → gz_go C 0 0 M [] 74 []) hF (fun hF => ?_) (fun j74 hj74 hF => ?_)
  · skip
    refine gz_iconst 74 hC (-1 : Int32) dX7_badness_74 gz_km1 ?_
    refine gz_goto 75 86 hC dX7_badness_75 (by decide) ?_
    exact hj86 _ hF
  refine gz_icmp_eq 59 74 hC dX7_badness_59 (by decide) hF (fun hF => ?_) (fun hF => ?_)
  · skip
    refine gz_sub [] [] rfl ?_
    exact hj74 hF
  · skip
    refine gz_iload 62 hC 1 dX7_badness_62 rfl ?_
    refine gz_iconst 64 hC (-1 : Int32) dX7_badness_64 gz_km1 ?_
    refine gz_icmp_eq 65 74 hC dX7_badness_65 (by decide) hF (fun hF => ?_) (fun hF => ?_)
    · skip
      refine gz_sub [] [] rfl ?_
      exact hj74 hF
    · skip
      refine gz_iload 68 hC 0 dX7_badness_68 rfl ?_
      refine gz_iconst 70 hC (-1 : Int32) dX7_badness_70 gz_km1 ?_
      refine gz_icmp_ne 71 78 hC dX7_badness_71 (by decide) hF (fun hF => ?_) (fun hF => ?_)
      · skip
        refine gz_iload 78 hC 2 dX7_badness_78 rfl ?_
        refine gz_iload 80 hC 1 dX7_badness_80 rfl ?_
        refine gz_iadd 82 hC dX7_badness_82 ?_
        refine gz_iload 83 hC 0 dX7_badness_83 rfl ?_
        refine gz_iadd 85 hC dX7_badness_85 ?_
        refine gz_sub [] [] rfl ?_
        exact hj86 _ hF
      · skip
        refine gz_sub [] [] rfl ?_
        exact hj74 hF

theorem dX7_badnessOf_0 : decode cX7_badnessOf 0 = .ok (.aload_n 0, 1) := by decide +kernel
theorem dX7_badnessOf_1 : decode cX7_badnessOf 1 = .ok (.aload_n 0, 1) := by decide +kernel
theorem dX7_badnessOf_2 : decode cX7_badnessOf 2 = .ok (.iload_n 1, 1) := by decide +kernel
theorem dX7_badnessOf_3 : decode cX7_badnessOf 3 = .ok (.iconst 0, 1) := by decide +kernel
theorem dX7_badnessOf_4 : decode cX7_badnessOf 4 = .ok (.iload_n 2, 1) := by decide +kernel
theorem dX7_badnessOf_5 : decode cX7_badnessOf 5 = .ok (.iconst 0, 1) := by decide +kernel
theorem dX7_badnessOf_6 : decode cX7_badnessOf 6 = .ok (.iconst 0, 1) := by decide +kernel
theorem dX7_badnessOf_7 : decode cX7_badnessOf 7 = .ok (.invokevirtual 67, 3) := by decide +kernel
theorem dX7_badnessOf_10 : decode cX7_badnessOf 10 = .ok (.ireturn, 1) := by decide +kernel

def f_X7_badnessOf (fu : Nat) (M : gz_M) (a0 : Nat) (a1 : Int32) (a2 : Int32) : Option (Int32) :=
  gz_gd M 7 a0 <|
  (f_X7_badness fu M a0 a0 a1 (0 : Int32) a2 (0 : Int32) (0 : Int32)).bind fun x1 =>
  some x1

set_option maxHeartbeats 4000000 in
theorem ct_X7_badnessOf (l : Launch) (G : gz_G) (fu : Nat) (M : gz_M) (a0 : Nat) (a1 : Int32) (a2 : Int32) (y : Int32) (hF : f_X7_badnessOf fu M a0 a1 a2 = some y) : gz_ct l yX7_badnessOf cX7_badnessOf 3 (some .int) 3 76 0 0 G [.ref a0, .int a1, .int a2] M (some (.int y)) M := by
  refine gz_ct.of (by decide) (Nat.le_of_ble_eq_true rfl) (fun C hC hX => ?_)
  unfold f_X7_badnessOf at hF
  obtain ⟨-, hF⟩ := gz_gd_some hF
  show gz_go C 0 0 M [(0, .ref a0), (1, .int a1), (2, .int a2)] 0 []
  refine gz_aload_n 0 hC 0 dX7_badnessOf_0 rfl rfl ?_
  refine gz_aload_n 1 hC 0 dX7_badnessOf_1 rfl rfl ?_
  refine gz_iload_n 2 hC 1 dX7_badnessOf_2 rfl rfl ?_
  refine gz_iconst 3 hC (0 : Int32) dX7_badnessOf_3 gz_k0 ?_
  refine gz_iload_n 4 hC 2 dX7_badnessOf_4 rfl rfl ?_
  refine gz_iconst 5 hC (0 : Int32) dX7_badnessOf_5 gz_k0 ?_
  refine gz_iconst 6 hC (0 : Int32) dX7_badnessOf_6 gz_k0 ?_
  refine gz_cvP (st := []) 7 hC hX [.ref a0, .int a1, .int (0 : Int32), .int a2, .int (0 : Int32), .int (0 : Int32)] Value.int yl_X7_badness yv_X7_badness q_551 ⟨Nat.le_of_ble_eq_true rfl, Nat.le_of_ble_eq_true rfl⟩ ⟨_, rfl⟩ (fun r h => ct_X7_badness _ _ fu M a0 a0 a1 (0 : Int32) a2 (0 : Int32) (0 : Int32) r h) rfl rfl (Nat.le_of_ble_eq_true rfl) dX7_badnessOf_7 gz_00 hF (fun x1 hF => ?_)
  exact gz_iretP 10 hC hX dX7_badnessOf_10 hF

theorem dX7_ownLast_0 : decode cX7_ownLast 0 = .ok (.iconst (-1), 1) := by decide +kernel
theorem dX7_ownLast_1 : decode cX7_ownLast 1 = .ok (.istore_n 3, 1) := by decide +kernel
theorem dX7_ownLast_2 : decode cX7_ownLast 2 = .ok (.ldc 71, 2) := by decide +kernel
theorem dX7_ownLast_4 : decode cX7_ownLast 4 = .ok (.istore 4, 2) := by decide +kernel
theorem dX7_ownLast_6 : decode cX7_ownLast 6 = .ok (.iconst 0, 1) := by decide +kernel
theorem dX7_ownLast_7 : decode cX7_ownLast 7 = .ok (.istore 5, 2) := by decide +kernel
theorem dX7_ownLast_9 : decode cX7_ownLast 9 = .ok (.iload 5, 2) := by decide +kernel
theorem dX7_ownLast_11 : decode cX7_ownLast 11 = .ok (.aload_n 0, 1) := by decide +kernel
theorem dX7_ownLast_12 : decode cX7_ownLast 12 = .ok (.getfield 28, 3) := by decide +kernel
theorem dX7_ownLast_15 : decode cX7_ownLast 15 = .ok (.if_icmp .ge 47, 3) := by decide +kernel
theorem dX7_ownLast_18 : decode cX7_ownLast 18 = .ok (.iload_n 2, 1) := by decide +kernel
theorem dX7_ownLast_19 : decode cX7_ownLast 19 = .ok (.iconst 1, 1) := by decide +kernel
theorem dX7_ownLast_20 : decode cX7_ownLast 20 = .ok (.iload 5, 2) := by decide +kernel
theorem dX7_ownLast_22 : decode cX7_ownLast 22 = .ok (.ishl, 1) := by decide +kernel
theorem dX7_ownLast_23 : decode cX7_ownLast 23 = .ok (.iand, 1) := by decide +kernel
theorem dX7_ownLast_24 : decode cX7_ownLast 24 = .ok (.ifCond .eq 32, 3) := by decide +kernel
theorem dX7_ownLast_27 : decode cX7_ownLast 27 = .ok (.aload_n 0, 1) := by decide +kernel
theorem dX7_ownLast_28 : decode cX7_ownLast 28 = .ok (.iload 5, 2) := by decide +kernel
theorem dX7_ownLast_30 : decode cX7_ownLast 30 = .ok (.iload_n 1, 1) := by decide +kernel
theorem dX7_ownLast_31 : decode cX7_ownLast 31 = .ok (.invokevirtual 72, 3) := by decide +kernel
theorem dX7_ownLast_34 : decode cX7_ownLast 34 = .ok (.istore 6, 2) := by decide +kernel
theorem dX7_ownLast_36 : decode cX7_ownLast 36 = .ok (.iload 6, 2) := by decide +kernel
theorem dX7_ownLast_38 : decode cX7_ownLast 38 = .ok (.iconst (-1), 1) := by decide +kernel
theorem dX7_ownLast_39 : decode cX7_ownLast 39 = .ok (.if_icmp .eq 17, 3) := by decide +kernel
theorem dX7_ownLast_42 : decode cX7_ownLast 42 = .ok (.iload 6, 2) := by decide +kernel
theorem dX7_ownLast_44 : decode cX7_ownLast 44 = .ok (.iload 4, 2) := by decide +kernel
theorem dX7_ownLast_46 : decode cX7_ownLast 46 = .ok (.if_icmp .ge 10, 3) := by decide +kernel
theorem dX7_ownLast_49 : decode cX7_ownLast 49 = .ok (.iload 5, 2) := by decide +kernel
theorem dX7_ownLast_51 : decode cX7_ownLast 51 = .ok (.istore_n 3, 1) := by decide +kernel
theorem dX7_ownLast_52 : decode cX7_ownLast 52 = .ok (.iload 6, 2) := by decide +kernel
theorem dX7_ownLast_54 : decode cX7_ownLast 54 = .ok (.istore 4, 2) := by decide +kernel
theorem dX7_ownLast_56 : decode cX7_ownLast 56 = .ok (.iinc 5 1, 3) := by decide +kernel
theorem dX7_ownLast_59 : decode cX7_ownLast 59 = .ok (.goto (-50), 3) := by decide +kernel
theorem dX7_ownLast_62 : decode cX7_ownLast 62 = .ok (.iload_n 3, 1) := by decide +kernel
theorem dX7_ownLast_63 : decode cX7_ownLast 63 = .ok (.ireturn, 1) := by decide +kernel
def lp_X7_ownLast_9 (j62 : Int32 → Option (Int32)) (fu : Nat) (M : gz_M) (a0 : Nat) (a1 : Int32) (a2 : Int32) : Nat → Int32 → Int32 → Int32 → Option (Int32)
  | 0, _, _, _ => none
  | n9 + 1, x1, x2, x3 =>
    (gz_gI M 7 5 a0).bind fun x4 =>
    if x4 ≤ x3 then
      j62 x1
    else
      gz_jn (fun (x6 : Int32) (x7 : Int32) =>
      lp_X7_ownLast_9 j62 fu M a0 a1 a2 n9 x6 x7 (x3 + (1 : Int32))) fun j56 =>
      if (a2 &&& ((1 : Int32) <<< (x3 &&& 31))) = 0 then
        j56 x1 x2
      else
        (f_X7_badnessOf fu M a0 x3 a1).bind fun x5 =>
        if x5 = (-1 : Int32) then
          j56 x1 x2
        else
          if x2 ≤ x5 then
            j56 x1 x2
          else
            j56 x3 x5
def f_X7_ownLast (fu : Nat) (M : gz_M) (a0 : Nat) (a1 : Int32) (a2 : Int32) : Option (Int32) :=
  gz_gd M 7 a0 <|
  lp_X7_ownLast_9 (fun (x8 : Int32) => some x8) fu M a0 a1 a2 fu (-1 : Int32) (2147483647 : Int32) (0 : Int32)
set_option maxHeartbeats 4000000 in
theorem w_X7_ownLast_9 {C : gz_C} {y : Int32} {fu : Nat} {M : gz_M} {a0 : Nat} {a1 : Int32} {a2 : Int32} {j62 : Int32 → Option (Int32)} (hC : gz_ok C cX7_ownLast RX7 7) (hX : gz_cx C 4 98 0 0 (some .int) (some (.int y)) M "ownLast") (hj62 : ∀ (x8 : Int32), j62 x8 = some y → gz_go C 0 0 M [(3, .int x8)] 62 []) : ∀ (n : Nat) (x1 : Int32) (x2 : Int32) (x3 : Int32), lp_X7_ownLast_9 j62 fu M a0 a1 a2 n x1 x2 x3 = some y → gz_go C 0 0 M [(0, .ref a0), (1, .int a1), (2, .int a2), (3, .int x1), (4, .int x2), (5, .int x3)] 9 [] := by
  intro n
  induction n with
  | zero => intro x1 x2 x3 hF; exact nomatch (show (none : Option (Int32)) = some y from hF)
  | succ n9 ih9 =>
    intro x1 x2 x3 hF
    rw [lp_X7_ownLast_9.eq_2] at hF
    refine gz_iload 9 hC 5 dX7_ownLast_9 rfl ?_
    refine gz_aload_n 11 hC 0 dX7_ownLast_11 rfl rfl ?_
    refine gz_getI 12 hC fl_X7_28 fk_7_5 dX7_ownLast_12 hF (fun x4 hF => ?_)
    refine gz_icmp_ge 15 62 hC dX7_ownLast_15 (by decide) hF (fun hF => ?_) (fun hF => ?_)
    · skip
      refine gz_sub [3] [(3, .int x1)] rfl ?_
      exact hj62 _ hF
    · skip
      refine gz_iload_n 18 hC 2 dX7_ownLast_18 rfl rfl ?_
      refine gz_iconst 19 hC (1 : Int32) dX7_ownLast_19 gz_k1 ?_
      refine gz_iload 20 hC 5 dX7_ownLast_20 rfl ?_
      refine gz_ishl 22 hC dX7_ownLast_22 ?_
      refine gz_iand 23 hC dX7_ownLast_23 ?_
      refine gz_join (fun (j : Int32 → Int32 → Option (Int32)) => ∀ (x6 : Int32) (x7 : Int32), j x6 x7 = some y → gz_go C 0 0 M [(0, .ref a0), (1, .int a1), (2, .int a2), (3, .int x6), (4, .int x7), (5, .int x3)] 56 []) hF (fun x6 x7 hF => ?_) (fun j56 hj56 hF => ?_)
      · skip
        refine gz_iinc 56 hC (x3 + (1 : Int32)) 5 [(5, .int (x3 + (1 : Int32))), (0, .ref a0), (1, .int a1), (2, .int a2), (3, .int x6), (4, .int x7)] dX7_ownLast_56 rfl rfl (by decide) rfl ?_
        refine gz_goto 59 9 hC dX7_ownLast_59 (by decide) ?_
        refine gz_sub [1, 2, 3, 4, 5, 0] [(0, .ref a0), (1, .int a1), (2, .int a2), (3, .int x6), (4, .int x7), (5, .int (x3 + (1 : Int32)))] rfl ?_
        exact ih9 _ _ _ hF
      refine gz_if_eq 24 56 hC dX7_ownLast_24 (by decide) hF (fun hF => ?_) (fun hF => ?_)
      · skip
        exact hj56 _ _ hF
      · skip
        refine gz_aload_n 27 hC 0 dX7_ownLast_27 rfl rfl ?_
        refine gz_iload 28 hC 5 dX7_ownLast_28 rfl ?_
        refine gz_iload_n 30 hC 1 dX7_ownLast_30 rfl rfl ?_
        refine gz_cvP (st := []) 31 hC hX [.int x3, .int a1] Value.int yl_X7_badnessOf yv_X7_badnessOf q_784 ⟨Nat.le_of_ble_eq_true rfl, Nat.le_of_ble_eq_true rfl⟩ ⟨_, rfl⟩ (fun r h => ct_X7_badnessOf _ _ fu M a0 x3 a1 r h) rfl rfl (Nat.le_of_ble_eq_true rfl) dX7_ownLast_31 gz_00 hF (fun x5 hF => ?_)
        refine gz_istore 34 hC [(6, .int x5), (0, .ref a0), (1, .int a1), (2, .int a2), (3, .int x1), (4, .int x2), (5, .int x3)] dX7_ownLast_34 (by decide) rfl ?_
        refine gz_iload 36 hC 0 dX7_ownLast_36 rfl ?_
        refine gz_iconst 38 hC (-1 : Int32) dX7_ownLast_38 gz_km1 ?_
        refine gz_icmp_eq 39 56 hC dX7_ownLast_39 (by decide) hF (fun hF => ?_) (fun hF => ?_)
        · skip
          refine gz_sub [1, 2, 3, 4, 5, 6] [(0, .ref a0), (1, .int a1), (2, .int a2), (3, .int x1), (4, .int x2), (5, .int x3)] rfl ?_
          exact hj56 _ _ hF
        · skip
          refine gz_iload 42 hC 0 dX7_ownLast_42 rfl ?_
          refine gz_iload 44 hC 5 dX7_ownLast_44 rfl ?_
          refine gz_icmp_ge 46 56 hC dX7_ownLast_46 (by decide) hF (fun hF => ?_) (fun hF => ?_)
          · skip
            refine gz_sub [1, 2, 3, 4, 5, 6] [(0, .ref a0), (1, .int a1), (2, .int a2), (3, .int x1), (4, .int x2), (5, .int x3)] rfl ?_
            exact hj56 _ _ hF
          · skip
            refine gz_iload 49 hC 6 dX7_ownLast_49 rfl ?_
            refine gz_istore_n 51 hC [(3, .int x3), (6, .int x5), (0, .ref a0), (1, .int a1), (2, .int a2), (4, .int x2), (5, .int x3)] dX7_ownLast_51 rfl (by decide) rfl ?_
            refine gz_iload 52 hC 1 dX7_ownLast_52 rfl ?_
            refine gz_istore 54 hC [(4, .int x5), (3, .int x3), (6, .int x5), (0, .ref a0), (1, .int a1), (2, .int a2), (5, .int x3)] dX7_ownLast_54 (by decide) rfl ?_
            refine gz_sub [3, 4, 5, 1, 0, 6] [(0, .ref a0), (1, .int a1), (2, .int a2), (3, .int x3), (4, .int x5), (5, .int x3)] rfl ?_
            exact hj56 _ _ hF
set_option maxHeartbeats 4000000 in
theorem ct_X7_ownLast (l : Launch) (G : gz_G) (fu : Nat) (M : gz_M) (a0 : Nat) (a1 : Int32) (a2 : Int32) (y : Int32) (hF : f_X7_ownLast fu M a0 a1 a2 = some y) : gz_ct l yX7_ownLast cX7_ownLast 7 (some .int) 4 98 0 0 G [.ref a0, .int a1, .int a2] M (some (.int y)) M := by
  refine gz_ct.of (by decide) (Nat.le_of_ble_eq_true rfl) (fun C hC hX => ?_)
  unfold f_X7_ownLast at hF
  obtain ⟨-, hF⟩ := gz_gd_some hF
  show gz_go C 0 0 M [(0, .ref a0), (1, .int a1), (2, .int a2)] 0 []
  refine gz_iconst 0 hC (-1 : Int32) dX7_ownLast_0 gz_km1 ?_
  refine gz_istore_n 1 hC [(3, .int (-1 : Int32)), (0, .ref a0), (1, .int a1), (2, .int a2)] dX7_ownLast_1 rfl (by decide) rfl ?_
  refine gz_ldc 2 hC dX7_ownLast_2 q_783 ?_
  refine gz_istore 4 hC [(4, .int (2147483647 : Int32)), (3, .int (-1 : Int32)), (0, .ref a0), (1, .int a1), (2, .int a2)] dX7_ownLast_4 (by decide) rfl ?_
  refine gz_iconst 6 hC (0 : Int32) dX7_ownLast_6 gz_k0 ?_
  refine gz_istore 7 hC [(5, .int (0 : Int32)), (4, .int (2147483647 : Int32)), (3, .int (-1 : Int32)), (0, .ref a0), (1, .int a1), (2, .int a2)] dX7_ownLast_7 (by decide) rfl ?_
  refine gz_sub [3, 4, 5, 2, 1, 0] [(0, .ref a0), (1, .int a1), (2, .int a2), (3, .int (-1 : Int32)), (4, .int (2147483647 : Int32)), (5, .int (0 : Int32))] rfl ?_
  refine w_X7_ownLast_9 hC hX ?_ _ _ _ _ hF
  intro x8 hF
  refine gz_iload_n 62 hC 0 dX7_ownLast_62 rfl rfl ?_
  exact gz_iretP 63 hC hX dX7_ownLast_63 hF

