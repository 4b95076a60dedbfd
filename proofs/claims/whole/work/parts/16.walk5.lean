theorem dX9_row_0 : decode cX9_row 0 = .ok (.iload_n 1, 1) := by decide +kernel
theorem dX9_row_1 : decode cX9_row 1 = .ok (.invokestatic 71, 3) := by decide +kernel
theorem dX9_row_4 : decode cX9_row 4 = .ok (.ifCond .eq 22, 3) := by decide +kernel
theorem dX9_row_7 : decode cX9_row 7 = .ok (.iload_n 2, 1) := by decide +kernel
theorem dX9_row_8 : decode cX9_row 8 = .ok (.iconst 0, 1) := by decide +kernel
theorem dX9_row_9 : decode cX9_row 9 = .ok (.iconst 4, 1) := by decide +kernel
theorem dX9_row_10 : decode cX9_row 10 = .ok (.invokestatic 75, 3) := by decide +kernel
theorem dX9_row_13 : decode cX9_row 13 = .ok (.ifCond .eq 13, 3) := by decide +kernel
theorem dX9_row_16 : decode cX9_row 16 = .ok (.iload_n 3, 1) := by decide +kernel
theorem dX9_row_17 : decode cX9_row 17 = .ok (.iconst 0, 1) := by decide +kernel
theorem dX9_row_18 : decode cX9_row 18 = .ok (.bipush 40, 2) := by decide +kernel
theorem dX9_row_20 : decode cX9_row 20 = .ok (.invokestatic 75, 3) := by decide +kernel
theorem dX9_row_23 : decode cX9_row 23 = .ok (.ifCond .ne 10, 3) := by decide +kernel
theorem dX9_row_26 : decode cX9_row 26 = .ok (.aload_n 0, 1) := by decide +kernel
theorem dX9_row_27 : decode cX9_row 27 = .ok (.bipush (-2), 2) := by decide +kernel
theorem dX9_row_29 : decode cX9_row 29 = .ok (.invokevirtual 79, 3) := by decide +kernel
theorem dX9_row_32 : decode cX9_row 32 = .ok (.ireturn, 1) := by decide +kernel
theorem dX9_row_33 : decode cX9_row 33 = .ok (.aload_n 0, 1) := by decide +kernel
theorem dX9_row_34 : decode cX9_row 34 = .ok (.getfield 27, 3) := by decide +kernel
theorem dX9_row_37 : decode cX9_row 37 = .ok (.iload_n 1, 1) := by decide +kernel
theorem dX9_row_38 : decode cX9_row 38 = .ok (.aaload, 1) := by decide +kernel
theorem dX9_row_39 : decode cX9_row 39 = .ok (.iload_n 2, 1) := by decide +kernel
theorem dX9_row_40 : decode cX9_row 40 = .ok (.iload_n 3, 1) := by decide +kernel
theorem dX9_row_41 : decode cX9_row 41 = .ok (.invokevirtual 83, 3) := by decide +kernel
theorem dX9_row_44 : decode cX9_row 44 = .ok (.iconst 1, 1) := by decide +kernel
theorem dX9_row_45 : decode cX9_row 45 = .ok (.ireturn, 1) := by decide +kernel

def f_X9_row (fu : Nat) (M : gz_M) (a0 : Nat) (a1 : Int32) (a2 : Int32) (a3 : Int32) : Option (Int32 × gz_M) :=
  gz_gd M 9 a0 <|
  (f_X9_isShelf fu M a1).bind fun x1 =>
  gz_jn (gz_b2 (f_X9_refuse fu M a0 (-2 : Int32)) fun x7 M8 =>
    some (x7, M8)) fun j26 =>
  if x1 = 0 then
    j26
  else
    (f_X9_isWithin fu M a2 (0 : Int32) (4 : Int32)).bind fun x2 =>
    if x2 = 0 then
      j26
    else
      (f_X9_isWithin fu M a3 (0 : Int32) (40 : Int32)).bind fun x3 =>
      if x3 = 0 then
        j26
      else
        (gz_gR M 9 2 a0).bind fun x4 =>
        (gz_aR M x4 a1).bind fun x5 =>
        (f_X4_becomeRow fu M x5 a2 a3).bind fun M6 =>
        some ((1 : Int32), M6)

set_option maxHeartbeats 4000000 in
theorem ct_X9_row (l : Launch) (G : gz_G) (fu : Nat) (M : gz_M) (a0 : Nat) (a1 : Int32) (a2 : Int32) (a3 : Int32) (y : Int32 × gz_M) (hF : f_X9_row fu M a0 a1 a2 a3 = some y) : gz_ct l yX9_row cX9_row 4 (some .int) 2 46 0 0 G [.ref a0, .int a1, .int a2, .int a3] M (some (.int y.1)) y.2 := by
  refine gz_ct.of (by decide) (Nat.le_of_ble_eq_true rfl) (fun C hC hX => ?_)
  unfold f_X9_row at hF
  obtain ⟨-, hF⟩ := gz_gd_some hF
  show gz_go C 0 0 M [(0, .ref a0), (1, .int a1), (2, .int a2), (3, .int a3)] 0 []
  refine gz_iload_n 0 hC 1 dX9_row_0 rfl rfl ?_
  refine gz_csP (st := []) 1 hC hX [.int a1] Value.int yl_X9_isShelf yv_X9_isShelf q_411 ⟨Nat.le_of_ble_eq_true rfl, Nat.le_of_ble_eq_true rfl⟩ (fun r h => ct_X9_isShelf _ _ fu M a1 r h) rfl rfl (Nat.le_of_ble_eq_true rfl) dX9_row_1 gz_00 hF (fun x1 hF => ?_)
  refine gz_join (fun (j : Option (Int32 × gz_M)) => j = some y → gz_go C 0 0 M [(0, .ref a0)] 26 []) hF (fun hF => ?_) (fun j26 hj26 hF => ?_)
  · skip
    refine gz_aload_n 26 hC 0 dX9_row_26 rfl rfl ?_
    refine gz_bipush 27 hC (-2 : Int32) dX9_row_27 gz_bm2 ?_
    refine gz_cvM (st := []) 29 hC hX [.int (-2 : Int32)] Value.int yl_X9_refuse yv_X9_refuse q_417 ⟨Nat.le_of_ble_eq_true rfl, Nat.le_of_ble_eq_true rfl⟩ ⟨_, rfl⟩ (fun r h => ct_X9_refuse _ _ fu M a0 (-2 : Int32) r h) rfl rfl (Nat.le_of_ble_eq_true rfl) dX9_row_29 gz_00 hF (fun x7 M8 hF => ?_)
    exact gz_iretM 32 hC hX dX9_row_32 hF
  refine gz_if_eq 4 26 hC dX9_row_4 (by decide) hF (fun hF => ?_) (fun hF => ?_)
  · skip
    refine gz_sub [0] [(0, .ref a0)] rfl ?_
    exact hj26 hF
  · skip
    refine gz_iload_n 7 hC 2 dX9_row_7 rfl rfl ?_
    refine gz_iconst 8 hC (0 : Int32) dX9_row_8 gz_k0 ?_
    refine gz_iconst 9 hC (4 : Int32) dX9_row_9 gz_k4 ?_
    refine gz_csP (st := []) 10 hC hX [.int a2, .int (0 : Int32), .int (4 : Int32)] Value.int yl_X9_isWithin yv_X9_isWithin q_414 ⟨Nat.le_of_ble_eq_true rfl, Nat.le_of_ble_eq_true rfl⟩ (fun r h => ct_X9_isWithin _ _ fu M a2 (0 : Int32) (4 : Int32) r h) rfl rfl (Nat.le_of_ble_eq_true rfl) dX9_row_10 gz_00 hF (fun x2 hF => ?_)
    refine gz_if_eq 13 26 hC dX9_row_13 (by decide) hF (fun hF => ?_) (fun hF => ?_)
    · skip
      refine gz_sub [0] [(0, .ref a0)] rfl ?_
      exact hj26 hF
    · skip
      refine gz_iload_n 16 hC 3 dX9_row_16 rfl rfl ?_
      refine gz_iconst 17 hC (0 : Int32) dX9_row_17 gz_k0 ?_
      refine gz_bipush 18 hC (40 : Int32) dX9_row_18 gz_b40 ?_
      refine gz_csP (st := []) 20 hC hX [.int a3, .int (0 : Int32), .int (40 : Int32)] Value.int yl_X9_isWithin yv_X9_isWithin q_414 ⟨Nat.le_of_ble_eq_true rfl, Nat.le_of_ble_eq_true rfl⟩ (fun r h => ct_X9_isWithin _ _ fu M a3 (0 : Int32) (40 : Int32) r h) rfl rfl (Nat.le_of_ble_eq_true rfl) dX9_row_20 gz_00 hF (fun x3 hF => ?_)
      refine gz_if_ne 23 33 hC dX9_row_23 (by decide) hF (fun hF => ?_) (fun hF => ?_)
      · skip
        refine gz_aload_n 33 hC 0 dX9_row_33 rfl rfl ?_
        refine gz_getR 34 hC fl_X9_27 fk_9_2 dX9_row_34 hF (fun x4 hF => ?_)
        refine gz_iload_n 37 hC 1 dX9_row_37 rfl rfl ?_
        refine gz_aald 38 hC dX9_row_38 hF (fun x5 hF => ?_)
        refine gz_iload_n 39 hC 2 dX9_row_39 rfl rfl ?_
        refine gz_iload_n 40 hC 3 dX9_row_40 rfl rfl ?_
        refine gz_cvV (st := []) 41 hC hX [.int a2, .int a3] yl_X4_becomeRow yv_X4_becomeRow q_421 ⟨Nat.le_of_ble_eq_true rfl, Nat.le_of_ble_eq_true rfl⟩ ⟨_, rfl⟩ (fun r h => ct_X4_becomeRow _ _ fu M x5 a2 a3 r h) rfl rfl (Nat.le_of_ble_eq_true rfl) dX9_row_41 gz_00 hF (fun M6 hF => ?_)
        refine gz_iconst 44 hC (1 : Int32) dX9_row_44 gz_k1 ?_
        exact gz_iretM 45 hC hX dX9_row_45 hF
      · skip
        refine gz_sub [0] [(0, .ref a0)] rfl ?_
        exact hj26 hF

theorem dX9_set_0 : decode cX9_set 0 = .ok (.iload_n 1, 1) := by decide +kernel
theorem dX9_set_1 : decode cX9_set 1 = .ok (.invokestatic 71, 3) := by decide +kernel
theorem dX9_set_4 : decode cX9_set 4 = .ok (.ifCond .ne 10, 3) := by decide +kernel
theorem dX9_set_7 : decode cX9_set 7 = .ok (.aload_n 0, 1) := by decide +kernel
theorem dX9_set_8 : decode cX9_set 8 = .ok (.bipush (-2), 2) := by decide +kernel
theorem dX9_set_10 : decode cX9_set 10 = .ok (.invokevirtual 79, 3) := by decide +kernel
theorem dX9_set_13 : decode cX9_set 13 = .ok (.ireturn, 1) := by decide +kernel
theorem dX9_set_14 : decode cX9_set 14 = .ok (.aload_n 0, 1) := by decide +kernel
theorem dX9_set_15 : decode cX9_set 15 = .ok (.getfield 27, 3) := by decide +kernel
theorem dX9_set_18 : decode cX9_set 18 = .ok (.iload_n 1, 1) := by decide +kernel
theorem dX9_set_19 : decode cX9_set 19 = .ok (.aaload, 1) := by decide +kernel
theorem dX9_set_20 : decode cX9_set 20 = .ok (.astore 5, 2) := by decide +kernel
theorem dX9_set_22 : decode cX9_set 22 = .ok (.aload 5, 2) := by decide +kernel
theorem dX9_set_24 : decode cX9_set 24 = .ok (.invokevirtual 87, 3) := by decide +kernel
theorem dX9_set_27 : decode cX9_set 27 = .ok (.ifCond .eq 13, 3) := by decide +kernel
theorem dX9_set_30 : decode cX9_set 30 = .ok (.aload_n 0, 1) := by decide +kernel
theorem dX9_set_31 : decode cX9_set 31 = .ok (.aload 5, 2) := by decide +kernel
theorem dX9_set_33 : decode cX9_set 33 = .ok (.invokevirtual 87, 3) := by decide +kernel
theorem dX9_set_36 : decode cX9_set 36 = .ok (.invokevirtual 79, 3) := by decide +kernel
theorem dX9_set_39 : decode cX9_set 39 = .ok (.ireturn, 1) := by decide +kernel
theorem dX9_set_40 : decode cX9_set 40 = .ok (.iload_n 2, 1) := by decide +kernel
theorem dX9_set_41 : decode cX9_set 41 = .ok (.iconst 0, 1) := by decide +kernel
theorem dX9_set_42 : decode cX9_set 42 = .ok (.aload 5, 2) := by decide +kernel
theorem dX9_set_44 : decode cX9_set 44 = .ok (.getfield 91, 3) := by decide +kernel
theorem dX9_set_47 : decode cX9_set 47 = .ok (.iconst 1, 1) := by decide +kernel
theorem dX9_set_48 : decode cX9_set 48 = .ok (.isub, 1) := by decide +kernel
theorem dX9_set_49 : decode cX9_set 49 = .ok (.invokestatic 75, 3) := by decide +kernel
theorem dX9_set_52 : decode cX9_set 52 = .ok (.ifCond .ne 10, 3) := by decide +kernel
theorem dX9_set_55 : decode cX9_set 55 = .ok (.aload_n 0, 1) := by decide +kernel
theorem dX9_set_56 : decode cX9_set 56 = .ok (.bipush (-2), 2) := by decide +kernel
theorem dX9_set_58 : decode cX9_set 58 = .ok (.invokevirtual 79, 3) := by decide +kernel
theorem dX9_set_61 : decode cX9_set 61 = .ok (.ireturn, 1) := by decide +kernel
theorem dX9_set_62 : decode cX9_set 62 = .ok (.aload 5, 2) := by decide +kernel
theorem dX9_set_64 : decode cX9_set 64 = .ok (.iload_n 2, 1) := by decide +kernel
theorem dX9_set_65 : decode cX9_set 65 = .ok (.lload_n 3, 1) := by decide +kernel
theorem dX9_set_66 : decode cX9_set 66 = .ok (.invokevirtual 95, 3) := by decide +kernel
theorem dX9_set_69 : decode cX9_set 69 = .ok (.iconst 1, 1) := by decide +kernel
theorem dX9_set_70 : decode cX9_set 70 = .ok (.ireturn, 1) := by decide +kernel

def f_X9_set (fu : Nat) (M : gz_M) (a0 : Nat) (a1 : Int32) (a2 : Int32) (a3 : Int64) : Option (Int32 × gz_M) :=
  gz_gd M 9 a0 <|
  (f_X9_isShelf fu M a1).bind fun x1 =>
  if x1 = 0 then
    gz_b2 (f_X9_refuse fu M a0 (-2 : Int32)) fun x2 M3 =>
    some (x2, M3)
  else
    (gz_gR M 9 2 a0).bind fun x4 =>
    (gz_aR M x4 a1).bind fun x5 =>
    (f_X4_rowRefusal fu M x5).bind fun x6 =>
    if x6 = 0 then
      (gz_gI M 4 2 x5).bind fun x10 =>
      (f_X9_isWithin fu M a2 (0 : Int32) (x10 - (1 : Int32))).bind fun x11 =>
      if x11 = 0 then
        gz_b2 (f_X9_refuse fu M a0 (-2 : Int32)) fun x12 M13 =>
        some (x12, M13)
      else
        (f_X4_put fu M x5 a2 a3).bind fun M14 =>
        some ((1 : Int32), M14)
    else
      (f_X4_rowRefusal fu M x5).bind fun x7 =>
      gz_b2 (f_X9_refuse fu M a0 x7) fun x8 M9 =>
      some (x8, M9)

set_option maxHeartbeats 4000000 in
theorem ct_X9_set (l : Launch) (G : gz_G) (fu : Nat) (M : gz_M) (a0 : Nat) (a1 : Int32) (a2 : Int32) (a3 : Int64) (y : Int32 × gz_M) (hF : f_X9_set fu M a0 a1 a2 a3 = some y) : gz_ct l yX9_set cX9_set 6 (some .int) 2 42 0 0 G [.ref a0, .int a1, .int a2, .long a3] M (some (.int y.1)) y.2 := by
  refine gz_ct.of (by decide) (Nat.le_of_ble_eq_true rfl) (fun C hC hX => ?_)
  unfold f_X9_set at hF
  obtain ⟨-, hF⟩ := gz_gd_some hF
  show gz_go C 0 0 M [(0, .ref a0), (1, .int a1), (2, .int a2), (3, .long a3)] 0 []
  refine gz_iload_n 0 hC 1 dX9_set_0 rfl rfl ?_
  refine gz_csP (st := []) 1 hC hX [.int a1] Value.int yl_X9_isShelf yv_X9_isShelf q_411 ⟨Nat.le_of_ble_eq_true rfl, Nat.le_of_ble_eq_true rfl⟩ (fun r h => ct_X9_isShelf _ _ fu M a1 r h) rfl rfl (Nat.le_of_ble_eq_true rfl) dX9_set_1 gz_00 hF (fun x1 hF => ?_)
  refine gz_if_ne 4 14 hC dX9_set_4 (by decide) hF (fun hF => ?_) (fun hF => ?_)
  · skip
    refine gz_aload_n 14 hC 0 dX9_set_14 rfl rfl ?_
    refine gz_getR 15 hC fl_X9_27 fk_9_2 dX9_set_15 hF (fun x4 hF => ?_)
    refine gz_iload_n 18 hC 1 dX9_set_18 rfl rfl ?_
    refine gz_aald 19 hC dX9_set_19 hF (fun x5 hF => ?_)
    refine gz_astore 20 hC [(5, .ref x5), (0, .ref a0), (1, .int a1), (2, .int a2), (3, .long a3)] dX9_set_20 (by decide) rfl ?_
    refine gz_aload 22 hC 0 dX9_set_22 rfl ?_
    refine gz_cvP (st := []) 24 hC hX [] Value.int yl_X4_rowRefusal yv_X4_rowRefusal q_432 ⟨Nat.le_of_ble_eq_true rfl, Nat.le_of_ble_eq_true rfl⟩ ⟨_, rfl⟩ (fun r h => ct_X4_rowRefusal _ _ fu M x5 r h) rfl rfl (Nat.le_of_ble_eq_true rfl) dX9_set_24 gz_00 hF (fun x6 hF => ?_)
    refine gz_if_eq 27 40 hC dX9_set_27 (by decide) hF (fun hF => ?_) (fun hF => ?_)
    · skip
      refine gz_iload_n 40 hC 3 dX9_set_40 rfl rfl ?_
      refine gz_iconst 41 hC (0 : Int32) dX9_set_41 gz_k0 ?_
      refine gz_aload 42 hC 0 dX9_set_42 rfl ?_
      refine gz_getI 44 hC fl_X9_91 fk_4_2 dX9_set_44 hF (fun x10 hF => ?_)
      refine gz_iconst 47 hC (1 : Int32) dX9_set_47 gz_k1 ?_
      refine gz_isub 48 hC dX9_set_48 ?_
      refine gz_csP (st := []) 49 hC hX [.int a2, .int (0 : Int32), .int (x10 - (1 : Int32))] Value.int yl_X9_isWithin yv_X9_isWithin q_414 ⟨Nat.le_of_ble_eq_true rfl, Nat.le_of_ble_eq_true rfl⟩ (fun r h => ct_X9_isWithin _ _ fu M a2 (0 : Int32) (x10 - (1 : Int32)) r h) rfl rfl (Nat.le_of_ble_eq_true rfl) dX9_set_49 gz_00 hF (fun x11 hF => ?_)
      refine gz_if_ne 52 62 hC dX9_set_52 (by decide) hF (fun hF => ?_) (fun hF => ?_)
      · skip
        refine gz_aload 62 hC 0 dX9_set_62 rfl ?_
        refine gz_iload_n 64 hC 3 dX9_set_64 rfl rfl ?_
        refine gz_lload_n 65 hC 4 dX9_set_65 rfl rfl ?_
        refine gz_cvV (st := []) 66 hC hX [.int a2, .long a3] yl_X4_put yv_X4_put q_444 ⟨Nat.le_of_ble_eq_true rfl, Nat.le_of_ble_eq_true rfl⟩ ⟨_, rfl⟩ (fun r h => ct_X4_put _ _ fu M x5 a2 a3 r h) rfl rfl (Nat.le_of_ble_eq_true rfl) dX9_set_66 gz_00 hF (fun M14 hF => ?_)
        refine gz_iconst 69 hC (1 : Int32) dX9_set_69 gz_k1 ?_
        exact gz_iretM 70 hC hX dX9_set_70 hF
      · skip
        refine gz_aload_n 55 hC 1 dX9_set_55 rfl rfl ?_
        refine gz_bipush 56 hC (-2 : Int32) dX9_set_56 gz_bm2 ?_
        refine gz_cvM (st := []) 58 hC hX [.int (-2 : Int32)] Value.int yl_X9_refuse yv_X9_refuse q_417 ⟨Nat.le_of_ble_eq_true rfl, Nat.le_of_ble_eq_true rfl⟩ ⟨_, rfl⟩ (fun r h => ct_X9_refuse _ _ fu M a0 (-2 : Int32) r h) rfl rfl (Nat.le_of_ble_eq_true rfl) dX9_set_58 gz_00 hF (fun x12 M13 hF => ?_)
        exact gz_iretM 61 hC hX dX9_set_61 hF
    · skip
      refine gz_aload_n 30 hC 1 dX9_set_30 rfl rfl ?_
      refine gz_aload 31 hC 0 dX9_set_31 rfl ?_
      refine gz_cvP (st := [.ref a0]) 33 hC hX [] Value.int yl_X4_rowRefusal yv_X4_rowRefusal q_432 ⟨Nat.le_of_ble_eq_true rfl, Nat.le_of_ble_eq_true rfl⟩ ⟨_, rfl⟩ (fun r h => ct_X4_rowRefusal _ _ fu M x5 r h) rfl rfl (Nat.le_of_ble_eq_true rfl) dX9_set_33 gz_00 hF (fun x7 hF => ?_)
      refine gz_cvM (st := []) 36 hC hX [.int x7] Value.int yl_X9_refuse yv_X9_refuse q_417 ⟨Nat.le_of_ble_eq_true rfl, Nat.le_of_ble_eq_true rfl⟩ ⟨_, rfl⟩ (fun r h => ct_X9_refuse _ _ fu M a0 x7 r h) rfl rfl (Nat.le_of_ble_eq_true rfl) dX9_set_36 gz_00 hF (fun x8 M9 hF => ?_)
      exact gz_iretM 39 hC hX dX9_set_39 hF
  · skip
    refine gz_aload_n 7 hC 0 dX9_set_7 rfl rfl ?_
    refine gz_bipush 8 hC (-2 : Int32) dX9_set_8 gz_bm2 ?_
    refine gz_cvM (st := []) 10 hC hX [.int (-2 : Int32)] Value.int yl_X9_refuse yv_X9_refuse q_417 ⟨Nat.le_of_ble_eq_true rfl, Nat.le_of_ble_eq_true rfl⟩ ⟨_, rfl⟩ (fun r h => ct_X9_refuse _ _ fu M a0 (-2 : Int32) r h) rfl rfl (Nat.le_of_ble_eq_true rfl) dX9_set_10 gz_00 hF (fun x2 M3 hF => ?_)
    exact gz_iretM 13 hC hX dX9_set_13 hF

theorem dX9_pairRefusal_0 : decode cX9_pairRefusal 0 = .ok (.aload_n 0, 1) := by decide +kernel
theorem dX9_pairRefusal_1 : decode cX9_pairRefusal 1 = .ok (.invokevirtual 128, 3) := by decide +kernel
theorem dX9_pairRefusal_4 : decode cX9_pairRefusal 4 = .ok (.ifCond .eq 25, 3) := by decide +kernel
theorem dX9_pairRefusal_7 : decode cX9_pairRefusal 7 = .ok (.aload_n 1, 1) := by decide +kernel
theorem dX9_pairRefusal_8 : decode cX9_pairRefusal 8 = .ok (.invokevirtual 128, 3) := by decide +kernel
theorem dX9_pairRefusal_11 : decode cX9_pairRefusal 11 = .ok (.ifCond .eq 18, 3) := by decide +kernel
theorem dX9_pairRefusal_14 : decode cX9_pairRefusal 14 = .ok (.aload_n 0, 1) := by decide +kernel
theorem dX9_pairRefusal_15 : decode cX9_pairRefusal 15 = .ok (.getfield 121, 3) := by decide +kernel
theorem dX9_pairRefusal_18 : decode cX9_pairRefusal 18 = .ok (.aload_n 1, 1) := by decide +kernel
theorem dX9_pairRefusal_19 : decode cX9_pairRefusal 19 = .ok (.getfield 121, 3) := by decide +kernel
theorem dX9_pairRefusal_22 : decode cX9_pairRefusal 22 = .ok (.if_icmp .eq 7, 3) := by decide +kernel
theorem dX9_pairRefusal_25 : decode cX9_pairRefusal 25 = .ok (.iconst 1, 1) := by decide +kernel
theorem dX9_pairRefusal_26 : decode cX9_pairRefusal 26 = .ok (.goto 4, 3) := by decide +kernel
theorem dX9_pairRefusal_29 : decode cX9_pairRefusal 29 = .ok (.iconst 0, 1) := by decide +kernel
theorem dX9_pairRefusal_30 : decode cX9_pairRefusal 30 = .ok (.istore_n 2, 1) := by decide +kernel
theorem dX9_pairRefusal_31 : decode cX9_pairRefusal 31 = .ok (.aload_n 0, 1) := by decide +kernel
theorem dX9_pairRefusal_32 : decode cX9_pairRefusal 32 = .ok (.invokevirtual 132, 3) := by decide +kernel
theorem dX9_pairRefusal_35 : decode cX9_pairRefusal 35 = .ok (.ifCond .ne 14, 3) := by decide +kernel
theorem dX9_pairRefusal_38 : decode cX9_pairRefusal 38 = .ok (.aload_n 1, 1) := by decide +kernel
theorem dX9_pairRefusal_39 : decode cX9_pairRefusal 39 = .ok (.invokevirtual 132, 3) := by decide +kernel
theorem dX9_pairRefusal_42 : decode cX9_pairRefusal 42 = .ok (.ifCond .ne 7, 3) := by decide +kernel
theorem dX9_pairRefusal_45 : decode cX9_pairRefusal 45 = .ok (.iload_n 2, 1) := by decide +kernel
theorem dX9_pairRefusal_46 : decode cX9_pairRefusal 46 = .ok (.ifCond .eq 6, 3) := by decide +kernel
theorem dX9_pairRefusal_49 : decode cX9_pairRefusal 49 = .ok (.bipush (-3), 2) := by decide +kernel
theorem dX9_pairRefusal_51 : decode cX9_pairRefusal 51 = .ok (.ireturn, 1) := by decide +kernel
theorem dX9_pairRefusal_52 : decode cX9_pairRefusal 52 = .ok (.aload_n 0, 1) := by decide +kernel
theorem dX9_pairRefusal_53 : decode cX9_pairRefusal 53 = .ok (.invokevirtual 138, 3) := by decide +kernel
theorem dX9_pairRefusal_56 : decode cX9_pairRefusal 56 = .ok (.ifCond .ne 10, 3) := by decide +kernel
theorem dX9_pairRefusal_59 : decode cX9_pairRefusal 59 = .ok (.aload_n 1, 1) := by decide +kernel
theorem dX9_pairRefusal_60 : decode cX9_pairRefusal 60 = .ok (.invokevirtual 138, 3) := by decide +kernel
theorem dX9_pairRefusal_63 : decode cX9_pairRefusal 63 = .ok (.ifCond .eq 8, 3) := by decide +kernel
theorem dX9_pairRefusal_66 : decode cX9_pairRefusal 66 = .ok (.bipush (-4), 2) := by decide +kernel
theorem dX9_pairRefusal_68 : decode cX9_pairRefusal 68 = .ok (.goto 4, 3) := by decide +kernel
theorem dX9_pairRefusal_71 : decode cX9_pairRefusal 71 = .ok (.iconst 0, 1) := by decide +kernel
theorem dX9_pairRefusal_72 : decode cX9_pairRefusal 72 = .ok (.ireturn, 1) := by decide +kernel

def f_X9_pairRefusal (fu : Nat) (M : gz_M) (a0 : Nat) (a1 : Nat) : Option (Int32) :=
  (f_X4_isRow fu M a0).bind fun x1 =>
  gz_jn (fun (x5 : Int32) =>
  (f_X4_isTool fu M a0).bind fun x6 =>
    gz_jn (some (-3 : Int32)) fun j49 =>
    if x6 = 0 then
      (f_X4_isTool fu M a1).bind fun x7 =>
      if x7 = 0 then
        if x5 = 0 then
          (f_X4_isFree fu M a0).bind fun x8 =>
          gz_jn (fun (x10 : Int32) =>
          some x10) fun j72 =>
          gz_jn (j72 (-4 : Int32)) fun j66 =>
          if x8 = 0 then
            (f_X4_isFree fu M a1).bind fun x9 =>
            if x9 = 0 then
              j72 (0 : Int32)
            else
              j66
          else
            j66
        else
          j49
      else
        j49
    else
      j49) fun j30 =>
  gz_jn (j30 (0 : Int32)) fun j29 =>
  if x1 = 0 then
    j29
  else
    (f_X4_isRow fu M a1).bind fun x2 =>
    if x2 = 0 then
      j29
    else
      (gz_gI M 4 1 a0).bind fun x3 =>
      (gz_gI M 4 1 a1).bind fun x4 =>
      if x3 = x4 then
        j29
      else
        j30 (1 : Int32)

set_option maxHeartbeats 4000000 in
theorem ct_X9_pairRefusal (l : Launch) (G : gz_G) (fu : Nat) (M : gz_M) (a0 : Nat) (a1 : Nat) (y : Int32) (hF : f_X9_pairRefusal fu M a0 a1 = some y) : gz_ct l yX9_pairRefusal cX9_pairRefusal 3 (some .int) 1 20 0 0 G [.ref a0, .ref a1] M (some (.int y)) M := by
  refine gz_ct.of (by decide) (Nat.le_of_ble_eq_true rfl) (fun C hC hX => ?_)
  unfold f_X9_pairRefusal at hF
  show gz_go C 0 0 M [(0, .ref a0), (1, .ref a1)] 0 []
  refine gz_aload_n 0 hC 0 dX9_pairRefusal_0 rfl rfl ?_
  refine gz_cvP (st := []) 1 hC hX [] Value.int yl_X4_isRow yv_X4_isRow q_455 ⟨Nat.le_of_ble_eq_true rfl, Nat.le_of_ble_eq_true rfl⟩ ⟨_, rfl⟩ (fun r h => ct_X4_isRow _ _ fu M a0 r h) rfl rfl (Nat.le_of_ble_eq_true rfl) dX9_pairRefusal_1 gz_00 hF (fun x1 hF => ?_)
  refine gz_join (fun (j : Int32 → Option (Int32)) => ∀ (x5 : Int32), j x5 = some y → gz_go C 0 0 M [(0, .ref a0), (1, .ref a1)] 30 [.int x5]) hF (fun x5 hF => ?_) (fun j30 hj30 hF => ?_)
  · skip
    refine gz_istore_n 30 hC [(2, .int x5), (0, .ref a0), (1, .ref a1)] dX9_pairRefusal_30 rfl (by decide) rfl ?_
    refine gz_aload_n 31 hC 1 dX9_pairRefusal_31 rfl rfl ?_
    refine gz_cvP (st := []) 32 hC hX [] Value.int yl_X4_isTool yv_X4_isTool q_459 ⟨Nat.le_of_ble_eq_true rfl, Nat.le_of_ble_eq_true rfl⟩ ⟨_, rfl⟩ (fun r h => ct_X4_isTool _ _ fu M a0 r h) rfl rfl (Nat.le_of_ble_eq_true rfl) dX9_pairRefusal_32 gz_00 hF (fun x6 hF => ?_)
    refine gz_join (fun (j : Option (Int32)) => j = some y → gz_go C 0 0 M [] 49 []) hF (fun hF => ?_) (fun j49 hj49 hF => ?_)
    · skip
      refine gz_bipush 49 hC (-3 : Int32) dX9_pairRefusal_49 gz_bm3 ?_
      exact gz_iretP 51 hC hX dX9_pairRefusal_51 hF
    refine gz_if_ne 35 49 hC dX9_pairRefusal_35 (by decide) hF (fun hF => ?_) (fun hF => ?_)
    · skip
      refine gz_sub [] [] rfl ?_
      exact hj49 hF
    · skip
      refine gz_aload_n 38 hC 2 dX9_pairRefusal_38 rfl rfl ?_
      refine gz_cvP (st := []) 39 hC hX [] Value.int yl_X4_isTool yv_X4_isTool q_459 ⟨Nat.le_of_ble_eq_true rfl, Nat.le_of_ble_eq_true rfl⟩ ⟨_, rfl⟩ (fun r h => ct_X4_isTool _ _ fu M a1 r h) rfl rfl (Nat.le_of_ble_eq_true rfl) dX9_pairRefusal_39 gz_00 hF (fun x7 hF => ?_)
      refine gz_if_ne 42 49 hC dX9_pairRefusal_42 (by decide) hF (fun hF => ?_) (fun hF => ?_)
      · skip
        refine gz_sub [] [] rfl ?_
        exact hj49 hF
      · skip
        refine gz_iload_n 45 hC 0 dX9_pairRefusal_45 rfl rfl ?_
        refine gz_if_eq 46 52 hC dX9_pairRefusal_46 (by decide) hF (fun hF => ?_) (fun hF => ?_)
        · skip
          refine gz_aload_n 52 hC 1 dX9_pairRefusal_52 rfl rfl ?_
          refine gz_cvP (st := []) 53 hC hX [] Value.int yl_X4_isFree yv_X4_isFree q_460 ⟨Nat.le_of_ble_eq_true rfl, Nat.le_of_ble_eq_true rfl⟩ ⟨_, rfl⟩ (fun r h => ct_X4_isFree _ _ fu M a0 r h) rfl rfl (Nat.le_of_ble_eq_true rfl) dX9_pairRefusal_53 gz_00 hF (fun x8 hF => ?_)
          refine gz_join (fun (j : Int32 → Option (Int32)) => ∀ (x10 : Int32), j x10 = some y → gz_go C 0 0 M [] 72 [.int x10]) hF (fun x10 hF => ?_) (fun j72 hj72 hF => ?_)
          · skip
            exact gz_iretP 72 hC hX dX9_pairRefusal_72 hF
          refine gz_join (fun (j : Option (Int32)) => j = some y → gz_go C 0 0 M [] 66 []) hF (fun hF => ?_) (fun j66 hj66 hF => ?_)
          · skip
            refine gz_bipush 66 hC (-4 : Int32) dX9_pairRefusal_66 gz_bm4 ?_
            refine gz_goto 68 72 hC dX9_pairRefusal_68 (by decide) ?_
            exact hj72 _ hF
          refine gz_if_ne 56 66 hC dX9_pairRefusal_56 (by decide) hF (fun hF => ?_) (fun hF => ?_)
          · skip
            refine gz_sub [] [] rfl ?_
            exact hj66 hF
          · skip
            refine gz_aload_n 59 hC 2 dX9_pairRefusal_59 rfl rfl ?_
            refine gz_cvP (st := []) 60 hC hX [] Value.int yl_X4_isFree yv_X4_isFree q_460 ⟨Nat.le_of_ble_eq_true rfl, Nat.le_of_ble_eq_true rfl⟩ ⟨_, rfl⟩ (fun r h => ct_X4_isFree _ _ fu M a1 r h) rfl rfl (Nat.le_of_ble_eq_true rfl) dX9_pairRefusal_60 gz_00 hF (fun x9 hF => ?_)
            refine gz_if_eq 63 71 hC dX9_pairRefusal_63 (by decide) hF (fun hF => ?_) (fun hF => ?_)
            · skip
              refine gz_iconst 71 hC (0 : Int32) dX9_pairRefusal_71 gz_k0 ?_
              refine gz_sub [] [] rfl ?_
              exact hj72 _ hF
            · skip
              refine gz_sub [] [] rfl ?_
              exact hj66 hF
        · skip
          refine gz_sub [] [] rfl ?_
          exact hj49 hF
  refine gz_join (fun (j : Option (Int32)) => j = some y → gz_go C 0 0 M [(0, .ref a0), (1, .ref a1)] 29 []) hF (fun hF => ?_) (fun j29 hj29 hF => ?_)
  · skip
    refine gz_iconst 29 hC (0 : Int32) dX9_pairRefusal_29 gz_k0 ?_
    exact hj30 _ hF
  refine gz_if_eq 4 29 hC dX9_pairRefusal_4 (by decide) hF (fun hF => ?_) (fun hF => ?_)
  · skip
    exact hj29 hF
  · skip
    refine gz_aload_n 7 hC 1 dX9_pairRefusal_7 rfl rfl ?_
    refine gz_cvP (st := []) 8 hC hX [] Value.int yl_X4_isRow yv_X4_isRow q_455 ⟨Nat.le_of_ble_eq_true rfl, Nat.le_of_ble_eq_true rfl⟩ ⟨_, rfl⟩ (fun r h => ct_X4_isRow _ _ fu M a1 r h) rfl rfl (Nat.le_of_ble_eq_true rfl) dX9_pairRefusal_8 gz_00 hF (fun x2 hF => ?_)
    refine gz_if_eq 11 29 hC dX9_pairRefusal_11 (by decide) hF (fun hF => ?_) (fun hF => ?_)
    · skip
      exact hj29 hF
    · skip
      refine gz_aload_n 14 hC 0 dX9_pairRefusal_14 rfl rfl ?_
      refine gz_getI 15 hC fl_X9_121 fk_4_1 dX9_pairRefusal_15 hF (fun x3 hF => ?_)
      refine gz_aload_n 18 hC 1 dX9_pairRefusal_18 rfl rfl ?_
      refine gz_getI 19 hC fl_X9_121 fk_4_1 dX9_pairRefusal_19 hF (fun x4 hF => ?_)
      refine gz_icmp_eq 22 29 hC dX9_pairRefusal_22 (by decide) hF (fun hF => ?_) (fun hF => ?_)
      · skip
        exact hj29 hF
      · skip
        refine gz_iconst 25 hC (1 : Int32) dX9_pairRefusal_25 gz_k1 ?_
        refine gz_goto 26 30 hC dX9_pairRefusal_26 (by decide) ?_
        exact hj30 _ hF

theorem dX9_copy_0 : decode cX9_copy 0 = .ok (.iload_n 1, 1) := by decide +kernel
theorem dX9_copy_1 : decode cX9_copy 1 = .ok (.invokestatic 71, 3) := by decide +kernel
theorem dX9_copy_4 : decode cX9_copy 4 = .ok (.ifCond .eq 10, 3) := by decide +kernel
theorem dX9_copy_7 : decode cX9_copy 7 = .ok (.iload_n 2, 1) := by decide +kernel
theorem dX9_copy_8 : decode cX9_copy 8 = .ok (.invokestatic 71, 3) := by decide +kernel
theorem dX9_copy_11 : decode cX9_copy 11 = .ok (.ifCond .ne 10, 3) := by decide +kernel
theorem dX9_copy_14 : decode cX9_copy 14 = .ok (.aload_n 0, 1) := by decide +kernel
theorem dX9_copy_15 : decode cX9_copy 15 = .ok (.bipush (-2), 2) := by decide +kernel
theorem dX9_copy_17 : decode cX9_copy 17 = .ok (.invokevirtual 79, 3) := by decide +kernel
theorem dX9_copy_20 : decode cX9_copy 20 = .ok (.ireturn, 1) := by decide +kernel
theorem dX9_copy_21 : decode cX9_copy 21 = .ok (.aload_n 0, 1) := by decide +kernel
theorem dX9_copy_22 : decode cX9_copy 22 = .ok (.getfield 27, 3) := by decide +kernel
theorem dX9_copy_25 : decode cX9_copy 25 = .ok (.iload_n 1, 1) := by decide +kernel
theorem dX9_copy_26 : decode cX9_copy 26 = .ok (.aaload, 1) := by decide +kernel
theorem dX9_copy_27 : decode cX9_copy 27 = .ok (.astore 6, 2) := by decide +kernel
theorem dX9_copy_29 : decode cX9_copy 29 = .ok (.aload_n 0, 1) := by decide +kernel
theorem dX9_copy_30 : decode cX9_copy 30 = .ok (.getfield 27, 3) := by decide +kernel
theorem dX9_copy_33 : decode cX9_copy 33 = .ok (.iload_n 2, 1) := by decide +kernel
theorem dX9_copy_34 : decode cX9_copy 34 = .ok (.aaload, 1) := by decide +kernel
theorem dX9_copy_35 : decode cX9_copy 35 = .ok (.astore 7, 2) := by decide +kernel
theorem dX9_copy_37 : decode cX9_copy 37 = .ok (.aload 6, 2) := by decide +kernel
theorem dX9_copy_39 : decode cX9_copy 39 = .ok (.aload 7, 2) := by decide +kernel
theorem dX9_copy_41 : decode cX9_copy 41 = .ok (.invokestatic 99, 3) := by decide +kernel
theorem dX9_copy_44 : decode cX9_copy 44 = .ok (.istore 8, 2) := by decide +kernel
theorem dX9_copy_46 : decode cX9_copy 46 = .ok (.iload 8, 2) := by decide +kernel
theorem dX9_copy_48 : decode cX9_copy 48 = .ok (.ifCond .eq 10, 3) := by decide +kernel
theorem dX9_copy_51 : decode cX9_copy 51 = .ok (.aload_n 0, 1) := by decide +kernel
theorem dX9_copy_52 : decode cX9_copy 52 = .ok (.iload 8, 2) := by decide +kernel
theorem dX9_copy_54 : decode cX9_copy 54 = .ok (.invokevirtual 79, 3) := by decide +kernel
theorem dX9_copy_57 : decode cX9_copy 57 = .ok (.ireturn, 1) := by decide +kernel
theorem dX9_copy_58 : decode cX9_copy 58 = .ok (.aload 6, 2) := by decide +kernel
theorem dX9_copy_60 : decode cX9_copy 60 = .ok (.iload_n 3, 1) := by decide +kernel
theorem dX9_copy_61 : decode cX9_copy 61 = .ok (.iload 5, 2) := by decide +kernel
theorem dX9_copy_63 : decode cX9_copy 63 = .ok (.invokevirtual 103, 3) := by decide +kernel
theorem dX9_copy_66 : decode cX9_copy 66 = .ok (.ifCond .eq 15, 3) := by decide +kernel
theorem dX9_copy_69 : decode cX9_copy 69 = .ok (.aload 7, 2) := by decide +kernel
theorem dX9_copy_71 : decode cX9_copy 71 = .ok (.iload 4, 2) := by decide +kernel
theorem dX9_copy_73 : decode cX9_copy 73 = .ok (.iload 5, 2) := by decide +kernel
theorem dX9_copy_75 : decode cX9_copy 75 = .ok (.invokevirtual 103, 3) := by decide +kernel
theorem dX9_copy_78 : decode cX9_copy 78 = .ok (.ifCond .ne 10, 3) := by decide +kernel
theorem dX9_copy_81 : decode cX9_copy 81 = .ok (.aload_n 0, 1) := by decide +kernel
theorem dX9_copy_82 : decode cX9_copy 82 = .ok (.bipush (-2), 2) := by decide +kernel
theorem dX9_copy_84 : decode cX9_copy 84 = .ok (.invokevirtual 79, 3) := by decide +kernel
theorem dX9_copy_87 : decode cX9_copy 87 = .ok (.ireturn, 1) := by decide +kernel
theorem dX9_copy_88 : decode cX9_copy 88 = .ok (.aload 6, 2) := by decide +kernel
theorem dX9_copy_90 : decode cX9_copy 90 = .ok (.getfield 107, 3) := by decide +kernel
theorem dX9_copy_93 : decode cX9_copy 93 = .ok (.iload_n 3, 1) := by decide +kernel
theorem dX9_copy_94 : decode cX9_copy 94 = .ok (.aload 7, 2) := by decide +kernel
theorem dX9_copy_96 : decode cX9_copy 96 = .ok (.getfield 107, 3) := by decide +kernel
theorem dX9_copy_99 : decode cX9_copy 99 = .ok (.iload 4, 2) := by decide +kernel
theorem dX9_copy_101 : decode cX9_copy 101 = .ok (.iload 5, 2) := by decide +kernel
theorem dX9_copy_103 : decode cX9_copy 103 = .ok (.invokestatic 111, 3) := by decide +kernel
theorem dX9_copy_106 : decode cX9_copy 106 = .ok (.iload 5, 2) := by decide +kernel
theorem dX9_copy_108 : decode cX9_copy 108 = .ok (.ireturn, 1) := by decide +kernel

def f_X9_copy (fu : Nat) (M : gz_M) (a0 : Nat) (a1 : Int32) (a2 : Int32) (a3 : Int32) (a4 : Int32) (a5 : Int32) : Option (Int32 × gz_M) :=
  gz_gd M 9 a0 <|
  (f_X9_isShelf fu M a1).bind fun x1 =>
  gz_jn (gz_b2 (f_X9_refuse fu M a0 (-2 : Int32)) fun x17 M18 =>
    some (x17, M18)) fun j14 =>
  if x1 = 0 then
    j14
  else
    (f_X9_isShelf fu M a2).bind fun x2 =>
    if x2 = 0 then
      j14
    else
      (gz_gR M 9 2 a0).bind fun x3 =>
      (gz_aR M x3 a1).bind fun x4 =>
      (gz_gR M 9 2 a0).bind fun x5 =>
      (gz_aR M x5 a2).bind fun x6 =>
      (f_X9_pairRefusal fu M x4 x6).bind fun x7 =>
      if x7 = 0 then
        (f_X4_hasSpan fu M x4 a3 a5).bind fun x10 =>
        gz_jn (gz_b2 (f_X9_refuse fu M a0 (-2 : Int32)) fun x15 M16 =>
          some (x15, M16)) fun j81 =>
        if x10 = 0 then
          j81
        else
          (f_X4_hasSpan fu M x6 a4 a5).bind fun x11 =>
          if x11 = 0 then
            j81
          else
            (gz_gR M 4 0 x4).bind fun x12 =>
            (gz_gR M 4 0 x6).bind fun x13 =>
            (gz_cpL M x12 a3 x13 a4 a5).bind fun M14 =>
            some (a5, M14)
      else
        gz_b2 (f_X9_refuse fu M a0 x7) fun x8 M9 =>
        some (x8, M9)

set_option maxHeartbeats 4000000 in
theorem ct_X9_copy (l : Launch) (G : gz_G) (fu : Nat) (M : gz_M) (a0 : Nat) (a1 : Int32) (a2 : Int32) (a3 : Int32) (a4 : Int32) (a5 : Int32) (y : Int32 × gz_M) (hF : f_X9_copy fu M a0 a1 a2 a3 a4 a5 = some y) : gz_ct l yX9_copy cX9_copy 9 (some .int) 2 42 0 0 G [.ref a0, .int a1, .int a2, .int a3, .int a4, .int a5] M (some (.int y.1)) y.2 := by
  refine gz_ct.of (by decide) (Nat.le_of_ble_eq_true rfl) (fun C hC hX => ?_)
  unfold f_X9_copy at hF
  obtain ⟨-, hF⟩ := gz_gd_some hF
  show gz_go C 0 0 M [(0, .ref a0), (1, .int a1), (2, .int a2), (3, .int a3), (4, .int a4), (5, .int a5)] 0 []
  refine gz_iload_n 0 hC 1 dX9_copy_0 rfl rfl ?_
  refine gz_csP (st := []) 1 hC hX [.int a1] Value.int yl_X9_isShelf yv_X9_isShelf q_411 ⟨Nat.le_of_ble_eq_true rfl, Nat.le_of_ble_eq_true rfl⟩ (fun r h => ct_X9_isShelf _ _ fu M a1 r h) rfl rfl (Nat.le_of_ble_eq_true rfl) dX9_copy_1 gz_00 hF (fun x1 hF => ?_)
  refine gz_join (fun (j : Option (Int32 × gz_M)) => j = some y → gz_go C 0 0 M [(0, .ref a0)] 14 []) hF (fun hF => ?_) (fun j14 hj14 hF => ?_)
  · skip
    refine gz_aload_n 14 hC 0 dX9_copy_14 rfl rfl ?_
    refine gz_bipush 15 hC (-2 : Int32) dX9_copy_15 gz_bm2 ?_
    refine gz_cvM (st := []) 17 hC hX [.int (-2 : Int32)] Value.int yl_X9_refuse yv_X9_refuse q_417 ⟨Nat.le_of_ble_eq_true rfl, Nat.le_of_ble_eq_true rfl⟩ ⟨_, rfl⟩ (fun r h => ct_X9_refuse _ _ fu M a0 (-2 : Int32) r h) rfl rfl (Nat.le_of_ble_eq_true rfl) dX9_copy_17 gz_00 hF (fun x17 M18 hF => ?_)
    exact gz_iretM 20 hC hX dX9_copy_20 hF
  refine gz_if_eq 4 14 hC dX9_copy_4 (by decide) hF (fun hF => ?_) (fun hF => ?_)
  · skip
    refine gz_sub [0] [(0, .ref a0)] rfl ?_
    exact hj14 hF
  · skip
    refine gz_iload_n 7 hC 2 dX9_copy_7 rfl rfl ?_
    refine gz_csP (st := []) 8 hC hX [.int a2] Value.int yl_X9_isShelf yv_X9_isShelf q_411 ⟨Nat.le_of_ble_eq_true rfl, Nat.le_of_ble_eq_true rfl⟩ (fun r h => ct_X9_isShelf _ _ fu M a2 r h) rfl rfl (Nat.le_of_ble_eq_true rfl) dX9_copy_8 gz_00 hF (fun x2 hF => ?_)
    refine gz_if_ne 11 21 hC dX9_copy_11 (by decide) hF (fun hF => ?_) (fun hF => ?_)
    · skip
      refine gz_aload_n 21 hC 0 dX9_copy_21 rfl rfl ?_
      refine gz_getR 22 hC fl_X9_27 fk_9_2 dX9_copy_22 hF (fun x3 hF => ?_)
      refine gz_iload_n 25 hC 1 dX9_copy_25 rfl rfl ?_
      refine gz_aald 26 hC dX9_copy_26 hF (fun x4 hF => ?_)
      refine gz_astore 27 hC [(6, .ref x4), (0, .ref a0), (1, .int a1), (2, .int a2), (3, .int a3), (4, .int a4), (5, .int a5)] dX9_copy_27 (by decide) rfl ?_
      refine gz_aload_n 29 hC 1 dX9_copy_29 rfl rfl ?_
      refine gz_getR 30 hC fl_X9_27 fk_9_2 dX9_copy_30 hF (fun x5 hF => ?_)
      refine gz_iload_n 33 hC 3 dX9_copy_33 rfl rfl ?_
      refine gz_aald 34 hC dX9_copy_34 hF (fun x6 hF => ?_)
      refine gz_astore 35 hC [(7, .ref x6), (6, .ref x4), (0, .ref a0), (1, .int a1), (2, .int a2), (3, .int a3), (4, .int a4), (5, .int a5)] dX9_copy_35 (by decide) rfl ?_
      refine gz_aload 37 hC 1 dX9_copy_37 rfl ?_
      refine gz_aload 39 hC 0 dX9_copy_39 rfl ?_
      refine gz_csP (st := []) 41 hC hX [.ref x4, .ref x6] Value.int yl_X9_pairRefusal yv_X9_pairRefusal q_452 ⟨Nat.le_of_ble_eq_true rfl, Nat.le_of_ble_eq_true rfl⟩ (fun r h => ct_X9_pairRefusal _ _ fu M x4 x6 r h) rfl rfl (Nat.le_of_ble_eq_true rfl) dX9_copy_41 gz_00 hF (fun x7 hF => ?_)
      refine gz_istore 44 hC [(8, .int x7), (7, .ref x6), (6, .ref x4), (0, .ref a0), (1, .int a1), (2, .int a2), (3, .int a3), (4, .int a4), (5, .int a5)] dX9_copy_44 (by decide) rfl ?_
      refine gz_iload 46 hC 0 dX9_copy_46 rfl ?_
      refine gz_if_eq 48 58 hC dX9_copy_48 (by decide) hF (fun hF => ?_) (fun hF => ?_)
      · skip
        refine gz_aload 58 hC 2 dX9_copy_58 rfl ?_
        refine gz_iload_n 60 hC 6 dX9_copy_60 rfl rfl ?_
        refine gz_iload 61 hC 8 dX9_copy_61 rfl ?_
        refine gz_cvP (st := []) 63 hC hX [.int a3, .int a5] Value.int yl_X4_hasSpan yv_X4_hasSpan q_461 ⟨Nat.le_of_ble_eq_true rfl, Nat.le_of_ble_eq_true rfl⟩ ⟨_, rfl⟩ (fun r h => ct_X4_hasSpan _ _ fu M x4 a3 a5 r h) rfl rfl (Nat.le_of_ble_eq_true rfl) dX9_copy_63 gz_00 hF (fun x10 hF => ?_)
        refine gz_join (fun (j : Option (Int32 × gz_M)) => j = some y → gz_go C 0 0 M [(0, .ref a0)] 81 []) hF (fun hF => ?_) (fun j81 hj81 hF => ?_)
        · skip
          refine gz_aload_n 81 hC 0 dX9_copy_81 rfl rfl ?_
          refine gz_bipush 82 hC (-2 : Int32) dX9_copy_82 gz_bm2 ?_
          refine gz_cvM (st := []) 84 hC hX [.int (-2 : Int32)] Value.int yl_X9_refuse yv_X9_refuse q_417 ⟨Nat.le_of_ble_eq_true rfl, Nat.le_of_ble_eq_true rfl⟩ ⟨_, rfl⟩ (fun r h => ct_X9_refuse _ _ fu M a0 (-2 : Int32) r h) rfl rfl (Nat.le_of_ble_eq_true rfl) dX9_copy_84 gz_00 hF (fun x15 M16 hF => ?_)
          exact gz_iretM 87 hC hX dX9_copy_87 hF
        refine gz_if_eq 66 81 hC dX9_copy_66 (by decide) hF (fun hF => ?_) (fun hF => ?_)
        · skip
          refine gz_sub [3] [(0, .ref a0)] rfl ?_
          exact hj81 hF
        · skip
          refine gz_aload 69 hC 1 dX9_copy_69 rfl ?_
          refine gz_iload 71 hC 7 dX9_copy_71 rfl ?_
          refine gz_iload 73 hC 8 dX9_copy_73 rfl ?_
          refine gz_cvP (st := []) 75 hC hX [.int a4, .int a5] Value.int yl_X4_hasSpan yv_X4_hasSpan q_461 ⟨Nat.le_of_ble_eq_true rfl, Nat.le_of_ble_eq_true rfl⟩ ⟨_, rfl⟩ (fun r h => ct_X4_hasSpan _ _ fu M x6 a4 a5 r h) rfl rfl (Nat.le_of_ble_eq_true rfl) dX9_copy_75 gz_00 hF (fun x11 hF => ?_)
          refine gz_if_ne 78 88 hC dX9_copy_78 (by decide) hF (fun hF => ?_) (fun hF => ?_)
          · skip
            refine gz_aload 88 hC 2 dX9_copy_88 rfl ?_
            refine gz_getR 90 hC fl_X9_107 fk_4_0 dX9_copy_90 hF (fun x12 hF => ?_)
            refine gz_iload_n 93 hC 6 dX9_copy_93 rfl rfl ?_
            refine gz_aload 94 hC 1 dX9_copy_94 rfl ?_
            refine gz_getR 96 hC fl_X9_107 fk_4_0 dX9_copy_96 hF (fun x13 hF => ?_)
            refine gz_iload 99 hC 7 dX9_copy_99 rfl ?_
            refine gz_iload 101 hC 8 dX9_copy_101 rfl ?_
            refine gz_acpL 103 hC hX q_465 ⟨Nat.le_of_ble_eq_true rfl, Nat.le_of_ble_eq_true rfl⟩ dX9_copy_103 hF (fun M14 hF => ?_)
            refine gz_iload 106 hC 8 dX9_copy_106 rfl ?_
            exact gz_iretM 108 hC hX dX9_copy_108 hF
          · skip
            refine gz_sub [3] [(0, .ref a0)] rfl ?_
            exact hj81 hF
      · skip
        refine gz_aload_n 51 hC 3 dX9_copy_51 rfl rfl ?_
        refine gz_iload 52 hC 0 dX9_copy_52 rfl ?_
        refine gz_cvM (st := []) 54 hC hX [.int x7] Value.int yl_X9_refuse yv_X9_refuse q_417 ⟨Nat.le_of_ble_eq_true rfl, Nat.le_of_ble_eq_true rfl⟩ ⟨_, rfl⟩ (fun r h => ct_X9_refuse _ _ fu M a0 x7 r h) rfl rfl (Nat.le_of_ble_eq_true rfl) dX9_copy_54 gz_00 hF (fun x8 M9 hF => ?_)
        exact gz_iretM 57 hC hX dX9_copy_57 hF
    · skip
      refine gz_sub [0] [(0, .ref a0)] rfl ?_
      exact hj14 hF

theorem dX9_element_0 : decode cX9_element 0 = .ok (.iload_n 1, 1) := by decide +kernel
theorem dX9_element_1 : decode cX9_element 1 = .ok (.invokestatic 71, 3) := by decide +kernel
theorem dX9_element_4 : decode cX9_element 4 = .ok (.ifCond .ne 5, 3) := by decide +kernel
theorem dX9_element_7 : decode cX9_element 7 = .ok (.lconst 0, 1) := by decide +kernel
theorem dX9_element_8 : decode cX9_element 8 = .ok (.lreturn, 1) := by decide +kernel
theorem dX9_element_9 : decode cX9_element 9 = .ok (.aload_n 0, 1) := by decide +kernel
theorem dX9_element_10 : decode cX9_element 10 = .ok (.getfield 27, 3) := by decide +kernel
theorem dX9_element_13 : decode cX9_element 13 = .ok (.iload_n 1, 1) := by decide +kernel
theorem dX9_element_14 : decode cX9_element 14 = .ok (.aaload, 1) := by decide +kernel
theorem dX9_element_15 : decode cX9_element 15 = .ok (.iload_n 2, 1) := by decide +kernel
theorem dX9_element_16 : decode cX9_element 16 = .ok (.invokevirtual 117, 3) := by decide +kernel
theorem dX9_element_19 : decode cX9_element 19 = .ok (.lreturn, 1) := by decide +kernel

def f_X9_element (fu : Nat) (M : gz_M) (a0 : Nat) (a1 : Int32) (a2 : Int32) : Option (Int64) :=
  gz_gd M 9 a0 <|
  (f_X9_isShelf fu M a1).bind fun x1 =>
  if x1 = 0 then
    some (0 : Int64)
  else
    (gz_gR M 9 2 a0).bind fun x2 =>
    (gz_aR M x2 a1).bind fun x3 =>
    (f_X4_elementOrZero fu M x3 a2).bind fun x4 =>
    some x4

set_option maxHeartbeats 4000000 in
theorem ct_X9_element (l : Launch) (G : gz_G) (fu : Nat) (M : gz_M) (a0 : Nat) (a1 : Int32) (a2 : Int32) (y : Int64) (hF : f_X9_element fu M a0 a1 a2 = some y) : gz_ct l yX9_element cX9_element 3 (some .long) 2 42 0 0 G [.ref a0, .int a1, .int a2] M (some (.long y)) M := by
  refine gz_ct.of (by decide) (Nat.le_of_ble_eq_true rfl) (fun C hC hX => ?_)
  unfold f_X9_element at hF
  obtain ⟨-, hF⟩ := gz_gd_some hF
  show gz_go C 0 0 M [(0, .ref a0), (1, .int a1), (2, .int a2)] 0 []
  refine gz_iload_n 0 hC 1 dX9_element_0 rfl rfl ?_
  refine gz_csP (st := []) 1 hC hX [.int a1] Value.int yl_X9_isShelf yv_X9_isShelf q_411 ⟨Nat.le_of_ble_eq_true rfl, Nat.le_of_ble_eq_true rfl⟩ (fun r h => ct_X9_isShelf _ _ fu M a1 r h) rfl rfl (Nat.le_of_ble_eq_true rfl) dX9_element_1 gz_00 hF (fun x1 hF => ?_)
  refine gz_if_ne 4 9 hC dX9_element_4 (by decide) hF (fun hF => ?_) (fun hF => ?_)
  · skip
    refine gz_aload_n 9 hC 0 dX9_element_9 rfl rfl ?_
    refine gz_getR 10 hC fl_X9_27 fk_9_2 dX9_element_10 hF (fun x2 hF => ?_)
    refine gz_iload_n 13 hC 1 dX9_element_13 rfl rfl ?_
    refine gz_aald 14 hC dX9_element_14 hF (fun x3 hF => ?_)
    refine gz_iload_n 15 hC 2 dX9_element_15 rfl rfl ?_
    refine gz_cvP (st := []) 16 hC hX [.int a2] Value.long yl_X4_elementOrZero yv_X4_elementOrZero q_472 ⟨Nat.le_of_ble_eq_true rfl, Nat.le_of_ble_eq_true rfl⟩ ⟨_, rfl⟩ (fun r h => ct_X4_elementOrZero _ _ fu M x3 a2 r h) rfl rfl (Nat.le_of_ble_eq_true rfl) dX9_element_16 gz_00 hF (fun x4 hF => ?_)
    exact gz_lretP 19 hC hX dX9_element_19 hF
  · skip
    refine gz_lconst 7 hC (0 : Int64) dX9_element_7 gz_l0 ?_
    exact gz_lretP 8 hC hX dX9_element_8 hF

theorem dX9_holds_0 : decode cX9_holds 0 = .ok (.iload_n 1, 1) := by decide +kernel
theorem dX9_holds_1 : decode cX9_holds 1 = .ok (.invokestatic 71, 3) := by decide +kernel
theorem dX9_holds_4 : decode cX9_holds 4 = .ok (.ifCond .eq 15, 3) := by decide +kernel
theorem dX9_holds_7 : decode cX9_holds 7 = .ok (.aload_n 0, 1) := by decide +kernel
theorem dX9_holds_8 : decode cX9_holds 8 = .ok (.getfield 27, 3) := by decide +kernel
theorem dX9_holds_11 : decode cX9_holds 11 = .ok (.iload_n 1, 1) := by decide +kernel
theorem dX9_holds_12 : decode cX9_holds 12 = .ok (.aaload, 1) := by decide +kernel
theorem dX9_holds_13 : decode cX9_holds 13 = .ok (.getfield 121, 3) := by decide +kernel
theorem dX9_holds_16 : decode cX9_holds 16 = .ok (.goto 4, 3) := by decide +kernel
theorem dX9_holds_19 : decode cX9_holds 19 = .ok (.iconst (-1), 1) := by decide +kernel
theorem dX9_holds_20 : decode cX9_holds 20 = .ok (.ireturn, 1) := by decide +kernel

def f_X9_holds (fu : Nat) (M : gz_M) (a0 : Nat) (a1 : Int32) : Option (Int32) :=
  gz_gd M 9 a0 <|
  (f_X9_isShelf fu M a1).bind fun x1 =>
  gz_jn (fun (x5 : Int32) =>
  some x5) fun j20 =>
  if x1 = 0 then
    j20 (-1 : Int32)
  else
    (gz_gR M 9 2 a0).bind fun x2 =>
    (gz_aR M x2 a1).bind fun x3 =>
    (gz_gI M 4 1 x3).bind fun x4 =>
    j20 x4

set_option maxHeartbeats 4000000 in
theorem ct_X9_holds (l : Launch) (G : gz_G) (fu : Nat) (M : gz_M) (a0 : Nat) (a1 : Int32) (y : Int32) (hF : f_X9_holds fu M a0 a1 = some y) : gz_ct l yX9_holds cX9_holds 2 (some .int) 2 42 0 0 G [.ref a0, .int a1] M (some (.int y)) M := by
  refine gz_ct.of (by decide) (Nat.le_of_ble_eq_true rfl) (fun C hC hX => ?_)
  unfold f_X9_holds at hF
  obtain ⟨-, hF⟩ := gz_gd_some hF
  show gz_go C 0 0 M [(0, .ref a0), (1, .int a1)] 0 []
  refine gz_iload_n 0 hC 1 dX9_holds_0 rfl rfl ?_
  refine gz_csP (st := []) 1 hC hX [.int a1] Value.int yl_X9_isShelf yv_X9_isShelf q_411 ⟨Nat.le_of_ble_eq_true rfl, Nat.le_of_ble_eq_true rfl⟩ (fun r h => ct_X9_isShelf _ _ fu M a1 r h) rfl rfl (Nat.le_of_ble_eq_true rfl) dX9_holds_1 gz_00 hF (fun x1 hF => ?_)
  refine gz_join (fun (j : Int32 → Option (Int32)) => ∀ (x5 : Int32), j x5 = some y → gz_go C 0 0 M [] 20 [.int x5]) hF (fun x5 hF => ?_) (fun j20 hj20 hF => ?_)
  · skip
    exact gz_iretP 20 hC hX dX9_holds_20 hF
  refine gz_if_eq 4 19 hC dX9_holds_4 (by decide) hF (fun hF => ?_) (fun hF => ?_)
  · skip
    refine gz_iconst 19 hC (-1 : Int32) dX9_holds_19 gz_km1 ?_
    refine gz_sub [] [] rfl ?_
    exact hj20 _ hF
  · skip
    refine gz_aload_n 7 hC 0 dX9_holds_7 rfl rfl ?_
    refine gz_getR 8 hC fl_X9_27 fk_9_2 dX9_holds_8 hF (fun x2 hF => ?_)
    refine gz_iload_n 11 hC 1 dX9_holds_11 rfl rfl ?_
    refine gz_aald 12 hC dX9_holds_12 hF (fun x3 hF => ?_)
    refine gz_getI 13 hC fl_X9_121 fk_4_1 dX9_holds_13 hF (fun x4 hF => ?_)
    refine gz_goto 16 20 hC dX9_holds_16 (by decide) ?_
    refine gz_sub [] [] rfl ?_
    exact hj20 _ hF

theorem dX9_tool_0 : decode cX9_tool 0 = .ok (.iload_n 1, 1) := by decide +kernel
theorem dX9_tool_1 : decode cX9_tool 1 = .ok (.invokestatic 71, 3) := by decide +kernel
theorem dX9_tool_4 : decode cX9_tool 4 = .ok (.ifCond .eq 33, 3) := by decide +kernel
theorem dX9_tool_7 : decode cX9_tool 7 = .ok (.iload_n 2, 1) := by decide +kernel
theorem dX9_tool_8 : decode cX9_tool 8 = .ok (.iconst 1, 1) := by decide +kernel
theorem dX9_tool_9 : decode cX9_tool 9 = .ok (.iconst 5, 1) := by decide +kernel
theorem dX9_tool_10 : decode cX9_tool 10 = .ok (.invokestatic 75, 3) := by decide +kernel
theorem dX9_tool_13 : decode cX9_tool 13 = .ok (.ifCond .eq 24, 3) := by decide +kernel
theorem dX9_tool_16 : decode cX9_tool 16 = .ok (.iload_n 3, 1) := by decide +kernel
theorem dX9_tool_17 : decode cX9_tool 17 = .ok (.iconst 0, 1) := by decide +kernel
theorem dX9_tool_18 : decode cX9_tool 18 = .ok (.bipush 9, 2) := by decide +kernel
theorem dX9_tool_20 : decode cX9_tool 20 = .ok (.invokestatic 75, 3) := by decide +kernel
theorem dX9_tool_23 : decode cX9_tool 23 = .ok (.ifCond .eq 14, 3) := by decide +kernel
theorem dX9_tool_26 : decode cX9_tool 26 = .ok (.iload 4, 2) := by decide +kernel
theorem dX9_tool_28 : decode cX9_tool 28 = .ok (.iconst 0, 1) := by decide +kernel
theorem dX9_tool_29 : decode cX9_tool 29 = .ok (.bipush 30, 2) := by decide +kernel
theorem dX9_tool_31 : decode cX9_tool 31 = .ok (.invokestatic 75, 3) := by decide +kernel
theorem dX9_tool_34 : decode cX9_tool 34 = .ok (.ifCond .ne 10, 3) := by decide +kernel
theorem dX9_tool_37 : decode cX9_tool 37 = .ok (.aload_n 0, 1) := by decide +kernel
theorem dX9_tool_38 : decode cX9_tool 38 = .ok (.bipush (-2), 2) := by decide +kernel
theorem dX9_tool_40 : decode cX9_tool 40 = .ok (.invokevirtual 79, 3) := by decide +kernel
theorem dX9_tool_43 : decode cX9_tool 43 = .ok (.ireturn, 1) := by decide +kernel
theorem dX9_tool_44 : decode cX9_tool 44 = .ok (.aload_n 0, 1) := by decide +kernel
theorem dX9_tool_45 : decode cX9_tool 45 = .ok (.getfield 27, 3) := by decide +kernel
theorem dX9_tool_48 : decode cX9_tool 48 = .ok (.iload_n 1, 1) := by decide +kernel
theorem dX9_tool_49 : decode cX9_tool 49 = .ok (.aaload, 1) := by decide +kernel
theorem dX9_tool_50 : decode cX9_tool 50 = .ok (.iload_n 2, 1) := by decide +kernel
theorem dX9_tool_51 : decode cX9_tool 51 = .ok (.iload_n 3, 1) := by decide +kernel
theorem dX9_tool_52 : decode cX9_tool 52 = .ok (.iload 4, 2) := by decide +kernel
theorem dX9_tool_54 : decode cX9_tool 54 = .ok (.invokevirtual 124, 3) := by decide +kernel
theorem dX9_tool_57 : decode cX9_tool 57 = .ok (.iconst 1, 1) := by decide +kernel
theorem dX9_tool_58 : decode cX9_tool 58 = .ok (.ireturn, 1) := by decide +kernel

def f_X9_tool (fu : Nat) (M : gz_M) (a0 : Nat) (a1 : Int32) (a2 : Int32) (a3 : Int32) (a4 : Int32) : Option (Int32 × gz_M) :=
  gz_gd M 9 a0 <|
  (f_X9_isShelf fu M a1).bind fun x1 =>
  gz_jn (gz_b2 (f_X9_refuse fu M a0 (-2 : Int32)) fun x8 M9 =>
    some (x8, M9)) fun j37 =>
  if x1 = 0 then
    j37
  else
    (f_X9_isWithin fu M a2 (1 : Int32) (5 : Int32)).bind fun x2 =>
    if x2 = 0 then
      j37
    else
      (f_X9_isWithin fu M a3 (0 : Int32) (9 : Int32)).bind fun x3 =>
      if x3 = 0 then
        j37
      else
        (f_X9_isWithin fu M a4 (0 : Int32) (30 : Int32)).bind fun x4 =>
        if x4 = 0 then
          j37
        else
          (gz_gR M 9 2 a0).bind fun x5 =>
          (gz_aR M x5 a1).bind fun x6 =>
          (f_X4_becomeTool fu M x6 a2 a3 a4).bind fun M7 =>
          some ((1 : Int32), M7)

set_option maxHeartbeats 4000000 in
theorem ct_X9_tool (l : Launch) (G : gz_G) (fu : Nat) (M : gz_M) (a0 : Nat) (a1 : Int32) (a2 : Int32) (a3 : Int32) (a4 : Int32) (y : Int32 × gz_M) (hF : f_X9_tool fu M a0 a1 a2 a3 a4 = some y) : gz_ct l yX9_tool cX9_tool 5 (some .int) 2 42 0 0 G [.ref a0, .int a1, .int a2, .int a3, .int a4] M (some (.int y.1)) y.2 := by
  refine gz_ct.of (by decide) (Nat.le_of_ble_eq_true rfl) (fun C hC hX => ?_)
  unfold f_X9_tool at hF
  obtain ⟨-, hF⟩ := gz_gd_some hF
  show gz_go C 0 0 M [(0, .ref a0), (1, .int a1), (2, .int a2), (3, .int a3), (4, .int a4)] 0 []
  refine gz_iload_n 0 hC 1 dX9_tool_0 rfl rfl ?_
  refine gz_csP (st := []) 1 hC hX [.int a1] Value.int yl_X9_isShelf yv_X9_isShelf q_411 ⟨Nat.le_of_ble_eq_true rfl, Nat.le_of_ble_eq_true rfl⟩ (fun r h => ct_X9_isShelf _ _ fu M a1 r h) rfl rfl (Nat.le_of_ble_eq_true rfl) dX9_tool_1 gz_00 hF (fun x1 hF => ?_)
  refine gz_join (fun (j : Option (Int32 × gz_M)) => j = some y → gz_go C 0 0 M [(0, .ref a0)] 37 []) hF (fun hF => ?_) (fun j37 hj37 hF => ?_)
  · skip
    refine gz_aload_n 37 hC 0 dX9_tool_37 rfl rfl ?_
    refine gz_bipush 38 hC (-2 : Int32) dX9_tool_38 gz_bm2 ?_
    refine gz_cvM (st := []) 40 hC hX [.int (-2 : Int32)] Value.int yl_X9_refuse yv_X9_refuse q_417 ⟨Nat.le_of_ble_eq_true rfl, Nat.le_of_ble_eq_true rfl⟩ ⟨_, rfl⟩ (fun r h => ct_X9_refuse _ _ fu M a0 (-2 : Int32) r h) rfl rfl (Nat.le_of_ble_eq_true rfl) dX9_tool_40 gz_00 hF (fun x8 M9 hF => ?_)
    exact gz_iretM 43 hC hX dX9_tool_43 hF
  refine gz_if_eq 4 37 hC dX9_tool_4 (by decide) hF (fun hF => ?_) (fun hF => ?_)
  · skip
    refine gz_sub [0] [(0, .ref a0)] rfl ?_
    exact hj37 hF
  · skip
    refine gz_iload_n 7 hC 2 dX9_tool_7 rfl rfl ?_
    refine gz_iconst 8 hC (1 : Int32) dX9_tool_8 gz_k1 ?_
    refine gz_iconst 9 hC (5 : Int32) dX9_tool_9 gz_k5 ?_
    refine gz_csP (st := []) 10 hC hX [.int a2, .int (1 : Int32), .int (5 : Int32)] Value.int yl_X9_isWithin yv_X9_isWithin q_414 ⟨Nat.le_of_ble_eq_true rfl, Nat.le_of_ble_eq_true rfl⟩ (fun r h => ct_X9_isWithin _ _ fu M a2 (1 : Int32) (5 : Int32) r h) rfl rfl (Nat.le_of_ble_eq_true rfl) dX9_tool_10 gz_00 hF (fun x2 hF => ?_)
    refine gz_if_eq 13 37 hC dX9_tool_13 (by decide) hF (fun hF => ?_) (fun hF => ?_)
    · skip
      refine gz_sub [0] [(0, .ref a0)] rfl ?_
      exact hj37 hF
    · skip
      refine gz_iload_n 16 hC 3 dX9_tool_16 rfl rfl ?_
      refine gz_iconst 17 hC (0 : Int32) dX9_tool_17 gz_k0 ?_
      refine gz_bipush 18 hC (9 : Int32) dX9_tool_18 gz_b9 ?_
      refine gz_csP (st := []) 20 hC hX [.int a3, .int (0 : Int32), .int (9 : Int32)] Value.int yl_X9_isWithin yv_X9_isWithin q_414 ⟨Nat.le_of_ble_eq_true rfl, Nat.le_of_ble_eq_true rfl⟩ (fun r h => ct_X9_isWithin _ _ fu M a3 (0 : Int32) (9 : Int32) r h) rfl rfl (Nat.le_of_ble_eq_true rfl) dX9_tool_20 gz_00 hF (fun x3 hF => ?_)
      refine gz_if_eq 23 37 hC dX9_tool_23 (by decide) hF (fun hF => ?_) (fun hF => ?_)
      · skip
        refine gz_sub [0] [(0, .ref a0)] rfl ?_
        exact hj37 hF
      · skip
        refine gz_iload 26 hC 4 dX9_tool_26 rfl ?_
        refine gz_iconst 28 hC (0 : Int32) dX9_tool_28 gz_k0 ?_
        refine gz_bipush 29 hC (30 : Int32) dX9_tool_29 gz_b30 ?_
        refine gz_csP (st := []) 31 hC hX [.int a4, .int (0 : Int32), .int (30 : Int32)] Value.int yl_X9_isWithin yv_X9_isWithin q_414 ⟨Nat.le_of_ble_eq_true rfl, Nat.le_of_ble_eq_true rfl⟩ (fun r h => ct_X9_isWithin _ _ fu M a4 (0 : Int32) (30 : Int32) r h) rfl rfl (Nat.le_of_ble_eq_true rfl) dX9_tool_31 gz_00 hF (fun x4 hF => ?_)
        refine gz_if_ne 34 44 hC dX9_tool_34 (by decide) hF (fun hF => ?_) (fun hF => ?_)
        · skip
          refine gz_aload_n 44 hC 0 dX9_tool_44 rfl rfl ?_
          refine gz_getR 45 hC fl_X9_27 fk_9_2 dX9_tool_45 hF (fun x5 hF => ?_)
          refine gz_iload_n 48 hC 1 dX9_tool_48 rfl rfl ?_
          refine gz_aald 49 hC dX9_tool_49 hF (fun x6 hF => ?_)
          refine gz_iload_n 50 hC 2 dX9_tool_50 rfl rfl ?_
          refine gz_iload_n 51 hC 3 dX9_tool_51 rfl rfl ?_
          refine gz_iload 52 hC 4 dX9_tool_52 rfl ?_
          refine gz_cvV (st := []) 54 hC hX [.int a2, .int a3, .int a4] yl_X4_becomeTool yv_X4_becomeTool q_485 ⟨Nat.le_of_ble_eq_true rfl, Nat.le_of_ble_eq_true rfl⟩ ⟨_, rfl⟩ (fun r h => ct_X4_becomeTool _ _ fu M x6 a2 a3 a4 r h) rfl rfl (Nat.le_of_ble_eq_true rfl) dX9_tool_54 gz_00 hF (fun M7 hF => ?_)
          refine gz_iconst 57 hC (1 : Int32) dX9_tool_57 gz_k1 ?_
          exact gz_iretM 58 hC hX dX9_tool_58 hF
        · skip
          refine gz_sub [0] [(0, .ref a0)] rfl ?_
          exact hj37 hF

theorem dX9_says_0 : decode cX9_says 0 = .ok (.iload_n 1, 1) := by decide +kernel
theorem dX9_says_1 : decode cX9_says 1 = .ok (.invokestatic 71, 3) := by decide +kernel
theorem dX9_says_4 : decode cX9_says 4 = .ok (.ifCond .eq 12, 3) := by decide +kernel
theorem dX9_says_7 : decode cX9_says 7 = .ok (.iload_n 2, 1) := by decide +kernel
theorem dX9_says_8 : decode cX9_says 8 = .ok (.iconst 0, 1) := by decide +kernel
theorem dX9_says_9 : decode cX9_says 9 = .ok (.iconst 5, 1) := by decide +kernel
theorem dX9_says_10 : decode cX9_says 10 = .ok (.invokestatic 75, 3) := by decide +kernel
theorem dX9_says_13 : decode cX9_says 13 = .ok (.ifCond .ne 10, 3) := by decide +kernel
theorem dX9_says_16 : decode cX9_says 16 = .ok (.aload_n 0, 1) := by decide +kernel
theorem dX9_says_17 : decode cX9_says 17 = .ok (.bipush (-2), 2) := by decide +kernel
theorem dX9_says_19 : decode cX9_says 19 = .ok (.invokevirtual 79, 3) := by decide +kernel
theorem dX9_says_22 : decode cX9_says 22 = .ok (.ireturn, 1) := by decide +kernel
theorem dX9_says_23 : decode cX9_says 23 = .ok (.aload_n 0, 1) := by decide +kernel
theorem dX9_says_24 : decode cX9_says 24 = .ok (.getfield 27, 3) := by decide +kernel
theorem dX9_says_27 : decode cX9_says 27 = .ok (.iload_n 1, 1) := by decide +kernel
theorem dX9_says_28 : decode cX9_says 28 = .ok (.aaload, 1) := by decide +kernel
theorem dX9_says_29 : decode cX9_says 29 = .ok (.astore_n 3, 1) := by decide +kernel
theorem dX9_says_30 : decode cX9_says 30 = .ok (.aload_n 3, 1) := by decide +kernel
theorem dX9_says_31 : decode cX9_says 31 = .ok (.invokevirtual 128, 3) := by decide +kernel
theorem dX9_says_34 : decode cX9_says 34 = .ok (.ifCond .ne 18, 3) := by decide +kernel
theorem dX9_says_37 : decode cX9_says 37 = .ok (.aload_n 3, 1) := by decide +kernel
theorem dX9_says_38 : decode cX9_says 38 = .ok (.invokevirtual 132, 3) := by decide +kernel
theorem dX9_says_41 : decode cX9_says 41 = .ok (.ifCond .eq 18, 3) := by decide +kernel
theorem dX9_says_44 : decode cX9_says 44 = .ok (.aload_n 3, 1) := by decide +kernel
theorem dX9_says_45 : decode cX9_says 45 = .ok (.iload_n 2, 1) := by decide +kernel
theorem dX9_says_46 : decode cX9_says 46 = .ok (.invokevirtual 135, 3) := by decide +kernel
theorem dX9_says_49 : decode cX9_says 49 = .ok (.ifCond .ne 10, 3) := by decide +kernel
theorem dX9_says_52 : decode cX9_says 52 = .ok (.aload_n 0, 1) := by decide +kernel
theorem dX9_says_53 : decode cX9_says 53 = .ok (.bipush (-3), 2) := by decide +kernel
theorem dX9_says_55 : decode cX9_says 55 = .ok (.invokevirtual 79, 3) := by decide +kernel
theorem dX9_says_58 : decode cX9_says 58 = .ok (.ireturn, 1) := by decide +kernel
theorem dX9_says_59 : decode cX9_says 59 = .ok (.aload_n 3, 1) := by decide +kernel
theorem dX9_says_60 : decode cX9_says 60 = .ok (.invokevirtual 138, 3) := by decide +kernel
theorem dX9_says_63 : decode cX9_says 63 = .ok (.ifCond .eq 10, 3) := by decide +kernel
theorem dX9_says_66 : decode cX9_says 66 = .ok (.aload_n 0, 1) := by decide +kernel
theorem dX9_says_67 : decode cX9_says 67 = .ok (.bipush (-4), 2) := by decide +kernel
theorem dX9_says_69 : decode cX9_says 69 = .ok (.invokevirtual 79, 3) := by decide +kernel
theorem dX9_says_72 : decode cX9_says 72 = .ok (.ireturn, 1) := by decide +kernel
theorem dX9_says_73 : decode cX9_says 73 = .ok (.aload_n 3, 1) := by decide +kernel
theorem dX9_says_74 : decode cX9_says 74 = .ok (.iload_n 2, 1) := by decide +kernel
theorem dX9_says_75 : decode cX9_says 75 = .ok (.invokevirtual 141, 3) := by decide +kernel
theorem dX9_says_78 : decode cX9_says 78 = .ok (.ireturn, 1) := by decide +kernel

def f_X9_says (fu : Nat) (M : gz_M) (a0 : Nat) (a1 : Int32) (a2 : Int32) : Option (Int32 × gz_M) :=
  gz_gd M 9 a0 <|
  (f_X9_isShelf fu M a1).bind fun x1 =>
  gz_jn (gz_b2 (f_X9_refuse fu M a0 (-2 : Int32)) fun x14 M15 =>
    some (x14, M15)) fun j16 =>
  if x1 = 0 then
    j16
  else
    (f_X9_isWithin fu M a2 (0 : Int32) (5 : Int32)).bind fun x2 =>
    if x2 = 0 then
      j16
    else
      (gz_gR M 9 2 a0).bind fun x3 =>
      (gz_aR M x3 a1).bind fun x4 =>
      (f_X4_isRow fu M x4).bind fun x5 =>
      gz_jn (gz_b2 (f_X9_refuse fu M a0 (-3 : Int32)) fun x12 M13 =>
        some (x12, M13)) fun j52 =>
      if x5 = 0 then
        (f_X4_isTool fu M x4).bind fun x6 =>
        gz_jn ((f_X4_isFree fu M x4).bind fun x8 =>
          if x8 = 0 then
            (f_X4_saysAs fu M x4 a2).bind fun x11 =>
            some (x11, M)
          else
            gz_b2 (f_X9_refuse fu M a0 (-4 : Int32)) fun x9 M10 =>
            some (x9, M10)) fun j59 =>
        if x6 = 0 then
          j59
        else
          (f_X4_isOfKind fu M x4 a2).bind fun x7 =>
          if x7 = 0 then
            j52
          else
            j59
      else
        j52

set_option maxHeartbeats 4000000 in
theorem ct_X9_says (l : Launch) (G : gz_G) (fu : Nat) (M : gz_M) (a0 : Nat) (a1 : Int32) (a2 : Int32) (y : Int32 × gz_M) (hF : f_X9_says fu M a0 a1 a2 = some y) : gz_ct l yX9_says cX9_says 4 (some .int) 2 42 0 0 G [.ref a0, .int a1, .int a2] M (some (.int y.1)) y.2 := by
  refine gz_ct.of (by decide) (Nat.le_of_ble_eq_true rfl) (fun C hC hX => ?_)
  unfold f_X9_says at hF
  obtain ⟨-, hF⟩ := gz_gd_some hF
  show gz_go C 0 0 M [(0, .ref a0), (1, .int a1), (2, .int a2)] 0 []
  refine gz_iload_n 0 hC 1 dX9_says_0 rfl rfl ?_
  refine gz_csP (st := []) 1 hC hX [.int a1] Value.int yl_X9_isShelf yv_X9_isShelf q_411 ⟨Nat.le_of_ble_eq_true rfl, Nat.le_of_ble_eq_true rfl⟩ (fun r h => ct_X9_isShelf _ _ fu M a1 r h) rfl rfl (Nat.le_of_ble_eq_true rfl) dX9_says_1 gz_00 hF (fun x1 hF => ?_)
  refine gz_join (fun (j : Option (Int32 × gz_M)) => j = some y → gz_go C 0 0 M [(0, .ref a0)] 16 []) hF (fun hF => ?_) (fun j16 hj16 hF => ?_)
  · skip
    refine gz_aload_n 16 hC 0 dX9_says_16 rfl rfl ?_
    refine gz_bipush 17 hC (-2 : Int32) dX9_says_17 gz_bm2 ?_
    refine gz_cvM (st := []) 19 hC hX [.int (-2 : Int32)] Value.int yl_X9_refuse yv_X9_refuse q_417 ⟨Nat.le_of_ble_eq_true rfl, Nat.le_of_ble_eq_true rfl⟩ ⟨_, rfl⟩ (fun r h => ct_X9_refuse _ _ fu M a0 (-2 : Int32) r h) rfl rfl (Nat.le_of_ble_eq_true rfl) dX9_says_19 gz_00 hF (fun x14 M15 hF => ?_)
    exact gz_iretM 22 hC hX dX9_says_22 hF
  refine gz_if_eq 4 16 hC dX9_says_4 (by decide) hF (fun hF => ?_) (fun hF => ?_)
  · skip
    refine gz_sub [0] [(0, .ref a0)] rfl ?_
    exact hj16 hF
  · skip
    refine gz_iload_n 7 hC 2 dX9_says_7 rfl rfl ?_
    refine gz_iconst 8 hC (0 : Int32) dX9_says_8 gz_k0 ?_
    refine gz_iconst 9 hC (5 : Int32) dX9_says_9 gz_k5 ?_
    refine gz_csP (st := []) 10 hC hX [.int a2, .int (0 : Int32), .int (5 : Int32)] Value.int yl_X9_isWithin yv_X9_isWithin q_414 ⟨Nat.le_of_ble_eq_true rfl, Nat.le_of_ble_eq_true rfl⟩ (fun r h => ct_X9_isWithin _ _ fu M a2 (0 : Int32) (5 : Int32) r h) rfl rfl (Nat.le_of_ble_eq_true rfl) dX9_says_10 gz_00 hF (fun x2 hF => ?_)
    refine gz_if_ne 13 23 hC dX9_says_13 (by decide) hF (fun hF => ?_) (fun hF => ?_)
    · skip
      refine gz_aload_n 23 hC 0 dX9_says_23 rfl rfl ?_
      refine gz_getR 24 hC fl_X9_27 fk_9_2 dX9_says_24 hF (fun x3 hF => ?_)
      refine gz_iload_n 27 hC 1 dX9_says_27 rfl rfl ?_
      refine gz_aald 28 hC dX9_says_28 hF (fun x4 hF => ?_)
      refine gz_astore_n 29 hC [(3, .ref x4), (0, .ref a0), (1, .int a1), (2, .int a2)] dX9_says_29 rfl (by decide) rfl ?_
      refine gz_aload_n 30 hC 0 dX9_says_30 rfl rfl ?_
      refine gz_cvP (st := []) 31 hC hX [] Value.int yl_X4_isRow yv_X4_isRow q_455 ⟨Nat.le_of_ble_eq_true rfl, Nat.le_of_ble_eq_true rfl⟩ ⟨_, rfl⟩ (fun r h => ct_X4_isRow _ _ fu M x4 r h) rfl rfl (Nat.le_of_ble_eq_true rfl) dX9_says_31 gz_00 hF (fun x5 hF => ?_)
      refine gz_join (fun (j : Option (Int32 × gz_M)) => j = some y → gz_go C 0 0 M [(0, .ref a0)] 52 []) hF (fun hF => ?_) (fun j52 hj52 hF => ?_)
      · skip
        refine gz_aload_n 52 hC 0 dX9_says_52 rfl rfl ?_
        refine gz_bipush 53 hC (-3 : Int32) dX9_says_53 gz_bm3 ?_
        refine gz_cvM (st := []) 55 hC hX [.int (-3 : Int32)] Value.int yl_X9_refuse yv_X9_refuse q_417 ⟨Nat.le_of_ble_eq_true rfl, Nat.le_of_ble_eq_true rfl⟩ ⟨_, rfl⟩ (fun r h => ct_X9_refuse _ _ fu M a0 (-3 : Int32) r h) rfl rfl (Nat.le_of_ble_eq_true rfl) dX9_says_55 gz_00 hF (fun x12 M13 hF => ?_)
        exact gz_iretM 58 hC hX dX9_says_58 hF
      refine gz_if_ne 34 52 hC dX9_says_34 (by decide) hF (fun hF => ?_) (fun hF => ?_)
      · skip
        refine gz_sub [1] [(0, .ref a0)] rfl ?_
        exact hj52 hF
      · skip
        refine gz_aload_n 37 hC 0 dX9_says_37 rfl rfl ?_
        refine gz_cvP (st := []) 38 hC hX [] Value.int yl_X4_isTool yv_X4_isTool q_459 ⟨Nat.le_of_ble_eq_true rfl, Nat.le_of_ble_eq_true rfl⟩ ⟨_, rfl⟩ (fun r h => ct_X4_isTool _ _ fu M x4 r h) rfl rfl (Nat.le_of_ble_eq_true rfl) dX9_says_38 gz_00 hF (fun x6 hF => ?_)
        refine gz_join (fun (j : Option (Int32 × gz_M)) => j = some y → gz_go C 0 0 M [(0, .ref a0), (2, .int a2), (3, .ref x4)] 59 []) hF (fun hF => ?_) (fun j59 hj59 hF => ?_)
        · skip
          refine gz_aload_n 59 hC 2 dX9_says_59 rfl rfl ?_
          refine gz_cvP (st := []) 60 hC hX [] Value.int yl_X4_isFree yv_X4_isFree q_460 ⟨Nat.le_of_ble_eq_true rfl, Nat.le_of_ble_eq_true rfl⟩ ⟨_, rfl⟩ (fun r h => ct_X4_isFree _ _ fu M x4 r h) rfl rfl (Nat.le_of_ble_eq_true rfl) dX9_says_60 gz_00 hF (fun x8 hF => ?_)
          refine gz_if_eq 63 73 hC dX9_says_63 (by decide) hF (fun hF => ?_) (fun hF => ?_)
          · skip
            refine gz_aload_n 73 hC 2 dX9_says_73 rfl rfl ?_
            refine gz_iload_n 74 hC 1 dX9_says_74 rfl rfl ?_
            refine gz_cvP (st := []) 75 hC hX [.int a2] Value.int yl_X4_saysAs yv_X4_saysAs q_497 ⟨Nat.le_of_ble_eq_true rfl, Nat.le_of_ble_eq_true rfl⟩ ⟨_, rfl⟩ (fun r h => ct_X4_saysAs _ _ fu M x4 a2 r h) rfl rfl (Nat.le_of_ble_eq_true rfl) dX9_says_75 gz_00 hF (fun x11 hF => ?_)
            exact gz_iretM 78 hC hX dX9_says_78 hF
          · skip
            refine gz_aload_n 66 hC 0 dX9_says_66 rfl rfl ?_
            refine gz_bipush 67 hC (-4 : Int32) dX9_says_67 gz_bm4 ?_
            refine gz_cvM (st := []) 69 hC hX [.int (-4 : Int32)] Value.int yl_X9_refuse yv_X9_refuse q_417 ⟨Nat.le_of_ble_eq_true rfl, Nat.le_of_ble_eq_true rfl⟩ ⟨_, rfl⟩ (fun r h => ct_X9_refuse _ _ fu M a0 (-4 : Int32) r h) rfl rfl (Nat.le_of_ble_eq_true rfl) dX9_says_69 gz_00 hF (fun x9 M10 hF => ?_)
            exact gz_iretM 72 hC hX dX9_says_72 hF
        refine gz_if_eq 41 59 hC dX9_says_41 (by decide) hF (fun hF => ?_) (fun hF => ?_)
        · skip
          refine gz_sub [1, 3, 0] [(0, .ref a0), (2, .int a2), (3, .ref x4)] rfl ?_
          exact hj59 hF
        · skip
          refine gz_aload_n 44 hC 0 dX9_says_44 rfl rfl ?_
          refine gz_iload_n 45 hC 3 dX9_says_45 rfl rfl ?_
          refine gz_cvP (st := []) 46 hC hX [.int a2] Value.int yl_X4_isOfKind yv_X4_isOfKind q_493 ⟨Nat.le_of_ble_eq_true rfl, Nat.le_of_ble_eq_true rfl⟩ ⟨_, rfl⟩ (fun r h => ct_X4_isOfKind _ _ fu M x4 a2 r h) rfl rfl (Nat.le_of_ble_eq_true rfl) dX9_says_46 gz_00 hF (fun x7 hF => ?_)
          refine gz_if_ne 49 59 hC dX9_says_49 (by decide) hF (fun hF => ?_) (fun hF => ?_)
          · skip
            refine gz_sub [1, 3, 0] [(0, .ref a0), (2, .int a2), (3, .ref x4)] rfl ?_
            exact hj59 hF
          · skip
            refine gz_sub [1] [(0, .ref a0)] rfl ?_
            exact hj52 hF
    · skip
      refine gz_sub [0] [(0, .ref a0)] rfl ?_
      exact hj16 hF

theorem dX9_isValley_0 : decode cX9_isValley 0 = .ok (.iload_n 1, 1) := by decide +kernel
theorem dX9_isValley_1 : decode cX9_isValley 1 = .ok (.iconst 0, 1) := by decide +kernel
theorem dX9_isValley_2 : decode cX9_isValley 2 = .ok (.aload_n 0, 1) := by decide +kernel
theorem dX9_isValley_3 : decode cX9_isValley 3 = .ok (.getfield 34, 3) := by decide +kernel
theorem dX9_isValley_6 : decode cX9_isValley 6 = .ok (.getfield 172, 3) := by decide +kernel
theorem dX9_isValley_9 : decode cX9_isValley 9 = .ok (.iconst 1, 1) := by decide +kernel
theorem dX9_isValley_10 : decode cX9_isValley 10 = .ok (.isub, 1) := by decide +kernel
theorem dX9_isValley_11 : decode cX9_isValley 11 = .ok (.invokestatic 75, 3) := by decide +kernel
theorem dX9_isValley_14 : decode cX9_isValley 14 = .ok (.ireturn, 1) := by decide +kernel

def f_X9_isValley (fu : Nat) (M : gz_M) (a0 : Nat) (a1 : Int32) : Option (Int32) :=
  gz_gd M 9 a0 <|
  (gz_gR M 9 3 a0).bind fun x1 =>
  (gz_gI M 8 2 x1).bind fun x2 =>
  (f_X9_isWithin fu M a1 (0 : Int32) (x2 - (1 : Int32))).bind fun x3 =>
  gz_z x3 (some x3)

set_option maxHeartbeats 4000000 in
theorem ct_X9_isValley (l : Launch) (G : gz_G) (fu : Nat) (M : gz_M) (a0 : Nat) (a1 : Int32) (y : Int32) (hF : f_X9_isValley fu M a0 a1 = some y) : gz_ct l yX9_isValley cX9_isValley 2 (some .boolean) 1 22 0 0 G [.ref a0, .int a1] M (some (.int y)) M := by
  refine gz_ct.of (by decide) (Nat.le_of_ble_eq_true rfl) (fun C hC hX => ?_)
  unfold f_X9_isValley at hF
  obtain ⟨-, hF⟩ := gz_gd_some hF
  show gz_go C 0 0 M [(0, .ref a0), (1, .int a1)] 0 []
  refine gz_iload_n 0 hC 1 dX9_isValley_0 rfl rfl ?_
  refine gz_iconst 1 hC (0 : Int32) dX9_isValley_1 gz_k0 ?_
  refine gz_aload_n 2 hC 0 dX9_isValley_2 rfl rfl ?_
  refine gz_getR 3 hC fl_X9_34 fk_9_3 dX9_isValley_3 hF (fun x1 hF => ?_)
  refine gz_getI 6 hC fl_X9_172 fk_8_2 dX9_isValley_6 hF (fun x2 hF => ?_)
  refine gz_iconst 9 hC (1 : Int32) dX9_isValley_9 gz_k1 ?_
  refine gz_isub 10 hC dX9_isValley_10 ?_
  refine gz_csP (st := []) 11 hC hX [.int a1, .int (0 : Int32), .int (x2 - (1 : Int32))] Value.int yl_X9_isWithin yv_X9_isWithin q_414 ⟨Nat.le_of_ble_eq_true rfl, Nat.le_of_ble_eq_true rfl⟩ (fun r h => ct_X9_isWithin _ _ fu M a1 (0 : Int32) (x2 - (1 : Int32)) r h) rfl rfl (Nat.le_of_ble_eq_true rfl) dX9_isValley_11 gz_00 hF (fun x3 hF => ?_)
  exact gz_zretP 14 hC hX dX9_isValley_14 hF

theorem dX9_isFoot_0 : decode cX9_isFoot 0 = .ok (.aload_n 0, 1) := by decide +kernel
theorem dX9_isFoot_1 : decode cX9_isFoot 1 = .ok (.iload_n 1, 1) := by decide +kernel
theorem dX9_isFoot_2 : decode cX9_isFoot 2 = .ok (.invokevirtual 159, 3) := by decide +kernel
theorem dX9_isFoot_5 : decode cX9_isFoot 5 = .ok (.ifCond .eq 29, 3) := by decide +kernel
theorem dX9_isFoot_8 : decode cX9_isFoot 8 = .ok (.iload_n 2, 1) := by decide +kernel
theorem dX9_isFoot_9 : decode cX9_isFoot 9 = .ok (.iconst 0, 1) := by decide +kernel
theorem dX9_isFoot_10 : decode cX9_isFoot 10 = .ok (.aload_n 0, 1) := by decide +kernel
theorem dX9_isFoot_11 : decode cX9_isFoot 11 = .ok (.getfield 34, 3) := by decide +kernel
theorem dX9_isFoot_14 : decode cX9_isFoot 14 = .ok (.getfield 147, 3) := by decide +kernel
theorem dX9_isFoot_17 : decode cX9_isFoot 17 = .ok (.iload_n 1, 1) := by decide +kernel
theorem dX9_isFoot_18 : decode cX9_isFoot 18 = .ok (.aaload, 1) := by decide +kernel
theorem dX9_isFoot_19 : decode cX9_isFoot 19 = .ok (.getfield 162, 3) := by decide +kernel
theorem dX9_isFoot_22 : decode cX9_isFoot 22 = .ok (.iconst 1, 1) := by decide +kernel
theorem dX9_isFoot_23 : decode cX9_isFoot 23 = .ok (.isub, 1) := by decide +kernel
theorem dX9_isFoot_24 : decode cX9_isFoot 24 = .ok (.invokestatic 75, 3) := by decide +kernel
theorem dX9_isFoot_27 : decode cX9_isFoot 27 = .ok (.ifCond .eq 7, 3) := by decide +kernel
theorem dX9_isFoot_30 : decode cX9_isFoot 30 = .ok (.iconst 1, 1) := by decide +kernel
theorem dX9_isFoot_31 : decode cX9_isFoot 31 = .ok (.goto 4, 3) := by decide +kernel
theorem dX9_isFoot_34 : decode cX9_isFoot 34 = .ok (.iconst 0, 1) := by decide +kernel
theorem dX9_isFoot_35 : decode cX9_isFoot 35 = .ok (.ireturn, 1) := by decide +kernel

def f_X9_isFoot (fu : Nat) (M : gz_M) (a0 : Nat) (a1 : Int32) (a2 : Int32) : Option (Int32) :=
  gz_gd M 9 a0 <|
  (f_X9_isValley fu M a0 a1).bind fun x1 =>
  gz_jn (fun (x7 : Int32) =>
  gz_z x7 (some x7)) fun j35 =>
  gz_jn (j35 (0 : Int32)) fun j34 =>
  if x1 = 0 then
    j34
  else
    (gz_gR M 9 3 a0).bind fun x2 =>
    (gz_gR M 8 0 x2).bind fun x3 =>
    (gz_aR M x3 a1).bind fun x4 =>
    (gz_gI M 7 4 x4).bind fun x5 =>
    (f_X9_isWithin fu M a2 (0 : Int32) (x5 - (1 : Int32))).bind fun x6 =>
    if x6 = 0 then
      j34
    else
      j35 (1 : Int32)

set_option maxHeartbeats 4000000 in
theorem ct_X9_isFoot (l : Launch) (G : gz_G) (fu : Nat) (M : gz_M) (a0 : Nat) (a1 : Int32) (a2 : Int32) (y : Int32) (hF : f_X9_isFoot fu M a0 a1 a2 = some y) : gz_ct l yX9_isFoot cX9_isFoot 3 (some .boolean) 2 43 0 0 G [.ref a0, .int a1, .int a2] M (some (.int y)) M := by
  refine gz_ct.of (by decide) (Nat.le_of_ble_eq_true rfl) (fun C hC hX => ?_)
  unfold f_X9_isFoot at hF
  obtain ⟨-, hF⟩ := gz_gd_some hF
  show gz_go C 0 0 M [(0, .ref a0), (1, .int a1), (2, .int a2)] 0 []
  refine gz_aload_n 0 hC 0 dX9_isFoot_0 rfl rfl ?_
  refine gz_iload_n 1 hC 1 dX9_isFoot_1 rfl rfl ?_
  refine gz_cvP (st := []) 2 hC hX [.int a1] Value.int yl_X9_isValley yv_X9_isValley q_509 ⟨Nat.le_of_ble_eq_true rfl, Nat.le_of_ble_eq_true rfl⟩ ⟨_, rfl⟩ (fun r h => ct_X9_isValley _ _ fu M a0 a1 r h) rfl rfl (Nat.le_of_ble_eq_true rfl) dX9_isFoot_2 gz_00 hF (fun x1 hF => ?_)
  refine gz_join (fun (j : Int32 → Option (Int32)) => ∀ (x7 : Int32), j x7 = some y → gz_go C 0 0 M [] 35 [.int x7]) hF (fun x7 hF => ?_) (fun j35 hj35 hF => ?_)
  · skip
    exact gz_zretP 35 hC hX dX9_isFoot_35 hF
  refine gz_join (fun (j : Option (Int32)) => j = some y → gz_go C 0 0 M [] 34 []) hF (fun hF => ?_) (fun j34 hj34 hF => ?_)
  · skip
    refine gz_iconst 34 hC (0 : Int32) dX9_isFoot_34 gz_k0 ?_
    exact hj35 _ hF
  refine gz_if_eq 5 34 hC dX9_isFoot_5 (by decide) hF (fun hF => ?_) (fun hF => ?_)
  · skip
    refine gz_sub [] [] rfl ?_
    exact hj34 hF
  · skip
    refine gz_iload_n 8 hC 2 dX9_isFoot_8 rfl rfl ?_
    refine gz_iconst 9 hC (0 : Int32) dX9_isFoot_9 gz_k0 ?_
    refine gz_aload_n 10 hC 0 dX9_isFoot_10 rfl rfl ?_
    refine gz_getR 11 hC fl_X9_34 fk_9_3 dX9_isFoot_11 hF (fun x2 hF => ?_)
    refine gz_getR 14 hC fl_X9_147 fk_8_0 dX9_isFoot_14 hF (fun x3 hF => ?_)
    refine gz_iload_n 17 hC 1 dX9_isFoot_17 rfl rfl ?_
    refine gz_aald 18 hC dX9_isFoot_18 hF (fun x4 hF => ?_)
    refine gz_getI 19 hC fl_X9_162 fk_7_4 dX9_isFoot_19 hF (fun x5 hF => ?_)
    refine gz_iconst 22 hC (1 : Int32) dX9_isFoot_22 gz_k1 ?_
    refine gz_isub 23 hC dX9_isFoot_23 ?_
    refine gz_csP (st := []) 24 hC hX [.int a2, .int (0 : Int32), .int (x5 - (1 : Int32))] Value.int yl_X9_isWithin yv_X9_isWithin q_414 ⟨Nat.le_of_ble_eq_true rfl, Nat.le_of_ble_eq_true rfl⟩ (fun r h => ct_X9_isWithin _ _ fu M a2 (0 : Int32) (x5 - (1 : Int32)) r h) rfl rfl (Nat.le_of_ble_eq_true rfl) dX9_isFoot_24 gz_00 hF (fun x6 hF => ?_)
    refine gz_if_eq 27 34 hC dX9_isFoot_27 (by decide) hF (fun hF => ?_) (fun hF => ?_)
    · skip
      refine gz_sub [] [] rfl ?_
      exact hj34 hF
    · skip
      refine gz_iconst 30 hC (1 : Int32) dX9_isFoot_30 gz_k1 ?_
      refine gz_goto 31 35 hC dX9_isFoot_31 (by decide) ?_
      refine gz_sub [] [] rfl ?_
      exact hj35 _ hF

theorem dX9_tries_0 : decode cX9_tries 0 = .ok (.aload_n 0, 1) := by decide +kernel
theorem dX9_tries_1 : decode cX9_tries 1 = .ok (.iload_n 1, 1) := by decide +kernel
theorem dX9_tries_2 : decode cX9_tries 2 = .ok (.iload_n 2, 1) := by decide +kernel
theorem dX9_tries_3 : decode cX9_tries 3 = .ok (.invokevirtual 144, 3) := by decide +kernel
theorem dX9_tries_6 : decode cX9_tries 6 = .ok (.ifCond .eq 10, 3) := by decide +kernel
theorem dX9_tries_9 : decode cX9_tries 9 = .ok (.iload_n 3, 1) := by decide +kernel
theorem dX9_tries_10 : decode cX9_tries 10 = .ok (.invokestatic 71, 3) := by decide +kernel
theorem dX9_tries_13 : decode cX9_tries 13 = .ok (.ifCond .ne 10, 3) := by decide +kernel
theorem dX9_tries_16 : decode cX9_tries 16 = .ok (.aload_n 0, 1) := by decide +kernel
theorem dX9_tries_17 : decode cX9_tries 17 = .ok (.bipush (-2), 2) := by decide +kernel
theorem dX9_tries_19 : decode cX9_tries 19 = .ok (.invokevirtual 79, 3) := by decide +kernel
theorem dX9_tries_22 : decode cX9_tries 22 = .ok (.ireturn, 1) := by decide +kernel
theorem dX9_tries_23 : decode cX9_tries 23 = .ok (.aload_n 0, 1) := by decide +kernel
theorem dX9_tries_24 : decode cX9_tries 24 = .ok (.getfield 34, 3) := by decide +kernel
theorem dX9_tries_27 : decode cX9_tries 27 = .ok (.getfield 147, 3) := by decide +kernel
theorem dX9_tries_30 : decode cX9_tries 30 = .ok (.iload_n 1, 1) := by decide +kernel
theorem dX9_tries_31 : decode cX9_tries 31 = .ok (.aaload, 1) := by decide +kernel
theorem dX9_tries_32 : decode cX9_tries 32 = .ok (.astore 4, 2) := by decide +kernel
theorem dX9_tries_34 : decode cX9_tries 34 = .ok (.aload_n 0, 1) := by decide +kernel
theorem dX9_tries_35 : decode cX9_tries 35 = .ok (.getfield 27, 3) := by decide +kernel
theorem dX9_tries_38 : decode cX9_tries 38 = .ok (.iload_n 3, 1) := by decide +kernel
theorem dX9_tries_39 : decode cX9_tries 39 = .ok (.aaload, 1) := by decide +kernel
theorem dX9_tries_40 : decode cX9_tries 40 = .ok (.aload 4, 2) := by decide +kernel
theorem dX9_tries_42 : decode cX9_tries 42 = .ok (.invokevirtual 151, 3) := by decide +kernel
theorem dX9_tries_45 : decode cX9_tries 45 = .ok (.istore 5, 2) := by decide +kernel
theorem dX9_tries_47 : decode cX9_tries 47 = .ok (.iload 5, 2) := by decide +kernel
theorem dX9_tries_49 : decode cX9_tries 49 = .ok (.ifCond .eq 10, 3) := by decide +kernel
theorem dX9_tries_52 : decode cX9_tries 52 = .ok (.aload_n 0, 1) := by decide +kernel
theorem dX9_tries_53 : decode cX9_tries 53 = .ok (.iload 5, 2) := by decide +kernel
theorem dX9_tries_55 : decode cX9_tries 55 = .ok (.invokevirtual 79, 3) := by decide +kernel
theorem dX9_tries_58 : decode cX9_tries 58 = .ok (.ireturn, 1) := by decide +kernel
theorem dX9_tries_59 : decode cX9_tries 59 = .ok (.aload_n 0, 1) := by decide +kernel
theorem dX9_tries_60 : decode cX9_tries 60 = .ok (.getfield 27, 3) := by decide +kernel
theorem dX9_tries_63 : decode cX9_tries 63 = .ok (.iload_n 3, 1) := by decide +kernel
theorem dX9_tries_64 : decode cX9_tries 64 = .ok (.aaload, 1) := by decide +kernel
theorem dX9_tries_65 : decode cX9_tries 65 = .ok (.aload 4, 2) := by decide +kernel
theorem dX9_tries_67 : decode cX9_tries 67 = .ok (.iload_n 2, 1) := by decide +kernel
theorem dX9_tries_68 : decode cX9_tries 68 = .ok (.invokevirtual 155, 3) := by decide +kernel
theorem dX9_tries_71 : decode cX9_tries 71 = .ok (.ireturn, 1) := by decide +kernel

def f_X9_tries (fu : Nat) (M : gz_M) (a0 : Nat) (a1 : Int32) (a2 : Int32) (a3 : Int32) : Option (Int32 × gz_M) :=
  gz_gd M 9 a0 <|
  (f_X9_isFoot fu M a0 a1 a2).bind fun x1 =>
  gz_jn (gz_b2 (f_X9_refuse fu M a0 (-2 : Int32)) fun x14 M15 =>
    some (x14, M15)) fun j16 =>
  if x1 = 0 then
    j16
  else
    (f_X9_isShelf fu M a3).bind fun x2 =>
    if x2 = 0 then
      j16
    else
      (gz_gR M 9 3 a0).bind fun x3 =>
      (gz_gR M 8 0 x3).bind fun x4 =>
      (gz_aR M x4 a1).bind fun x5 =>
      (gz_gR M 9 2 a0).bind fun x6 =>
      (gz_aR M x6 a3).bind fun x7 =>
      (f_X4_toolRefusal fu M x7 x5).bind fun x8 =>
      if x8 = 0 then
        (gz_gR M 9 2 a0).bind fun x11 =>
        (gz_aR M x11 a3).bind fun x12 =>
        (f_X4_badnessFor fu M x12 x5 a2).bind fun x13 =>
        some (x13, M)
      else
        gz_b2 (f_X9_refuse fu M a0 x8) fun x9 M10 =>
        some (x9, M10)

set_option maxHeartbeats 4000000 in
theorem ct_X9_tries (l : Launch) (G : gz_G) (fu : Nat) (M : gz_M) (a0 : Nat) (a1 : Int32) (a2 : Int32) (a3 : Int32) (y : Int32 × gz_M) (hF : f_X9_tries fu M a0 a1 a2 a3 = some y) : gz_ct l yX9_tries cX9_tries 6 (some .int) 6 144 0 0 G [.ref a0, .int a1, .int a2, .int a3] M (some (.int y.1)) y.2 := by
  refine gz_ct.of (by decide) (Nat.le_of_ble_eq_true rfl) (fun C hC hX => ?_)
  unfold f_X9_tries at hF
  obtain ⟨-, hF⟩ := gz_gd_some hF
  show gz_go C 0 0 M [(0, .ref a0), (1, .int a1), (2, .int a2), (3, .int a3)] 0 []
  refine gz_aload_n 0 hC 0 dX9_tries_0 rfl rfl ?_
  refine gz_iload_n 1 hC 1 dX9_tries_1 rfl rfl ?_
  refine gz_iload_n 2 hC 2 dX9_tries_2 rfl rfl ?_
  refine gz_cvP (st := []) 3 hC hX [.int a1, .int a2] Value.int yl_X9_isFoot yv_X9_isFoot q_505 ⟨Nat.le_of_ble_eq_true rfl, Nat.le_of_ble_eq_true rfl⟩ ⟨_, rfl⟩ (fun r h => ct_X9_isFoot _ _ fu M a0 a1 a2 r h) rfl rfl (Nat.le_of_ble_eq_true rfl) dX9_tries_3 gz_00 hF (fun x1 hF => ?_)
  refine gz_join (fun (j : Option (Int32 × gz_M)) => j = some y → gz_go C 0 0 M [(0, .ref a0)] 16 []) hF (fun hF => ?_) (fun j16 hj16 hF => ?_)
  · skip
    refine gz_aload_n 16 hC 0 dX9_tries_16 rfl rfl ?_
    refine gz_bipush 17 hC (-2 : Int32) dX9_tries_17 gz_bm2 ?_
    refine gz_cvM (st := []) 19 hC hX [.int (-2 : Int32)] Value.int yl_X9_refuse yv_X9_refuse q_417 ⟨Nat.le_of_ble_eq_true rfl, Nat.le_of_ble_eq_true rfl⟩ ⟨_, rfl⟩ (fun r h => ct_X9_refuse _ _ fu M a0 (-2 : Int32) r h) rfl rfl (Nat.le_of_ble_eq_true rfl) dX9_tries_19 gz_00 hF (fun x14 M15 hF => ?_)
    exact gz_iretM 22 hC hX dX9_tries_22 hF
  refine gz_if_eq 6 16 hC dX9_tries_6 (by decide) hF (fun hF => ?_) (fun hF => ?_)
  · skip
    refine gz_sub [0] [(0, .ref a0)] rfl ?_
    exact hj16 hF
  · skip
    refine gz_iload_n 9 hC 3 dX9_tries_9 rfl rfl ?_
    refine gz_csP (st := []) 10 hC hX [.int a3] Value.int yl_X9_isShelf yv_X9_isShelf q_411 ⟨Nat.le_of_ble_eq_true rfl, Nat.le_of_ble_eq_true rfl⟩ (fun r h => ct_X9_isShelf _ _ fu M a3 r h) rfl rfl (Nat.le_of_ble_eq_true rfl) dX9_tries_10 gz_00 hF (fun x2 hF => ?_)
    refine gz_if_ne 13 23 hC dX9_tries_13 (by decide) hF (fun hF => ?_) (fun hF => ?_)
    · skip
      refine gz_aload_n 23 hC 0 dX9_tries_23 rfl rfl ?_
      refine gz_getR 24 hC fl_X9_34 fk_9_3 dX9_tries_24 hF (fun x3 hF => ?_)
      refine gz_getR 27 hC fl_X9_147 fk_8_0 dX9_tries_27 hF (fun x4 hF => ?_)
      refine gz_iload_n 30 hC 1 dX9_tries_30 rfl rfl ?_
      refine gz_aald 31 hC dX9_tries_31 hF (fun x5 hF => ?_)
      refine gz_astore 32 hC [(4, .ref x5), (0, .ref a0), (1, .int a1), (2, .int a2), (3, .int a3)] dX9_tries_32 (by decide) rfl ?_
      refine gz_aload_n 34 hC 1 dX9_tries_34 rfl rfl ?_
      refine gz_getR 35 hC fl_X9_27 fk_9_2 dX9_tries_35 hF (fun x6 hF => ?_)
      refine gz_iload_n 38 hC 4 dX9_tries_38 rfl rfl ?_
      refine gz_aald 39 hC dX9_tries_39 hF (fun x7 hF => ?_)
      refine gz_aload 40 hC 0 dX9_tries_40 rfl ?_
      refine gz_cvP (st := []) 42 hC hX [.ref x5] Value.int yl_X4_toolRefusal yv_X4_toolRefusal q_513 ⟨Nat.le_of_ble_eq_true rfl, Nat.le_of_ble_eq_true rfl⟩ ⟨_, rfl⟩ (fun r h => ct_X4_toolRefusal _ _ fu M x7 x5 r h) rfl rfl (Nat.le_of_ble_eq_true rfl) dX9_tries_42 gz_00 hF (fun x8 hF => ?_)
      refine gz_istore 45 hC [(5, .int x8), (4, .ref x5), (0, .ref a0), (1, .int a1), (2, .int a2), (3, .int a3)] dX9_tries_45 (by decide) rfl ?_
      refine gz_iload 47 hC 0 dX9_tries_47 rfl ?_
      refine gz_if_eq 49 59 hC dX9_tries_49 (by decide) hF (fun hF => ?_) (fun hF => ?_)
      · skip
        refine gz_aload_n 59 hC 2 dX9_tries_59 rfl rfl ?_
        refine gz_getR 60 hC fl_X9_27 fk_9_2 dX9_tries_60 hF (fun x11 hF => ?_)
        refine gz_iload_n 63 hC 5 dX9_tries_63 rfl rfl ?_
        refine gz_aald 64 hC dX9_tries_64 hF (fun x12 hF => ?_)
        refine gz_aload 65 hC 1 dX9_tries_65 rfl ?_
        refine gz_iload_n 67 hC 4 dX9_tries_67 rfl rfl ?_
        refine gz_cvP (st := []) 68 hC hX [.ref x5, .int a2] Value.int yl_X4_badnessFor yv_X4_badnessFor q_517 ⟨Nat.le_of_ble_eq_true rfl, Nat.le_of_ble_eq_true rfl⟩ ⟨_, rfl⟩ (fun r h => ct_X4_badnessFor _ _ fu M x12 x5 a2 r h) rfl rfl (Nat.le_of_ble_eq_true rfl) dX9_tries_68 gz_00 hF (fun x13 hF => ?_)
        exact gz_iretM 71 hC hX dX9_tries_71 hF
      · skip
        refine gz_aload_n 52 hC 2 dX9_tries_52 rfl rfl ?_
        refine gz_iload 53 hC 0 dX9_tries_53 rfl ?_
        refine gz_cvM (st := []) 55 hC hX [.int x8] Value.int yl_X9_refuse yv_X9_refuse q_417 ⟨Nat.le_of_ble_eq_true rfl, Nat.le_of_ble_eq_true rfl⟩ ⟨_, rfl⟩ (fun r h => ct_X9_refuse _ _ fu M a0 x8 r h) rfl rfl (Nat.le_of_ble_eq_true rfl) dX9_tries_55 gz_00 hF (fun x9 M10 hF => ?_)
        exact gz_iretM 58 hC hX dX9_tries_58 hF
    · skip
      refine gz_sub [0] [(0, .ref a0)] rfl ?_
      exact hj16 hF

theorem dX9_shoes_0 : decode cX9_shoes 0 = .ok (.aload_n 0, 1) := by decide +kernel
theorem dX9_shoes_1 : decode cX9_shoes 1 = .ok (.iload_n 1, 1) := by decide +kernel
theorem dX9_shoes_2 : decode cX9_shoes 2 = .ok (.invokevirtual 159, 3) := by decide +kernel
theorem dX9_shoes_5 : decode cX9_shoes 5 = .ok (.ifCond .eq 10, 3) := by decide +kernel
theorem dX9_shoes_8 : decode cX9_shoes 8 = .ok (.iload_n 2, 1) := by decide +kernel
theorem dX9_shoes_9 : decode cX9_shoes 9 = .ok (.invokestatic 71, 3) := by decide +kernel
theorem dX9_shoes_12 : decode cX9_shoes 12 = .ok (.ifCond .ne 10, 3) := by decide +kernel
theorem dX9_shoes_15 : decode cX9_shoes 15 = .ok (.aload_n 0, 1) := by decide +kernel
theorem dX9_shoes_16 : decode cX9_shoes 16 = .ok (.bipush (-2), 2) := by decide +kernel
theorem dX9_shoes_18 : decode cX9_shoes 18 = .ok (.invokevirtual 79, 3) := by decide +kernel
theorem dX9_shoes_21 : decode cX9_shoes 21 = .ok (.ireturn, 1) := by decide +kernel
theorem dX9_shoes_22 : decode cX9_shoes 22 = .ok (.aload_n 0, 1) := by decide +kernel
theorem dX9_shoes_23 : decode cX9_shoes 23 = .ok (.getfield 34, 3) := by decide +kernel
theorem dX9_shoes_26 : decode cX9_shoes 26 = .ok (.getfield 147, 3) := by decide +kernel
theorem dX9_shoes_29 : decode cX9_shoes 29 = .ok (.iload_n 1, 1) := by decide +kernel
theorem dX9_shoes_30 : decode cX9_shoes 30 = .ok (.aaload, 1) := by decide +kernel
theorem dX9_shoes_31 : decode cX9_shoes 31 = .ok (.astore_n 3, 1) := by decide +kernel
theorem dX9_shoes_32 : decode cX9_shoes 32 = .ok (.aload_n 0, 1) := by decide +kernel
theorem dX9_shoes_33 : decode cX9_shoes 33 = .ok (.getfield 27, 3) := by decide +kernel
theorem dX9_shoes_36 : decode cX9_shoes 36 = .ok (.iload_n 2, 1) := by decide +kernel
theorem dX9_shoes_37 : decode cX9_shoes 37 = .ok (.aaload, 1) := by decide +kernel
theorem dX9_shoes_38 : decode cX9_shoes 38 = .ok (.aload_n 3, 1) := by decide +kernel
theorem dX9_shoes_39 : decode cX9_shoes 39 = .ok (.invokevirtual 151, 3) := by decide +kernel
theorem dX9_shoes_42 : decode cX9_shoes 42 = .ok (.istore 4, 2) := by decide +kernel
theorem dX9_shoes_44 : decode cX9_shoes 44 = .ok (.iload 4, 2) := by decide +kernel
theorem dX9_shoes_46 : decode cX9_shoes 46 = .ok (.ifCond .eq 10, 3) := by decide +kernel
theorem dX9_shoes_49 : decode cX9_shoes 49 = .ok (.aload_n 0, 1) := by decide +kernel
theorem dX9_shoes_50 : decode cX9_shoes 50 = .ok (.iload 4, 2) := by decide +kernel
theorem dX9_shoes_52 : decode cX9_shoes 52 = .ok (.invokevirtual 79, 3) := by decide +kernel
theorem dX9_shoes_55 : decode cX9_shoes 55 = .ok (.ireturn, 1) := by decide +kernel
theorem dX9_shoes_56 : decode cX9_shoes 56 = .ok (.iconst 0, 1) := by decide +kernel
theorem dX9_shoes_57 : decode cX9_shoes 57 = .ok (.istore 5, 2) := by decide +kernel
theorem dX9_shoes_59 : decode cX9_shoes 59 = .ok (.iconst 0, 1) := by decide +kernel
theorem dX9_shoes_60 : decode cX9_shoes 60 = .ok (.istore 6, 2) := by decide +kernel
theorem dX9_shoes_62 : decode cX9_shoes 62 = .ok (.iload 6, 2) := by decide +kernel
theorem dX9_shoes_64 : decode cX9_shoes 64 = .ok (.aload_n 3, 1) := by decide +kernel
theorem dX9_shoes_65 : decode cX9_shoes 65 = .ok (.getfield 162, 3) := by decide +kernel
theorem dX9_shoes_68 : decode cX9_shoes 68 = .ok (.if_icmp .ge 34, 3) := by decide +kernel
theorem dX9_shoes_71 : decode cX9_shoes 71 = .ok (.aload_n 0, 1) := by decide +kernel
theorem dX9_shoes_72 : decode cX9_shoes 72 = .ok (.getfield 27, 3) := by decide +kernel
theorem dX9_shoes_75 : decode cX9_shoes 75 = .ok (.iload_n 2, 1) := by decide +kernel
theorem dX9_shoes_76 : decode cX9_shoes 76 = .ok (.aaload, 1) := by decide +kernel
theorem dX9_shoes_77 : decode cX9_shoes 77 = .ok (.aload_n 3, 1) := by decide +kernel
theorem dX9_shoes_78 : decode cX9_shoes 78 = .ok (.iload 6, 2) := by decide +kernel
theorem dX9_shoes_80 : decode cX9_shoes 80 = .ok (.invokevirtual 155, 3) := by decide +kernel
theorem dX9_shoes_83 : decode cX9_shoes 83 = .ok (.iconst (-1), 1) := by decide +kernel
theorem dX9_shoes_84 : decode cX9_shoes 84 = .ok (.if_icmp .eq 12, 3) := by decide +kernel
theorem dX9_shoes_87 : decode cX9_shoes 87 = .ok (.iload 5, 2) := by decide +kernel
theorem dX9_shoes_89 : decode cX9_shoes 89 = .ok (.iconst 1, 1) := by decide +kernel
theorem dX9_shoes_90 : decode cX9_shoes 90 = .ok (.iload 6, 2) := by decide +kernel
theorem dX9_shoes_92 : decode cX9_shoes 92 = .ok (.ishl, 1) := by decide +kernel
theorem dX9_shoes_93 : decode cX9_shoes 93 = .ok (.ior, 1) := by decide +kernel
theorem dX9_shoes_94 : decode cX9_shoes 94 = .ok (.istore 5, 2) := by decide +kernel
theorem dX9_shoes_96 : decode cX9_shoes 96 = .ok (.iinc 6 1, 3) := by decide +kernel
theorem dX9_shoes_99 : decode cX9_shoes 99 = .ok (.goto (-37), 3) := by decide +kernel
theorem dX9_shoes_102 : decode cX9_shoes 102 = .ok (.iload 5, 2) := by decide +kernel
theorem dX9_shoes_104 : decode cX9_shoes 104 = .ok (.ireturn, 1) := by decide +kernel
def lp_X9_shoes_62 (j102 : Int32 → Option (Int32 × gz_M)) (fu : Nat) (M : gz_M) (a0 : Nat) (a2 : Int32) (x5 : Nat) : Nat → Int32 → Int32 → Option (Int32 × gz_M)
  | 0, _, _ => none
  | n62 + 1, x11, x12 =>
    (gz_gI M 7 4 x5).bind fun x13 =>
    if x13 ≤ x12 then
      j102 x11
    else
      (gz_gR M 9 2 a0).bind fun x14 =>
      (gz_aR M x14 a2).bind fun x15 =>
      (f_X4_badnessFor fu M x15 x5 x12).bind fun x16 =>
      gz_jn (fun (x17 : Int32) =>
      lp_X9_shoes_62 j102 fu M a0 a2 x5 n62 x17 (x12 + (1 : Int32))) fun j96 =>
      if x16 = (-1 : Int32) then
        j96 x11
      else
        j96 (x11 ||| ((1 : Int32) <<< (x12 &&& 31)))
def f_X9_shoes (fu : Nat) (M : gz_M) (a0 : Nat) (a1 : Int32) (a2 : Int32) : Option (Int32 × gz_M) :=
  gz_gd M 9 a0 <|
  (f_X9_isValley fu M a0 a1).bind fun x1 =>
  gz_jn (gz_b2 (f_X9_refuse fu M a0 (-2 : Int32)) fun x19 M20 =>
    some (x19, M20)) fun j15 =>
  if x1 = 0 then
    j15
  else
    (f_X9_isShelf fu M a2).bind fun x2 =>
    if x2 = 0 then
      j15
    else
      (gz_gR M 9 3 a0).bind fun x3 =>
      (gz_gR M 8 0 x3).bind fun x4 =>
      (gz_aR M x4 a1).bind fun x5 =>
      (gz_gR M 9 2 a0).bind fun x6 =>
      (gz_aR M x6 a2).bind fun x7 =>
      (f_X4_toolRefusal fu M x7 x5).bind fun x8 =>
      if x8 = 0 then
        lp_X9_shoes_62 (fun (x18 : Int32) => some (x18, M)) fu M a0 a2 x5 fu (0 : Int32) (0 : Int32)
      else
        gz_b2 (f_X9_refuse fu M a0 x8) fun x9 M10 =>
        some (x9, M10)
set_option maxHeartbeats 4000000 in
theorem w_X9_shoes_62 {C : gz_C} {y : Int32 × gz_M} {fu : Nat} {M : gz_M} {a0 : Nat} {a2 : Int32} {x5 : Nat} {j102 : Int32 → Option (Int32 × gz_M)} (hC : gz_ok C cX9_shoes RX9 7) (hX : gz_cx C 6 144 0 0 (some .int) (some (.int y.1)) y.2 "shoes") (hj102 : ∀ (x18 : Int32), j102 x18 = some y → gz_go C 0 0 M [(5, .int x18)] 102 []) : ∀ (n : Nat) (x11 : Int32) (x12 : Int32), lp_X9_shoes_62 j102 fu M a0 a2 x5 n x11 x12 = some y → gz_go C 0 0 M [(0, .ref a0), (2, .int a2), (3, .ref x5), (5, .int x11), (6, .int x12)] 62 [] := by
  intro n
  induction n with
  | zero => intro x11 x12 hF; exact nomatch (show (none : Option (Int32 × gz_M)) = some y from hF)
  | succ n62 ih62 =>
    intro x11 x12 hF
    rw [lp_X9_shoes_62.eq_2] at hF
    refine gz_iload 62 hC 4 dX9_shoes_62 rfl ?_
    refine gz_aload_n 64 hC 2 dX9_shoes_64 rfl rfl ?_
    refine gz_getI 65 hC fl_X9_162 fk_7_4 dX9_shoes_65 hF (fun x13 hF => ?_)
    refine gz_icmp_ge 68 102 hC dX9_shoes_68 (by decide) hF (fun hF => ?_) (fun hF => ?_)
    · skip
      refine gz_sub [3] [(5, .int x11)] rfl ?_
      exact hj102 _ hF
    · skip
      refine gz_aload_n 71 hC 0 dX9_shoes_71 rfl rfl ?_
      refine gz_getR 72 hC fl_X9_27 fk_9_2 dX9_shoes_72 hF (fun x14 hF => ?_)
      refine gz_iload_n 75 hC 1 dX9_shoes_75 rfl rfl ?_
      refine gz_aald 76 hC dX9_shoes_76 hF (fun x15 hF => ?_)
      refine gz_aload_n 77 hC 2 dX9_shoes_77 rfl rfl ?_
      refine gz_iload 78 hC 4 dX9_shoes_78 rfl ?_
      refine gz_cvP (st := []) 80 hC hX [.ref x5, .int x12] Value.int yl_X4_badnessFor yv_X4_badnessFor q_517 ⟨Nat.le_of_ble_eq_true rfl, Nat.le_of_ble_eq_true rfl⟩ ⟨_, rfl⟩ (fun r h => ct_X4_badnessFor _ _ fu M x15 x5 x12 r h) rfl rfl (Nat.le_of_ble_eq_true rfl) dX9_shoes_80 gz_00 hF (fun x16 hF => ?_)
      refine gz_iconst 83 hC (-1 : Int32) dX9_shoes_83 gz_km1 ?_
      refine gz_join (fun (j : Int32 → Option (Int32 × gz_M)) => ∀ (x17 : Int32), j x17 = some y → gz_go C 0 0 M [(0, .ref a0), (2, .int a2), (3, .ref x5), (5, .int x17), (6, .int x12)] 96 []) hF (fun x17 hF => ?_) (fun j96 hj96 hF => ?_)
      · skip
        refine gz_iinc 96 hC (x12 + (1 : Int32)) 4 [(6, .int (x12 + (1 : Int32))), (0, .ref a0), (2, .int a2), (3, .ref x5), (5, .int x17)] dX9_shoes_96 rfl rfl (by decide) rfl ?_
        refine gz_goto 99 62 hC dX9_shoes_99 (by decide) ?_
        refine gz_sub [1, 2, 3, 4, 0] [(0, .ref a0), (2, .int a2), (3, .ref x5), (5, .int x17), (6, .int (x12 + (1 : Int32)))] rfl ?_
        exact ih62 _ _ hF
      refine gz_icmp_eq 84 96 hC dX9_shoes_84 (by decide) hF (fun hF => ?_) (fun hF => ?_)
      · skip
        exact hj96 _ hF
      · skip
        refine gz_iload 87 hC 3 dX9_shoes_87 rfl ?_
        refine gz_iconst 89 hC (1 : Int32) dX9_shoes_89 gz_k1 ?_
        refine gz_iload 90 hC 4 dX9_shoes_90 rfl ?_
        refine gz_ishl 92 hC dX9_shoes_92 ?_
        refine gz_ior 93 hC dX9_shoes_93 ?_
        refine gz_istore 94 hC [(5, .int (x11 ||| ((1 : Int32) <<< (x12 &&& 31)))), (0, .ref a0), (2, .int a2), (3, .ref x5), (6, .int x12)] dX9_shoes_94 (by decide) rfl ?_
        refine gz_sub [1, 2, 3, 0, 4] [(0, .ref a0), (2, .int a2), (3, .ref x5), (5, .int (x11 ||| ((1 : Int32) <<< (x12 &&& 31)))), (6, .int x12)] rfl ?_
        exact hj96 _ hF
set_option maxHeartbeats 4000000 in
theorem ct_X9_shoes (l : Launch) (G : gz_G) (fu : Nat) (M : gz_M) (a0 : Nat) (a1 : Int32) (a2 : Int32) (y : Int32 × gz_M) (hF : f_X9_shoes fu M a0 a1 a2 = some y) : gz_ct l yX9_shoes cX9_shoes 7 (some .int) 6 144 0 0 G [.ref a0, .int a1, .int a2] M (some (.int y.1)) y.2 := by
  refine gz_ct.of (by decide) (Nat.le_of_ble_eq_true rfl) (fun C hC hX => ?_)
  unfold f_X9_shoes at hF
  obtain ⟨-, hF⟩ := gz_gd_some hF
  show gz_go C 0 0 M [(0, .ref a0), (1, .int a1), (2, .int a2)] 0 []
  refine gz_aload_n 0 hC 0 dX9_shoes_0 rfl rfl ?_
  refine gz_iload_n 1 hC 1 dX9_shoes_1 rfl rfl ?_
  refine gz_cvP (st := []) 2 hC hX [.int a1] Value.int yl_X9_isValley yv_X9_isValley q_509 ⟨Nat.le_of_ble_eq_true rfl, Nat.le_of_ble_eq_true rfl⟩ ⟨_, rfl⟩ (fun r h => ct_X9_isValley _ _ fu M a0 a1 r h) rfl rfl (Nat.le_of_ble_eq_true rfl) dX9_shoes_2 gz_00 hF (fun x1 hF => ?_)
  refine gz_join (fun (j : Option (Int32 × gz_M)) => j = some y → gz_go C 0 0 M [(0, .ref a0)] 15 []) hF (fun hF => ?_) (fun j15 hj15 hF => ?_)
  · skip
    refine gz_aload_n 15 hC 0 dX9_shoes_15 rfl rfl ?_
    refine gz_bipush 16 hC (-2 : Int32) dX9_shoes_16 gz_bm2 ?_
    refine gz_cvM (st := []) 18 hC hX [.int (-2 : Int32)] Value.int yl_X9_refuse yv_X9_refuse q_417 ⟨Nat.le_of_ble_eq_true rfl, Nat.le_of_ble_eq_true rfl⟩ ⟨_, rfl⟩ (fun r h => ct_X9_refuse _ _ fu M a0 (-2 : Int32) r h) rfl rfl (Nat.le_of_ble_eq_true rfl) dX9_shoes_18 gz_00 hF (fun x19 M20 hF => ?_)
    exact gz_iretM 21 hC hX dX9_shoes_21 hF
  refine gz_if_eq 5 15 hC dX9_shoes_5 (by decide) hF (fun hF => ?_) (fun hF => ?_)
  · skip
    refine gz_sub [0] [(0, .ref a0)] rfl ?_
    exact hj15 hF
  · skip
    refine gz_iload_n 8 hC 2 dX9_shoes_8 rfl rfl ?_
    refine gz_csP (st := []) 9 hC hX [.int a2] Value.int yl_X9_isShelf yv_X9_isShelf q_411 ⟨Nat.le_of_ble_eq_true rfl, Nat.le_of_ble_eq_true rfl⟩ (fun r h => ct_X9_isShelf _ _ fu M a2 r h) rfl rfl (Nat.le_of_ble_eq_true rfl) dX9_shoes_9 gz_00 hF (fun x2 hF => ?_)
    refine gz_if_ne 12 22 hC dX9_shoes_12 (by decide) hF (fun hF => ?_) (fun hF => ?_)
    · skip
      refine gz_aload_n 22 hC 0 dX9_shoes_22 rfl rfl ?_
      refine gz_getR 23 hC fl_X9_34 fk_9_3 dX9_shoes_23 hF (fun x3 hF => ?_)
      refine gz_getR 26 hC fl_X9_147 fk_8_0 dX9_shoes_26 hF (fun x4 hF => ?_)
      refine gz_iload_n 29 hC 1 dX9_shoes_29 rfl rfl ?_
      refine gz_aald 30 hC dX9_shoes_30 hF (fun x5 hF => ?_)
      refine gz_astore_n 31 hC [(3, .ref x5), (0, .ref a0), (1, .int a1), (2, .int a2)] dX9_shoes_31 rfl (by decide) rfl ?_
      refine gz_aload_n 32 hC 1 dX9_shoes_32 rfl rfl ?_
      refine gz_getR 33 hC fl_X9_27 fk_9_2 dX9_shoes_33 hF (fun x6 hF => ?_)
      refine gz_iload_n 36 hC 3 dX9_shoes_36 rfl rfl ?_
      refine gz_aald 37 hC dX9_shoes_37 hF (fun x7 hF => ?_)
      refine gz_aload_n 38 hC 0 dX9_shoes_38 rfl rfl ?_
      refine gz_cvP (st := []) 39 hC hX [.ref x5] Value.int yl_X4_toolRefusal yv_X4_toolRefusal q_513 ⟨Nat.le_of_ble_eq_true rfl, Nat.le_of_ble_eq_true rfl⟩ ⟨_, rfl⟩ (fun r h => ct_X4_toolRefusal _ _ fu M x7 x5 r h) rfl rfl (Nat.le_of_ble_eq_true rfl) dX9_shoes_39 gz_00 hF (fun x8 hF => ?_)
      refine gz_istore 42 hC [(4, .int x8), (3, .ref x5), (0, .ref a0), (1, .int a1), (2, .int a2)] dX9_shoes_42 (by decide) rfl ?_
      refine gz_iload 44 hC 0 dX9_shoes_44 rfl ?_
      refine gz_if_eq 46 56 hC dX9_shoes_46 (by decide) hF (fun hF => ?_) (fun hF => ?_)
      · skip
        refine gz_iconst 56 hC (0 : Int32) dX9_shoes_56 gz_k0 ?_
        refine gz_istore 57 hC [(5, .int (0 : Int32)), (4, .int x8), (3, .ref x5), (0, .ref a0), (1, .int a1), (2, .int a2)] dX9_shoes_57 (by decide) rfl ?_
        refine gz_iconst 59 hC (0 : Int32) dX9_shoes_59 gz_k0 ?_
        refine gz_istore 60 hC [(6, .int (0 : Int32)), (5, .int (0 : Int32)), (4, .int x8), (3, .ref x5), (0, .ref a0), (1, .int a1), (2, .int a2)] dX9_shoes_60 (by decide) rfl ?_
        refine gz_sub [4, 6, 3, 1, 0] [(0, .ref a0), (2, .int a2), (3, .ref x5), (5, .int (0 : Int32)), (6, .int (0 : Int32))] rfl ?_
        refine w_X9_shoes_62 hC hX ?_ _ _ _ hF
        intro x18 hF
        refine gz_iload 102 hC 0 dX9_shoes_102 rfl ?_
        exact gz_iretM 104 hC hX dX9_shoes_104 hF
      · skip
        refine gz_aload_n 49 hC 2 dX9_shoes_49 rfl rfl ?_
        refine gz_iload 50 hC 0 dX9_shoes_50 rfl ?_
        refine gz_cvM (st := []) 52 hC hX [.int x8] Value.int yl_X9_refuse yv_X9_refuse q_417 ⟨Nat.le_of_ble_eq_true rfl, Nat.le_of_ble_eq_true rfl⟩ ⟨_, rfl⟩ (fun r h => ct_X9_refuse _ _ fu M a0 x8 r h) rfl rfl (Nat.le_of_ble_eq_true rfl) dX9_shoes_52 gz_00 hF (fun x9 M10 hF => ?_)
        exact gz_iretM 55 hC hX dX9_shoes_55 hF
    · skip
      refine gz_sub [0] [(0, .ref a0)] rfl ?_
      exact hj15 hF

theorem dX9_feed_0 : decode cX9_feed 0 = .ok (.iload_n 2, 1) := by decide +kernel
theorem dX9_feed_1 : decode cX9_feed 1 = .ok (.iconst 1, 1) := by decide +kernel
theorem dX9_feed_2 : decode cX9_feed 2 = .ok (.iconst 4, 1) := by decide +kernel
theorem dX9_feed_3 : decode cX9_feed 3 = .ok (.invokestatic 75, 3) := by decide +kernel
theorem dX9_feed_6 : decode cX9_feed 6 = .ok (.ifCond .ne 10, 3) := by decide +kernel
theorem dX9_feed_9 : decode cX9_feed 9 = .ok (.aload_n 0, 1) := by decide +kernel
theorem dX9_feed_10 : decode cX9_feed 10 = .ok (.bipush (-2), 2) := by decide +kernel
theorem dX9_feed_12 : decode cX9_feed 12 = .ok (.invokevirtual 79, 3) := by decide +kernel
theorem dX9_feed_15 : decode cX9_feed 15 = .ok (.ireturn, 1) := by decide +kernel
theorem dX9_feed_16 : decode cX9_feed 16 = .ok (.aload_n 0, 1) := by decide +kernel
theorem dX9_feed_17 : decode cX9_feed 17 = .ok (.getfield 12, 3) := by decide +kernel
theorem dX9_feed_20 : decode cX9_feed 20 = .ok (.getfield 167, 3) := by decide +kernel
theorem dX9_feed_23 : decode cX9_feed 23 = .ok (.iload_n 2, 1) := by decide +kernel
theorem dX9_feed_24 : decode cX9_feed 24 = .ok (.iadd, 1) := by decide +kernel
theorem dX9_feed_25 : decode cX9_feed 25 = .ok (.sipush 250, 3) := by decide +kernel
theorem dX9_feed_28 : decode cX9_feed 28 = .ok (.if_icmp .le 10, 3) := by decide +kernel
theorem dX9_feed_31 : decode cX9_feed 31 = .ok (.aload_n 0, 1) := by decide +kernel
theorem dX9_feed_32 : decode cX9_feed 32 = .ok (.bipush (-6), 2) := by decide +kernel
theorem dX9_feed_34 : decode cX9_feed 34 = .ok (.invokevirtual 79, 3) := by decide +kernel
theorem dX9_feed_37 : decode cX9_feed 37 = .ok (.ireturn, 1) := by decide +kernel
theorem dX9_feed_38 : decode cX9_feed 38 = .ok (.iload_n 2, 1) := by decide +kernel
theorem dX9_feed_39 : decode cX9_feed 39 = .ok (.iconst 1, 1) := by decide +kernel
theorem dX9_feed_40 : decode cX9_feed 40 = .ok (.isub, 1) := by decide +kernel
theorem dX9_feed_41 : decode cX9_feed 41 = .ok (.istore_n 3, 1) := by decide +kernel
theorem dX9_feed_42 : decode cX9_feed 42 = .ok (.iload_n 3, 1) := by decide +kernel
theorem dX9_feed_43 : decode cX9_feed 43 = .ok (.ifCond .lt 26, 3) := by decide +kernel
theorem dX9_feed_46 : decode cX9_feed 46 = .ok (.aload_n 0, 1) := by decide +kernel
theorem dX9_feed_47 : decode cX9_feed 47 = .ok (.getfield 12, 3) := by decide +kernel
theorem dX9_feed_50 : decode cX9_feed 50 = .ok (.iload_n 1, 1) := by decide +kernel
theorem dX9_feed_51 : decode cX9_feed 51 = .ok (.bipush 8, 2) := by decide +kernel
theorem dX9_feed_53 : decode cX9_feed 53 = .ok (.iload_n 3, 1) := by decide +kernel
theorem dX9_feed_54 : decode cX9_feed 54 = .ok (.imul, 1) := by decide +kernel
theorem dX9_feed_55 : decode cX9_feed 55 = .ok (.iushr, 1) := by decide +kernel
theorem dX9_feed_56 : decode cX9_feed 56 = .ok (.sipush 255, 3) := by decide +kernel
theorem dX9_feed_59 : decode cX9_feed 59 = .ok (.iand, 1) := by decide +kernel
theorem dX9_feed_60 : decode cX9_feed 60 = .ok (.invokevirtual 168, 3) := by decide +kernel
theorem dX9_feed_63 : decode cX9_feed 63 = .ok (.iinc 3 (-1), 3) := by decide +kernel
theorem dX9_feed_66 : decode cX9_feed 66 = .ok (.goto (-24), 3) := by decide +kernel
theorem dX9_feed_69 : decode cX9_feed 69 = .ok (.aload_n 0, 1) := by decide +kernel
theorem dX9_feed_70 : decode cX9_feed 70 = .ok (.getfield 12, 3) := by decide +kernel
theorem dX9_feed_73 : decode cX9_feed 73 = .ok (.getfield 167, 3) := by decide +kernel
theorem dX9_feed_76 : decode cX9_feed 76 = .ok (.ireturn, 1) := by decide +kernel
def lp_X9_feed_42 (j69 : gz_M → Option (Int32 × gz_M)) (fu : Nat) (a0 : Nat) (a1 : Int32) : Nat → Int32 → gz_M → Option (Int32 × gz_M)
  | 0, _, _ => none
  | n42 + 1, x8, M9 =>
    if x8 < 0 then
      j69 M9
    else
      (gz_gR M9 9 0 a0).bind fun x10 =>
      (f_X6_add fu M9 x10 (((a1).toUInt32 >>> ((((8 : Int32) * x8)).toUInt32 &&& Int32.toUInt32 31)).toInt32 &&& (255 : Int32))).bind fun M11 =>
      lp_X9_feed_42 j69 fu a0 a1 n42 (x8 + (-1 : Int32)) M11
def f_X9_feed (fu : Nat) (M : gz_M) (a0 : Nat) (a1 : Int32) (a2 : Int32) : Option (Int32 × gz_M) :=
  gz_gd M 9 a0 <|
  (f_X9_isWithin fu M a2 (1 : Int32) (4 : Int32)).bind fun x1 =>
  if x1 = 0 then
    gz_b2 (f_X9_refuse fu M a0 (-2 : Int32)) fun x2 M3 =>
    some (x2, M3)
  else
    (gz_gR M 9 0 a0).bind fun x4 =>
    (gz_gI M 6 1 x4).bind fun x5 =>
    if (x5 + a2) ≤ (250 : Int32) then
      lp_X9_feed_42 (fun (M12 : gz_M) => (gz_gR M12 9 0 a0).bind fun x13 =>
        (gz_gI M12 6 1 x13).bind fun x14 =>
        some (x14, M12)) fu a0 a1 fu (a2 - (1 : Int32)) M
    else
      gz_b2 (f_X9_refuse fu M a0 (-6 : Int32)) fun x6 M7 =>
      some (x6, M7)
set_option maxHeartbeats 4000000 in
theorem w_X9_feed_42 {C : gz_C} {y : Int32 × gz_M} {fu : Nat} {a0 : Nat} {a1 : Int32} {j69 : gz_M → Option (Int32 × gz_M)} (hC : gz_ok C cX9_feed RX9 4) (hX : gz_cx C 1 22 0 0 (some .int) (some (.int y.1)) y.2 "feed") (hj69 : ∀ (M12 : gz_M), j69 M12 = some y → gz_go C 0 0 M12 [(0, .ref a0)] 69 []) : ∀ (n : Nat) (x8 : Int32) (M9 : gz_M), lp_X9_feed_42 j69 fu a0 a1 n x8 M9 = some y → gz_go C 0 0 M9 [(0, .ref a0), (1, .int a1), (3, .int x8)] 42 [] := by
  intro n
  induction n with
  | zero => intro x8 M9 hF; exact nomatch (show (none : Option (Int32 × gz_M)) = some y from hF)
  | succ n42 ih42 =>
    intro x8 M9 hF
    rw [lp_X9_feed_42.eq_2] at hF
    refine gz_iload_n 42 hC 2 dX9_feed_42 rfl rfl ?_
    refine gz_if_lt 43 69 hC dX9_feed_43 (by decide) hF (fun hF => ?_) (fun hF => ?_)
    · skip
      refine gz_sub [0] [(0, .ref a0)] rfl ?_
      exact hj69 _ hF
    · skip
      refine gz_aload_n 46 hC 0 dX9_feed_46 rfl rfl ?_
      refine gz_getR 47 hC fl_X9_12 fk_9_0 dX9_feed_47 hF (fun x10 hF => ?_)
      refine gz_iload_n 50 hC 1 dX9_feed_50 rfl rfl ?_
      refine gz_bipush 51 hC (8 : Int32) dX9_feed_51 gz_b8 ?_
      refine gz_iload_n 53 hC 2 dX9_feed_53 rfl rfl ?_
      refine gz_imul 54 hC dX9_feed_54 ?_
      refine gz_iushr 55 hC dX9_feed_55 ?_
      refine gz_sipush 56 hC (255 : Int32) dX9_feed_56 gz_s255 ?_
      refine gz_iand 59 hC dX9_feed_59 ?_
      refine gz_cvV (st := []) 60 hC hX [.int (((a1).toUInt32 >>> ((((8 : Int32) * x8)).toUInt32 &&& Int32.toUInt32 31)).toInt32 &&& (255 : Int32))] yl_X6_add yv_X6_add q_560 ⟨Nat.le_of_ble_eq_true rfl, Nat.le_of_ble_eq_true rfl⟩ ⟨_, rfl⟩ (fun r h => ct_X6_add _ _ fu M9 x10 (((a1).toUInt32 >>> ((((8 : Int32) * x8)).toUInt32 &&& Int32.toUInt32 31)).toInt32 &&& (255 : Int32)) r h) rfl rfl (Nat.le_of_ble_eq_true rfl) dX9_feed_60 gz_00 hF (fun M11 hF => ?_)
      refine gz_iinc 63 hC (x8 + (-1 : Int32)) 2 [(3, .int (x8 + (-1 : Int32))), (0, .ref a0), (1, .int a1)] dX9_feed_63 rfl rfl (by decide) rfl ?_
      refine gz_goto 66 42 hC dX9_feed_66 (by decide) ?_
      refine gz_sub [1, 2, 0] [(0, .ref a0), (1, .int a1), (3, .int (x8 + (-1 : Int32)))] rfl ?_
      exact ih42 _ _ hF
set_option maxHeartbeats 4000000 in
theorem ct_X9_feed (l : Launch) (G : gz_G) (fu : Nat) (M : gz_M) (a0 : Nat) (a1 : Int32) (a2 : Int32) (y : Int32 × gz_M) (hF : f_X9_feed fu M a0 a1 a2 = some y) : gz_ct l yX9_feed cX9_feed 4 (some .int) 1 22 0 0 G [.ref a0, .int a1, .int a2] M (some (.int y.1)) y.2 := by
  refine gz_ct.of (by decide) (Nat.le_of_ble_eq_true rfl) (fun C hC hX => ?_)
  unfold f_X9_feed at hF
  obtain ⟨-, hF⟩ := gz_gd_some hF
  show gz_go C 0 0 M [(0, .ref a0), (1, .int a1), (2, .int a2)] 0 []
  refine gz_iload_n 0 hC 2 dX9_feed_0 rfl rfl ?_
  refine gz_iconst 1 hC (1 : Int32) dX9_feed_1 gz_k1 ?_
  refine gz_iconst 2 hC (4 : Int32) dX9_feed_2 gz_k4 ?_
  refine gz_csP (st := []) 3 hC hX [.int a2, .int (1 : Int32), .int (4 : Int32)] Value.int yl_X9_isWithin yv_X9_isWithin q_414 ⟨Nat.le_of_ble_eq_true rfl, Nat.le_of_ble_eq_true rfl⟩ (fun r h => ct_X9_isWithin _ _ fu M a2 (1 : Int32) (4 : Int32) r h) rfl rfl (Nat.le_of_ble_eq_true rfl) dX9_feed_3 gz_00 hF (fun x1 hF => ?_)
  refine gz_if_ne 6 16 hC dX9_feed_6 (by decide) hF (fun hF => ?_) (fun hF => ?_)
  · skip
    refine gz_aload_n 16 hC 0 dX9_feed_16 rfl rfl ?_
    refine gz_getR 17 hC fl_X9_12 fk_9_0 dX9_feed_17 hF (fun x4 hF => ?_)
    refine gz_getI 20 hC fl_X9_167 fk_6_1 dX9_feed_20 hF (fun x5 hF => ?_)
    refine gz_iload_n 23 hC 2 dX9_feed_23 rfl rfl ?_
    refine gz_iadd 24 hC dX9_feed_24 ?_
    refine gz_sipush 25 hC (250 : Int32) dX9_feed_25 gz_s250 ?_
    refine gz_icmp_le 28 38 hC dX9_feed_28 (by decide) hF (fun hF => ?_) (fun hF => ?_)
    · skip
      refine gz_iload_n 38 hC 2 dX9_feed_38 rfl rfl ?_
      refine gz_iconst 39 hC (1 : Int32) dX9_feed_39 gz_k1 ?_
      refine gz_isub 40 hC dX9_feed_40 ?_
      refine gz_istore_n 41 hC [(3, .int (a2 - (1 : Int32))), (0, .ref a0), (1, .int a1), (2, .int a2)] dX9_feed_41 rfl (by decide) rfl ?_
      refine gz_sub [1, 2, 0] [(0, .ref a0), (1, .int a1), (3, .int (a2 - (1 : Int32)))] rfl ?_
      refine w_X9_feed_42 hC hX ?_ _ _ _ hF
      intro M12 hF
      refine gz_aload_n 69 hC 0 dX9_feed_69 rfl rfl ?_
      refine gz_getR 70 hC fl_X9_12 fk_9_0 dX9_feed_70 hF (fun x13 hF => ?_)
      refine gz_getI 73 hC fl_X9_167 fk_6_1 dX9_feed_73 hF (fun x14 hF => ?_)
      exact gz_iretM 76 hC hX dX9_feed_76 hF
    · skip
      refine gz_aload_n 31 hC 0 dX9_feed_31 rfl rfl ?_
      refine gz_bipush 32 hC (-6 : Int32) dX9_feed_32 gz_bm6 ?_
      refine gz_cvM (st := []) 34 hC hX [.int (-6 : Int32)] Value.int yl_X9_refuse yv_X9_refuse q_417 ⟨Nat.le_of_ble_eq_true rfl, Nat.le_of_ble_eq_true rfl⟩ ⟨_, rfl⟩ (fun r h => ct_X9_refuse _ _ fu M a0 (-6 : Int32) r h) rfl rfl (Nat.le_of_ble_eq_true rfl) dX9_feed_34 gz_00 hF (fun x6 M7 hF => ?_)
      exact gz_iretM 37 hC hX dX9_feed_37 hF
  · skip
    refine gz_aload_n 9 hC 0 dX9_feed_9 rfl rfl ?_
    refine gz_bipush 10 hC (-2 : Int32) dX9_feed_10 gz_bm2 ?_
    refine gz_cvM (st := []) 12 hC hX [.int (-2 : Int32)] Value.int yl_X9_refuse yv_X9_refuse q_417 ⟨Nat.le_of_ble_eq_true rfl, Nat.le_of_ble_eq_true rfl⟩ ⟨_, rfl⟩ (fun r h => ct_X9_refuse _ _ fu M a0 (-2 : Int32) r h) rfl rfl (Nat.le_of_ble_eq_true rfl) dX9_feed_12 gz_00 hF (fun x2 M3 hF => ?_)
    exact gz_iretM 15 hC hX dX9_feed_15 hF

theorem dX9_wipe_0 : decode cX9_wipe 0 = .ok (.aload_n 0, 1) := by decide +kernel
theorem dX9_wipe_1 : decode cX9_wipe 1 = .ok (.getfield 12, 3) := by decide +kernel
theorem dX9_wipe_4 : decode cX9_wipe 4 = .ok (.getfield 167, 3) := by decide +kernel
theorem dX9_wipe_7 : decode cX9_wipe 7 = .ok (.istore_n 1, 1) := by decide +kernel
theorem dX9_wipe_8 : decode cX9_wipe 8 = .ok (.aload_n 0, 1) := by decide +kernel
theorem dX9_wipe_9 : decode cX9_wipe 9 = .ok (.getfield 12, 3) := by decide +kernel
theorem dX9_wipe_12 : decode cX9_wipe 12 = .ok (.iconst 0, 1) := by decide +kernel
theorem dX9_wipe_13 : decode cX9_wipe 13 = .ok (.putfield 167, 3) := by decide +kernel
theorem dX9_wipe_16 : decode cX9_wipe 16 = .ok (.iload_n 1, 1) := by decide +kernel
theorem dX9_wipe_17 : decode cX9_wipe 17 = .ok (.ireturn, 1) := by decide +kernel

def f_X9_wipe (fu : Nat) (M : gz_M) (a0 : Nat) : Option (Int32 × gz_M) :=
  gz_gd M 9 a0 <|
  (gz_gR M 9 0 a0).bind fun x1 =>
  (gz_gI M 6 1 x1).bind fun x2 =>
  (gz_gR M 9 0 a0).bind fun x3 =>
  (gz_pI M 6 1 x3 (0 : Int32)).bind fun M4 =>
  some (x2, M4)

set_option maxHeartbeats 4000000 in
theorem ct_X9_wipe (l : Launch) (G : gz_G) (fu : Nat) (M : gz_M) (a0 : Nat) (y : Int32 × gz_M) (hF : f_X9_wipe fu M a0 = some y) : gz_ct l yX9_wipe cX9_wipe 2 (some .int) 0 0 0 0 G [.ref a0] M (some (.int y.1)) y.2 := by
  refine gz_ct.of (by decide) (Nat.le_of_ble_eq_true rfl) (fun C hC hX => ?_)
  unfold f_X9_wipe at hF
  obtain ⟨-, hF⟩ := gz_gd_some hF
  show gz_go C 0 0 M [(0, .ref a0)] 0 []
  refine gz_aload_n 0 hC 0 dX9_wipe_0 rfl rfl ?_
  refine gz_getR 1 hC fl_X9_12 fk_9_0 dX9_wipe_1 hF (fun x1 hF => ?_)
  refine gz_getI 4 hC fl_X9_167 fk_6_1 dX9_wipe_4 hF (fun x2 hF => ?_)
  refine gz_istore_n 7 hC [(1, .int x2), (0, .ref a0)] dX9_wipe_7 rfl (by decide) rfl ?_
  refine gz_aload_n 8 hC 1 dX9_wipe_8 rfl rfl ?_
  refine gz_getR 9 hC fl_X9_12 fk_9_0 dX9_wipe_9 hF (fun x3 hF => ?_)
  refine gz_iconst 12 hC (0 : Int32) dX9_wipe_12 gz_k0 ?_
  refine gz_putI 13 hC fl_X9_167 fk_6_1 dX9_wipe_13 hF (fun M4 hF => ?_)
  refine gz_iload_n 16 hC 0 dX9_wipe_16 rfl rfl ?_
  exact gz_iretM 17 hC hX dX9_wipe_17 hF

theorem dX9_valley_0 : decode cX9_valley 0 = .ok (.aload_n 0, 1) := by decide +kernel
theorem dX9_valley_1 : decode cX9_valley 1 = .ok (.getfield 34, 3) := by decide +kernel
theorem dX9_valley_4 : decode cX9_valley 4 = .ok (.getfield 172, 3) := by decide +kernel
theorem dX9_valley_7 : decode cX9_valley 7 = .ok (.iconst 4, 1) := by decide +kernel
theorem dX9_valley_8 : decode cX9_valley 8 = .ok (.if_icmp .lt 10, 3) := by decide +kernel
theorem dX9_valley_11 : decode cX9_valley 11 = .ok (.aload_n 0, 1) := by decide +kernel
theorem dX9_valley_12 : decode cX9_valley 12 = .ok (.bipush (-6), 2) := by decide +kernel
theorem dX9_valley_14 : decode cX9_valley 14 = .ok (.invokevirtual 79, 3) := by decide +kernel
theorem dX9_valley_17 : decode cX9_valley 17 = .ok (.ireturn, 1) := by decide +kernel
theorem dX9_valley_18 : decode cX9_valley 18 = .ok (.aload_n 0, 1) := by decide +kernel
theorem dX9_valley_19 : decode cX9_valley 19 = .ok (.getfield 34, 3) := by decide +kernel
theorem dX9_valley_22 : decode cX9_valley 22 = .ok (.getfield 172, 3) := by decide +kernel
theorem dX9_valley_25 : decode cX9_valley 25 = .ok (.istore_n 1, 1) := by decide +kernel
theorem dX9_valley_26 : decode cX9_valley 26 = .ok (.aload_n 0, 1) := by decide +kernel
theorem dX9_valley_27 : decode cX9_valley 27 = .ok (.getfield 21, 3) := by decide +kernel
theorem dX9_valley_30 : decode cX9_valley 30 = .ok (.aload_n 0, 1) := by decide +kernel
theorem dX9_valley_31 : decode cX9_valley 31 = .ok (.getfield 34, 3) := by decide +kernel
theorem dX9_valley_34 : decode cX9_valley 34 = .ok (.getfield 147, 3) := by decide +kernel
theorem dX9_valley_37 : decode cX9_valley 37 = .ok (.iload_n 1, 1) := by decide +kernel
theorem dX9_valley_38 : decode cX9_valley 38 = .ok (.aaload, 1) := by decide +kernel
theorem dX9_valley_39 : decode cX9_valley 39 = .ok (.invokevirtual 175, 3) := by decide +kernel
theorem dX9_valley_42 : decode cX9_valley 42 = .ok (.istore_n 2, 1) := by decide +kernel
theorem dX9_valley_43 : decode cX9_valley 43 = .ok (.aload_n 0, 1) := by decide +kernel
theorem dX9_valley_44 : decode cX9_valley 44 = .ok (.getfield 12, 3) := by decide +kernel
theorem dX9_valley_47 : decode cX9_valley 47 = .ok (.iconst 0, 1) := by decide +kernel
theorem dX9_valley_48 : decode cX9_valley 48 = .ok (.putfield 167, 3) := by decide +kernel
theorem dX9_valley_51 : decode cX9_valley 51 = .ok (.iload_n 2, 1) := by decide +kernel
theorem dX9_valley_52 : decode cX9_valley 52 = .ok (.iconst (-1), 1) := by decide +kernel
theorem dX9_valley_53 : decode cX9_valley 53 = .ok (.if_icmp .eq 15, 3) := by decide +kernel
theorem dX9_valley_56 : decode cX9_valley 56 = .ok (.aload_n 0, 1) := by decide +kernel
theorem dX9_valley_57 : decode cX9_valley 57 = .ok (.bipush (-2), 2) := by decide +kernel
theorem dX9_valley_59 : decode cX9_valley 59 = .ok (.invokevirtual 79, 3) := by decide +kernel
theorem dX9_valley_62 : decode cX9_valley 62 = .ok (.pop, 1) := by decide +kernel
theorem dX9_valley_63 : decode cX9_valley 63 = .ok (.bipush (-20), 2) := by decide +kernel
theorem dX9_valley_65 : decode cX9_valley 65 = .ok (.iload_n 2, 1) := by decide +kernel
theorem dX9_valley_66 : decode cX9_valley 66 = .ok (.isub, 1) := by decide +kernel
theorem dX9_valley_67 : decode cX9_valley 67 = .ok (.ireturn, 1) := by decide +kernel
theorem dX9_valley_68 : decode cX9_valley 68 = .ok (.aload_n 0, 1) := by decide +kernel
theorem dX9_valley_69 : decode cX9_valley 69 = .ok (.getfield 34, 3) := by decide +kernel
theorem dX9_valley_72 : decode cX9_valley 72 = .ok (.dup, 1) := by decide +kernel
theorem dX9_valley_73 : decode cX9_valley 73 = .ok (.getfield 172, 3) := by decide +kernel
theorem dX9_valley_76 : decode cX9_valley 76 = .ok (.iconst 1, 1) := by decide +kernel
theorem dX9_valley_77 : decode cX9_valley 77 = .ok (.iadd, 1) := by decide +kernel
theorem dX9_valley_78 : decode cX9_valley 78 = .ok (.putfield 172, 3) := by decide +kernel
theorem dX9_valley_81 : decode cX9_valley 81 = .ok (.iload_n 1, 1) := by decide +kernel
theorem dX9_valley_82 : decode cX9_valley 82 = .ok (.ireturn, 1) := by decide +kernel

def f_X9_valley (fu : Nat) (M : gz_M) (a0 : Nat) : Option (Int32 × gz_M) :=
  gz_gd M 9 a0 <|
  (gz_gR M 9 3 a0).bind fun x1 =>
  (gz_gI M 8 2 x1).bind fun x2 =>
  if x2 < (4 : Int32) then
    (gz_gR M 9 3 a0).bind fun x5 =>
    (gz_gI M 8 2 x5).bind fun x6 =>
    (gz_gR M 9 1 a0).bind fun x7 =>
    (gz_gR M 9 3 a0).bind fun x8 =>
    (gz_gR M 8 0 x8).bind fun x9 =>
    (gz_aR M x9 x6).bind fun x10 =>
    gz_b2 (f_X2_readInto fu M x7 x10) fun x11 M12 =>
    (gz_gR M12 9 0 a0).bind fun x13 =>
    (gz_pI M12 6 1 x13 (0 : Int32)).bind fun M14 =>
    if x11 = (-1 : Int32) then
      (gz_gR M14 9 3 a0).bind fun x17 =>
      (gz_gI M14 8 2 x17).bind fun x18 =>
      (gz_pI M14 8 2 x17 (x18 + (1 : Int32))).bind fun M19 =>
      some (x6, M19)
    else
      gz_b2 (f_X9_refuse fu M14 a0 (-2 : Int32)) fun x15 M16 =>
      some (((-20 : Int32) - x11), M16)
  else
    gz_b2 (f_X9_refuse fu M a0 (-6 : Int32)) fun x3 M4 =>
    some (x3, M4)

set_option maxHeartbeats 4000000 in
theorem ct_X9_valley (l : Launch) (G : gz_G) (fu : Nat) (M : gz_M) (a0 : Nat) (y : Int32 × gz_M) (hF : f_X9_valley fu M a0 = some y) : gz_ct l yX9_valley cX9_valley 3 (some .int) 8 175 0 0 G [.ref a0] M (some (.int y.1)) y.2 := by
  refine gz_ct.of (by decide) (Nat.le_of_ble_eq_true rfl) (fun C hC hX => ?_)
  unfold f_X9_valley at hF
  obtain ⟨-, hF⟩ := gz_gd_some hF
  show gz_go C 0 0 M [(0, .ref a0)] 0 []
  refine gz_aload_n 0 hC 0 dX9_valley_0 rfl rfl ?_
  refine gz_getR 1 hC fl_X9_34 fk_9_3 dX9_valley_1 hF (fun x1 hF => ?_)
  refine gz_getI 4 hC fl_X9_172 fk_8_2 dX9_valley_4 hF (fun x2 hF => ?_)
  refine gz_iconst 7 hC (4 : Int32) dX9_valley_7 gz_k4 ?_
  refine gz_icmp_lt 8 18 hC dX9_valley_8 (by decide) hF (fun hF => ?_) (fun hF => ?_)
  · skip
    refine gz_aload_n 18 hC 0 dX9_valley_18 rfl rfl ?_
    refine gz_getR 19 hC fl_X9_34 fk_9_3 dX9_valley_19 hF (fun x5 hF => ?_)
    refine gz_getI 22 hC fl_X9_172 fk_8_2 dX9_valley_22 hF (fun x6 hF => ?_)
    refine gz_istore_n 25 hC [(1, .int x6), (0, .ref a0)] dX9_valley_25 rfl (by decide) rfl ?_
    refine gz_aload_n 26 hC 1 dX9_valley_26 rfl rfl ?_
    refine gz_getR 27 hC fl_X9_21 fk_9_1 dX9_valley_27 hF (fun x7 hF => ?_)
    refine gz_aload_n 30 hC 1 dX9_valley_30 rfl rfl ?_
    refine gz_getR 31 hC fl_X9_34 fk_9_3 dX9_valley_31 hF (fun x8 hF => ?_)
    refine gz_getR 34 hC fl_X9_147 fk_8_0 dX9_valley_34 hF (fun x9 hF => ?_)
    refine gz_iload_n 37 hC 0 dX9_valley_37 rfl rfl ?_
    refine gz_aald 38 hC dX9_valley_38 hF (fun x10 hF => ?_)
    refine gz_cvM (st := []) 39 hC hX [.ref x10] Value.int yl_X2_readInto yv_X2_readInto q_572 ⟨Nat.le_of_ble_eq_true rfl, Nat.le_of_ble_eq_true rfl⟩ ⟨_, rfl⟩ (fun r h => ct_X2_readInto _ _ fu M x7 x10 r h) rfl rfl (Nat.le_of_ble_eq_true rfl) dX9_valley_39 gz_00 hF (fun x11 M12 hF => ?_)
    refine gz_istore_n 42 hC [(2, .int x11), (1, .int x6), (0, .ref a0)] dX9_valley_42 rfl (by decide) rfl ?_
    refine gz_aload_n 43 hC 2 dX9_valley_43 rfl rfl ?_
    refine gz_getR 44 hC fl_X9_12 fk_9_0 dX9_valley_44 hF (fun x13 hF => ?_)
    refine gz_iconst 47 hC (0 : Int32) dX9_valley_47 gz_k0 ?_
    refine gz_putI 48 hC fl_X9_167 fk_6_1 dX9_valley_48 hF (fun M14 hF => ?_)
    refine gz_iload_n 51 hC 0 dX9_valley_51 rfl rfl ?_
    refine gz_iconst 52 hC (-1 : Int32) dX9_valley_52 gz_km1 ?_
    refine gz_icmp_eq 53 68 hC dX9_valley_53 (by decide) hF (fun hF => ?_) (fun hF => ?_)
    · skip
      refine gz_aload_n 68 hC 2 dX9_valley_68 rfl rfl ?_
      refine gz_getR 69 hC fl_X9_34 fk_9_3 dX9_valley_69 hF (fun x17 hF => ?_)
      refine gz_dup 72 hC dX9_valley_72 rfl ?_
      refine gz_getI 73 hC fl_X9_172 fk_8_2 dX9_valley_73 hF (fun x18 hF => ?_)
      refine gz_iconst 76 hC (1 : Int32) dX9_valley_76 gz_k1 ?_
      refine gz_iadd 77 hC dX9_valley_77 ?_
      refine gz_putI 78 hC fl_X9_172 fk_8_2 dX9_valley_78 hF (fun M19 hF => ?_)
      refine gz_iload_n 81 hC 1 dX9_valley_81 rfl rfl ?_
      exact gz_iretM 82 hC hX dX9_valley_82 hF
    · skip
      refine gz_aload_n 56 hC 2 dX9_valley_56 rfl rfl ?_
      refine gz_bipush 57 hC (-2 : Int32) dX9_valley_57 gz_bm2 ?_
      refine gz_cvM (st := []) 59 hC hX [.int (-2 : Int32)] Value.int yl_X9_refuse yv_X9_refuse q_417 ⟨Nat.le_of_ble_eq_true rfl, Nat.le_of_ble_eq_true rfl⟩ ⟨_, rfl⟩ (fun r h => ct_X9_refuse _ _ fu M14 a0 (-2 : Int32) r h) rfl rfl (Nat.le_of_ble_eq_true rfl) dX9_valley_59 gz_00 hF (fun x15 M16 hF => ?_)
      refine gz_pop 62 hC dX9_valley_62 rfl ?_
      refine gz_bipush 63 hC (-20 : Int32) dX9_valley_63 gz_bm20 ?_
      refine gz_iload_n 65 hC 0 dX9_valley_65 rfl rfl ?_
      refine gz_isub 66 hC dX9_valley_66 ?_
      exact gz_iretM 67 hC hX dX9_valley_67 hF
  · skip
    refine gz_aload_n 11 hC 0 dX9_valley_11 rfl rfl ?_
    refine gz_bipush 12 hC (-6 : Int32) dX9_valley_12 gz_bm6 ?_
    refine gz_cvM (st := []) 14 hC hX [.int (-6 : Int32)] Value.int yl_X9_refuse yv_X9_refuse q_417 ⟨Nat.le_of_ble_eq_true rfl, Nat.le_of_ble_eq_true rfl⟩ ⟨_, rfl⟩ (fun r h => ct_X9_refuse _ _ fu M a0 (-6 : Int32) r h) rfl rfl (Nat.le_of_ble_eq_true rfl) dX9_valley_14 gz_00 hF (fun x3 M4 hF => ?_)
    exact gz_iretM 17 hC hX dX9_valley_17 hF

theorem dX9_valleyOf_0 : decode cX9_valleyOf 0 = .ok (.aload_n 0, 1) := by decide +kernel
theorem dX9_valleyOf_1 : decode cX9_valleyOf 1 = .ok (.iload_n 1, 1) := by decide +kernel
theorem dX9_valleyOf_2 : decode cX9_valleyOf 2 = .ok (.invokevirtual 159, 3) := by decide +kernel
theorem dX9_valleyOf_5 : decode cX9_valleyOf 5 = .ok (.ifCond .eq 13, 3) := by decide +kernel
theorem dX9_valleyOf_8 : decode cX9_valleyOf 8 = .ok (.iload_n 2, 1) := by decide +kernel
theorem dX9_valleyOf_9 : decode cX9_valleyOf 9 = .ok (.iconst 0, 1) := by decide +kernel
theorem dX9_valleyOf_10 : decode cX9_valleyOf 10 = .ok (.bipush 10, 2) := by decide +kernel
theorem dX9_valleyOf_12 : decode cX9_valleyOf 12 = .ok (.invokestatic 75, 3) := by decide +kernel
theorem dX9_valleyOf_15 : decode cX9_valleyOf 15 = .ok (.ifCond .ne 10, 3) := by decide +kernel
theorem dX9_valleyOf_18 : decode cX9_valleyOf 18 = .ok (.aload_n 0, 1) := by decide +kernel
theorem dX9_valleyOf_19 : decode cX9_valleyOf 19 = .ok (.bipush (-2), 2) := by decide +kernel
theorem dX9_valleyOf_21 : decode cX9_valleyOf 21 = .ok (.invokevirtual 79, 3) := by decide +kernel
theorem dX9_valleyOf_24 : decode cX9_valleyOf 24 = .ok (.ireturn, 1) := by decide +kernel
theorem dX9_valleyOf_25 : decode cX9_valleyOf 25 = .ok (.aload_n 0, 1) := by decide +kernel
theorem dX9_valleyOf_26 : decode cX9_valleyOf 26 = .ok (.getfield 34, 3) := by decide +kernel
theorem dX9_valleyOf_29 : decode cX9_valleyOf 29 = .ok (.getfield 147, 3) := by decide +kernel
theorem dX9_valleyOf_32 : decode cX9_valleyOf 32 = .ok (.iload_n 1, 1) := by decide +kernel
theorem dX9_valleyOf_33 : decode cX9_valleyOf 33 = .ok (.aaload, 1) := by decide +kernel
theorem dX9_valleyOf_34 : decode cX9_valleyOf 34 = .ok (.astore_n 3, 1) := by decide +kernel
theorem dX9_valleyOf_35 : decode cX9_valleyOf 35 = .ok (.iload_n 2, 1) := by decide +kernel
theorem dX9_valleyOf_36 : decode cX9_valleyOf 36 = .ok (.tableswitch 61 0 4 #[36, 41, 46, 51, 56], 36) := by decide +kernel
theorem dX9_valleyOf_72 : decode cX9_valleyOf 72 = .ok (.aload_n 3, 1) := by decide +kernel
theorem dX9_valleyOf_73 : decode cX9_valleyOf 73 = .ok (.getfield 162, 3) := by decide +kernel
theorem dX9_valleyOf_76 : decode cX9_valleyOf 76 = .ok (.ireturn, 1) := by decide +kernel
theorem dX9_valleyOf_77 : decode cX9_valleyOf 77 = .ok (.aload_n 3, 1) := by decide +kernel
theorem dX9_valleyOf_78 : decode cX9_valleyOf 78 = .ok (.getfield 178, 3) := by decide +kernel
theorem dX9_valleyOf_81 : decode cX9_valleyOf 81 = .ok (.ireturn, 1) := by decide +kernel
theorem dX9_valleyOf_82 : decode cX9_valleyOf 82 = .ok (.aload_n 3, 1) := by decide +kernel
theorem dX9_valleyOf_83 : decode cX9_valleyOf 83 = .ok (.invokevirtual 181, 3) := by decide +kernel
theorem dX9_valleyOf_86 : decode cX9_valleyOf 86 = .ok (.ireturn, 1) := by decide +kernel
theorem dX9_valleyOf_87 : decode cX9_valleyOf 87 = .ok (.aload_n 3, 1) := by decide +kernel
theorem dX9_valleyOf_88 : decode cX9_valleyOf 88 = .ok (.getfield 184, 3) := by decide +kernel
theorem dX9_valleyOf_91 : decode cX9_valleyOf 91 = .ok (.ireturn, 1) := by decide +kernel
theorem dX9_valleyOf_92 : decode cX9_valleyOf 92 = .ok (.aload_n 3, 1) := by decide +kernel
theorem dX9_valleyOf_93 : decode cX9_valleyOf 93 = .ok (.getfield 187, 3) := by decide +kernel
theorem dX9_valleyOf_96 : decode cX9_valleyOf 96 = .ok (.ireturn, 1) := by decide +kernel
theorem dX9_valleyOf_97 : decode cX9_valleyOf 97 = .ok (.iload_n 2, 1) := by decide +kernel
theorem dX9_valleyOf_98 : decode cX9_valleyOf 98 = .ok (.bipush 8, 2) := by decide +kernel
theorem dX9_valleyOf_100 : decode cX9_valleyOf 100 = .ok (.if_icmp .ge 14, 3) := by decide +kernel
theorem dX9_valleyOf_103 : decode cX9_valleyOf 103 = .ok (.aload_n 3, 1) := by decide +kernel
theorem dX9_valleyOf_104 : decode cX9_valleyOf 104 = .ok (.getfield 190, 3) := by decide +kernel
theorem dX9_valleyOf_107 : decode cX9_valleyOf 107 = .ok (.iload_n 2, 1) := by decide +kernel
theorem dX9_valleyOf_108 : decode cX9_valleyOf 108 = .ok (.iconst 5, 1) := by decide +kernel
theorem dX9_valleyOf_109 : decode cX9_valleyOf 109 = .ok (.isub, 1) := by decide +kernel
theorem dX9_valleyOf_110 : decode cX9_valleyOf 110 = .ok (.iaload, 1) := by decide +kernel
theorem dX9_valleyOf_111 : decode cX9_valleyOf 111 = .ok (.goto 12, 3) := by decide +kernel
theorem dX9_valleyOf_114 : decode cX9_valleyOf 114 = .ok (.aload_n 3, 1) := by decide +kernel
theorem dX9_valleyOf_115 : decode cX9_valleyOf 115 = .ok (.getfield 193, 3) := by decide +kernel
theorem dX9_valleyOf_118 : decode cX9_valleyOf 118 = .ok (.iload_n 2, 1) := by decide +kernel
theorem dX9_valleyOf_119 : decode cX9_valleyOf 119 = .ok (.bipush 8, 2) := by decide +kernel
theorem dX9_valleyOf_121 : decode cX9_valleyOf 121 = .ok (.isub, 1) := by decide +kernel
theorem dX9_valleyOf_122 : decode cX9_valleyOf 122 = .ok (.iaload, 1) := by decide +kernel
theorem dX9_valleyOf_123 : decode cX9_valleyOf 123 = .ok (.ireturn, 1) := by decide +kernel

def f_X9_valleyOf (fu : Nat) (M : gz_M) (a0 : Nat) (a1 : Int32) (a2 : Int32) : Option (Int32 × gz_M) :=
  gz_gd M 9 a0 <|
  (f_X9_isValley fu M a0 a1).bind fun x1 =>
  gz_jn (gz_b2 (f_X9_refuse fu M a0 (-2 : Int32)) fun x16 M17 =>
    some (x16, M17)) fun j18 =>
  if x1 = 0 then
    j18
  else
    (f_X9_isWithin fu M a2 (0 : Int32) (10 : Int32)).bind fun x2 =>
    if x2 = 0 then
      j18
    else
      (gz_gR M 9 3 a0).bind fun x3 =>
      (gz_gR M 8 0 x3).bind fun x4 =>
      (gz_aR M x4 a1).bind fun x5 =>
      if a2 = (0 : Int32) then (gz_gI M 7 4 x5).bind fun x15 =>
        some (x15, M) else if a2 = (1 : Int32) then (gz_gI M 7 5 x5).bind fun x14 =>
        some (x14, M) else if a2 = (2 : Int32) then (f_X7_allTimes fu M x5).bind fun x13 =>
        some (x13, M) else if a2 = (3 : Int32) then (gz_gI M 7 6 x5).bind fun x12 =>
        some (x12, M) else if a2 = (4 : Int32) then (gz_gI M 7 7 x5).bind fun x11 =>
        some (x11, M) else gz_jn (fun (x10 : Int32) =>
      some (x10, M)) fun j123 =>
      if (8 : Int32) ≤ a2 then
        (gz_gR M 7 3 x5).bind fun x8 =>
        (gz_aI M x8 (a2 - (8 : Int32))).bind fun x9 =>
        j123 x9
      else
        (gz_gR M 7 2 x5).bind fun x6 =>
        (gz_aI M x6 (a2 - (5 : Int32))).bind fun x7 =>
        j123 x7

set_option maxHeartbeats 4000000 in
theorem ct_X9_valleyOf (l : Launch) (G : gz_G) (fu : Nat) (M : gz_M) (a0 : Nat) (a1 : Int32) (a2 : Int32) (y : Int32 × gz_M) (hF : f_X9_valleyOf fu M a0 a1 a2 = some y) : gz_ct l yX9_valleyOf cX9_valleyOf 4 (some .int) 2 44 0 0 G [.ref a0, .int a1, .int a2] M (some (.int y.1)) y.2 := by
  refine gz_ct.of (by decide) (Nat.le_of_ble_eq_true rfl) (fun C hC hX => ?_)
  unfold f_X9_valleyOf at hF
  obtain ⟨-, hF⟩ := gz_gd_some hF
  show gz_go C 0 0 M [(0, .ref a0), (1, .int a1), (2, .int a2)] 0 []
  refine gz_aload_n 0 hC 0 dX9_valleyOf_0 rfl rfl ?_
  refine gz_iload_n 1 hC 1 dX9_valleyOf_1 rfl rfl ?_
  refine gz_cvP (st := []) 2 hC hX [.int a1] Value.int yl_X9_isValley yv_X9_isValley q_509 ⟨Nat.le_of_ble_eq_true rfl, Nat.le_of_ble_eq_true rfl⟩ ⟨_, rfl⟩ (fun r h => ct_X9_isValley _ _ fu M a0 a1 r h) rfl rfl (Nat.le_of_ble_eq_true rfl) dX9_valleyOf_2 gz_00 hF (fun x1 hF => ?_)
  refine gz_join (fun (j : Option (Int32 × gz_M)) => j = some y → gz_go C 0 0 M [(0, .ref a0)] 18 []) hF (fun hF => ?_) (fun j18 hj18 hF => ?_)
  · skip
    refine gz_aload_n 18 hC 0 dX9_valleyOf_18 rfl rfl ?_
    refine gz_bipush 19 hC (-2 : Int32) dX9_valleyOf_19 gz_bm2 ?_
    refine gz_cvM (st := []) 21 hC hX [.int (-2 : Int32)] Value.int yl_X9_refuse yv_X9_refuse q_417 ⟨Nat.le_of_ble_eq_true rfl, Nat.le_of_ble_eq_true rfl⟩ ⟨_, rfl⟩ (fun r h => ct_X9_refuse _ _ fu M a0 (-2 : Int32) r h) rfl rfl (Nat.le_of_ble_eq_true rfl) dX9_valleyOf_21 gz_00 hF (fun x16 M17 hF => ?_)
    exact gz_iretM 24 hC hX dX9_valleyOf_24 hF
  refine gz_if_eq 5 18 hC dX9_valleyOf_5 (by decide) hF (fun hF => ?_) (fun hF => ?_)
  · skip
    refine gz_sub [0] [(0, .ref a0)] rfl ?_
    exact hj18 hF
  · skip
    refine gz_iload_n 8 hC 2 dX9_valleyOf_8 rfl rfl ?_
    refine gz_iconst 9 hC (0 : Int32) dX9_valleyOf_9 gz_k0 ?_
    refine gz_bipush 10 hC (10 : Int32) dX9_valleyOf_10 gz_b10 ?_
    refine gz_csP (st := []) 12 hC hX [.int a2, .int (0 : Int32), .int (10 : Int32)] Value.int yl_X9_isWithin yv_X9_isWithin q_414 ⟨Nat.le_of_ble_eq_true rfl, Nat.le_of_ble_eq_true rfl⟩ (fun r h => ct_X9_isWithin _ _ fu M a2 (0 : Int32) (10 : Int32) r h) rfl rfl (Nat.le_of_ble_eq_true rfl) dX9_valleyOf_12 gz_00 hF (fun x2 hF => ?_)
    refine gz_if_ne 15 25 hC dX9_valleyOf_15 (by decide) hF (fun hF => ?_) (fun hF => ?_)
    · skip
      refine gz_aload_n 25 hC 0 dX9_valleyOf_25 rfl rfl ?_
      refine gz_getR 26 hC fl_X9_34 fk_9_3 dX9_valleyOf_26 hF (fun x3 hF => ?_)
      refine gz_getR 29 hC fl_X9_147 fk_8_0 dX9_valleyOf_29 hF (fun x4 hF => ?_)
      refine gz_iload_n 32 hC 1 dX9_valleyOf_32 rfl rfl ?_
      refine gz_aald 33 hC dX9_valleyOf_33 hF (fun x5 hF => ?_)
      refine gz_astore_n 34 hC [(3, .ref x5), (0, .ref a0), (1, .int a1), (2, .int a2)] dX9_valleyOf_34 rfl (by decide) rfl ?_
      refine gz_iload_n 35 hC 3 dX9_valleyOf_35 rfl rfl ?_
      refine gz_cse hF (fun e0 hF => ?_) (fun e0 hF => ?_)
      · skip
        refine gz_tin 36 72 hC (off := 36) dX9_valleyOf_36 e0 (by decide) (by decide) (by decide) ?_
        refine gz_aload_n 72 hC 0 dX9_valleyOf_72 rfl rfl ?_
        refine gz_getI 73 hC fl_X9_162 fk_7_4 dX9_valleyOf_73 hF (fun x15 hF => ?_)
        exact gz_iretM 76 hC hX dX9_valleyOf_76 hF
      refine gz_cse hF (fun e1 hF => ?_) (fun e1 hF => ?_)
      · skip
        refine gz_tin 36 77 hC (off := 41) dX9_valleyOf_36 e1 (by decide) (by decide) (by decide) ?_
        refine gz_aload_n 77 hC 0 dX9_valleyOf_77 rfl rfl ?_
        refine gz_getI 78 hC fl_X9_178 fk_7_5 dX9_valleyOf_78 hF (fun x14 hF => ?_)
        exact gz_iretM 81 hC hX dX9_valleyOf_81 hF
      refine gz_cse hF (fun e2 hF => ?_) (fun e2 hF => ?_)
      · skip
        refine gz_tin 36 82 hC (off := 46) dX9_valleyOf_36 e2 (by decide) (by decide) (by decide) ?_
        refine gz_aload_n 82 hC 0 dX9_valleyOf_82 rfl rfl ?_
        refine gz_cvP (st := []) 83 hC hX [] Value.int yl_X7_allTimes yv_X7_allTimes q_702 ⟨Nat.le_of_ble_eq_true rfl, Nat.le_of_ble_eq_true rfl⟩ ⟨_, rfl⟩ (fun r h => ct_X7_allTimes _ _ fu M x5 r h) rfl rfl (Nat.le_of_ble_eq_true rfl) dX9_valleyOf_83 gz_00 hF (fun x13 hF => ?_)
        exact gz_iretM 86 hC hX dX9_valleyOf_86 hF
      refine gz_cse hF (fun e3 hF => ?_) (fun e3 hF => ?_)
      · skip
        refine gz_tin 36 87 hC (off := 51) dX9_valleyOf_36 e3 (by decide) (by decide) (by decide) ?_
        refine gz_aload_n 87 hC 0 dX9_valleyOf_87 rfl rfl ?_
        refine gz_getI 88 hC fl_X9_184 fk_7_6 dX9_valleyOf_88 hF (fun x12 hF => ?_)
        exact gz_iretM 91 hC hX dX9_valleyOf_91 hF
      refine gz_cse hF (fun e4 hF => ?_) (fun e4 hF => ?_)
      · skip
        refine gz_tin 36 92 hC (off := 56) dX9_valleyOf_36 e4 (by decide) (by decide) (by decide) ?_
        refine gz_aload_n 92 hC 0 dX9_valleyOf_92 rfl rfl ?_
        refine gz_getI 93 hC fl_X9_187 fk_7_7 dX9_valleyOf_93 hF (fun x11 hF => ?_)
        exact gz_iretM 96 hC hX dX9_valleyOf_96 hF
      refine gz_tout 36 97 hC dX9_valleyOf_36 (by have h0 := lv_neT (a := 0) e0 (by decide); have h1 := lv_neT (a := 1) e1 (by decide); have h2 := lv_neT (a := 2) e2 (by decide); have h3 := lv_neT (a := 3) e3 (by decide); have h4 := lv_neT (a := 4) e4 (by decide); omega) (by decide) ?_
      refine gz_iload_n 97 hC 3 dX9_valleyOf_97 rfl rfl ?_
      refine gz_bipush 98 hC (8 : Int32) dX9_valleyOf_98 gz_b8 ?_
      refine gz_join (fun (j : Int32 → Option (Int32 × gz_M)) => ∀ (x10 : Int32), j x10 = some y → gz_go C 0 0 M [] 123 [.int x10]) hF (fun x10 hF => ?_) (fun j123 hj123 hF => ?_)
      · skip
        exact gz_iretM 123 hC hX dX9_valleyOf_123 hF
      refine gz_icmp_ge 100 114 hC dX9_valleyOf_100 (by decide) hF (fun hF => ?_) (fun hF => ?_)
      · skip
        refine gz_aload_n 114 hC 0 dX9_valleyOf_114 rfl rfl ?_
        refine gz_getR 115 hC fl_X9_193 fk_7_3 dX9_valleyOf_115 hF (fun x8 hF => ?_)
        refine gz_iload_n 118 hC 3 dX9_valleyOf_118 rfl rfl ?_
        refine gz_bipush 119 hC (8 : Int32) dX9_valleyOf_119 gz_b8 ?_
        refine gz_isub 121 hC dX9_valleyOf_121 ?_
        refine gz_iald 122 hC dX9_valleyOf_122 hF (fun x9 hF => ?_)
        refine gz_sub [] [] rfl ?_
        exact hj123 _ hF
      · skip
        refine gz_aload_n 103 hC 0 dX9_valleyOf_103 rfl rfl ?_
        refine gz_getR 104 hC fl_X9_190 fk_7_2 dX9_valleyOf_104 hF (fun x6 hF => ?_)
        refine gz_iload_n 107 hC 3 dX9_valleyOf_107 rfl rfl ?_
        refine gz_iconst 108 hC (5 : Int32) dX9_valleyOf_108 gz_k5 ?_
        refine gz_isub 109 hC dX9_valleyOf_109 ?_
        refine gz_iald 110 hC dX9_valleyOf_110 hF (fun x7 hF => ?_)
        refine gz_goto 111 123 hC dX9_valleyOf_111 (by decide) ?_
        refine gz_sub [] [] rfl ?_
        exact hj123 _ hF
    · skip
      refine gz_sub [0] [(0, .ref a0)] rfl ?_
      exact hj18 hF

theorem dX9_footOf_0 : decode cX9_footOf 0 = .ok (.aload_n 0, 1) := by decide +kernel
theorem dX9_footOf_1 : decode cX9_footOf 1 = .ok (.iload_n 1, 1) := by decide +kernel
theorem dX9_footOf_2 : decode cX9_footOf 2 = .ok (.iload_n 2, 1) := by decide +kernel
theorem dX9_footOf_3 : decode cX9_footOf 3 = .ok (.invokevirtual 144, 3) := by decide +kernel
theorem dX9_footOf_6 : decode cX9_footOf 6 = .ok (.ifCond .eq 12, 3) := by decide +kernel
theorem dX9_footOf_9 : decode cX9_footOf 9 = .ok (.iload_n 3, 1) := by decide +kernel
theorem dX9_footOf_10 : decode cX9_footOf 10 = .ok (.iconst 0, 1) := by decide +kernel
theorem dX9_footOf_11 : decode cX9_footOf 11 = .ok (.iconst 4, 1) := by decide +kernel
theorem dX9_footOf_12 : decode cX9_footOf 12 = .ok (.invokestatic 75, 3) := by decide +kernel
theorem dX9_footOf_15 : decode cX9_footOf 15 = .ok (.ifCond .ne 10, 3) := by decide +kernel
theorem dX9_footOf_18 : decode cX9_footOf 18 = .ok (.aload_n 0, 1) := by decide +kernel
theorem dX9_footOf_19 : decode cX9_footOf 19 = .ok (.bipush (-2), 2) := by decide +kernel
theorem dX9_footOf_21 : decode cX9_footOf 21 = .ok (.invokevirtual 79, 3) := by decide +kernel
theorem dX9_footOf_24 : decode cX9_footOf 24 = .ok (.ireturn, 1) := by decide +kernel
theorem dX9_footOf_25 : decode cX9_footOf 25 = .ok (.aload_n 0, 1) := by decide +kernel
theorem dX9_footOf_26 : decode cX9_footOf 26 = .ok (.getfield 34, 3) := by decide +kernel
theorem dX9_footOf_29 : decode cX9_footOf 29 = .ok (.getfield 147, 3) := by decide +kernel
theorem dX9_footOf_32 : decode cX9_footOf 32 = .ok (.iload_n 1, 1) := by decide +kernel
theorem dX9_footOf_33 : decode cX9_footOf 33 = .ok (.aaload, 1) := by decide +kernel
theorem dX9_footOf_34 : decode cX9_footOf 34 = .ok (.iload_n 2, 1) := by decide +kernel
theorem dX9_footOf_35 : decode cX9_footOf 35 = .ok (.iload_n 3, 1) := by decide +kernel
theorem dX9_footOf_36 : decode cX9_footOf 36 = .ok (.invokevirtual 196, 3) := by decide +kernel
theorem dX9_footOf_39 : decode cX9_footOf 39 = .ok (.ireturn, 1) := by decide +kernel

def f_X9_footOf (fu : Nat) (M : gz_M) (a0 : Nat) (a1 : Int32) (a2 : Int32) (a3 : Int32) : Option (Int32 × gz_M) :=
  gz_gd M 9 a0 <|
  (f_X9_isFoot fu M a0 a1 a2).bind fun x1 =>
  gz_jn (gz_b2 (f_X9_refuse fu M a0 (-2 : Int32)) fun x7 M8 =>
    some (x7, M8)) fun j18 =>
  if x1 = 0 then
    j18
  else
    (f_X9_isWithin fu M a3 (0 : Int32) (4 : Int32)).bind fun x2 =>
    if x2 = 0 then
      j18
    else
      (gz_gR M 9 3 a0).bind fun x3 =>
      (gz_gR M 8 0 x3).bind fun x4 =>
      (gz_aR M x4 a1).bind fun x5 =>
      (f_X7_footPart fu M x5 a2 a3).bind fun x6 =>
      some (x6, M)

set_option maxHeartbeats 4000000 in
theorem ct_X9_footOf (l : Launch) (G : gz_G) (fu : Nat) (M : gz_M) (a0 : Nat) (a1 : Int32) (a2 : Int32) (a3 : Int32) (y : Int32 × gz_M) (hF : f_X9_footOf fu M a0 a1 a2 a3 = some y) : gz_ct l yX9_footOf cX9_footOf 4 (some .int) 3 65 0 0 G [.ref a0, .int a1, .int a2, .int a3] M (some (.int y.1)) y.2 := by
  refine gz_ct.of (by decide) (Nat.le_of_ble_eq_true rfl) (fun C hC hX => ?_)
  unfold f_X9_footOf at hF
  obtain ⟨-, hF⟩ := gz_gd_some hF
  show gz_go C 0 0 M [(0, .ref a0), (1, .int a1), (2, .int a2), (3, .int a3)] 0 []
  refine gz_aload_n 0 hC 0 dX9_footOf_0 rfl rfl ?_
  refine gz_iload_n 1 hC 1 dX9_footOf_1 rfl rfl ?_
  refine gz_iload_n 2 hC 2 dX9_footOf_2 rfl rfl ?_
  refine gz_cvP (st := []) 3 hC hX [.int a1, .int a2] Value.int yl_X9_isFoot yv_X9_isFoot q_505 ⟨Nat.le_of_ble_eq_true rfl, Nat.le_of_ble_eq_true rfl⟩ ⟨_, rfl⟩ (fun r h => ct_X9_isFoot _ _ fu M a0 a1 a2 r h) rfl rfl (Nat.le_of_ble_eq_true rfl) dX9_footOf_3 gz_00 hF (fun x1 hF => ?_)
  refine gz_join (fun (j : Option (Int32 × gz_M)) => j = some y → gz_go C 0 0 M [(0, .ref a0)] 18 []) hF (fun hF => ?_) (fun j18 hj18 hF => ?_)
  · skip
    refine gz_aload_n 18 hC 0 dX9_footOf_18 rfl rfl ?_
    refine gz_bipush 19 hC (-2 : Int32) dX9_footOf_19 gz_bm2 ?_
    refine gz_cvM (st := []) 21 hC hX [.int (-2 : Int32)] Value.int yl_X9_refuse yv_X9_refuse q_417 ⟨Nat.le_of_ble_eq_true rfl, Nat.le_of_ble_eq_true rfl⟩ ⟨_, rfl⟩ (fun r h => ct_X9_refuse _ _ fu M a0 (-2 : Int32) r h) rfl rfl (Nat.le_of_ble_eq_true rfl) dX9_footOf_21 gz_00 hF (fun x7 M8 hF => ?_)
    exact gz_iretM 24 hC hX dX9_footOf_24 hF
  refine gz_if_eq 6 18 hC dX9_footOf_6 (by decide) hF (fun hF => ?_) (fun hF => ?_)
  · skip
    refine gz_sub [0] [(0, .ref a0)] rfl ?_
    exact hj18 hF
  · skip
    refine gz_iload_n 9 hC 3 dX9_footOf_9 rfl rfl ?_
    refine gz_iconst 10 hC (0 : Int32) dX9_footOf_10 gz_k0 ?_
    refine gz_iconst 11 hC (4 : Int32) dX9_footOf_11 gz_k4 ?_
    refine gz_csP (st := []) 12 hC hX [.int a3, .int (0 : Int32), .int (4 : Int32)] Value.int yl_X9_isWithin yv_X9_isWithin q_414 ⟨Nat.le_of_ble_eq_true rfl, Nat.le_of_ble_eq_true rfl⟩ (fun r h => ct_X9_isWithin _ _ fu M a3 (0 : Int32) (4 : Int32) r h) rfl rfl (Nat.le_of_ble_eq_true rfl) dX9_footOf_12 gz_00 hF (fun x2 hF => ?_)
    refine gz_if_ne 15 25 hC dX9_footOf_15 (by decide) hF (fun hF => ?_) (fun hF => ?_)
    · skip
      refine gz_aload_n 25 hC 0 dX9_footOf_25 rfl rfl ?_
      refine gz_getR 26 hC fl_X9_34 fk_9_3 dX9_footOf_26 hF (fun x3 hF => ?_)
      refine gz_getR 29 hC fl_X9_147 fk_8_0 dX9_footOf_29 hF (fun x4 hF => ?_)
      refine gz_iload_n 32 hC 1 dX9_footOf_32 rfl rfl ?_
      refine gz_aald 33 hC dX9_footOf_33 hF (fun x5 hF => ?_)
      refine gz_iload_n 34 hC 2 dX9_footOf_34 rfl rfl ?_
      refine gz_iload_n 35 hC 3 dX9_footOf_35 rfl rfl ?_
      refine gz_cvP (st := []) 36 hC hX [.int a2, .int a3] Value.int yl_X7_footPart yv_X7_footPart q_710 ⟨Nat.le_of_ble_eq_true rfl, Nat.le_of_ble_eq_true rfl⟩ ⟨_, rfl⟩ (fun r h => ct_X7_footPart _ _ fu M x5 a2 a3 r h) rfl rfl (Nat.le_of_ble_eq_true rfl) dX9_footOf_36 gz_00 hF (fun x6 hF => ?_)
      exact gz_iretM 39 hC hX dX9_footOf_39 hF
    · skip
      refine gz_sub [0] [(0, .ref a0)] rfl ?_
      exact hj18 hF

theorem dX9_isLast_0 : decode cX9_isLast 0 = .ok (.aload_n 0, 1) := by decide +kernel
theorem dX9_isLast_1 : decode cX9_isLast 1 = .ok (.iload_n 1, 1) := by decide +kernel
theorem dX9_isLast_2 : decode cX9_isLast 2 = .ok (.invokevirtual 159, 3) := by decide +kernel
theorem dX9_isLast_5 : decode cX9_isLast 5 = .ok (.ifCond .eq 29, 3) := by decide +kernel
theorem dX9_isLast_8 : decode cX9_isLast 8 = .ok (.iload_n 2, 1) := by decide +kernel
theorem dX9_isLast_9 : decode cX9_isLast 9 = .ok (.iconst 0, 1) := by decide +kernel
theorem dX9_isLast_10 : decode cX9_isLast 10 = .ok (.aload_n 0, 1) := by decide +kernel
theorem dX9_isLast_11 : decode cX9_isLast 11 = .ok (.getfield 34, 3) := by decide +kernel
theorem dX9_isLast_14 : decode cX9_isLast 14 = .ok (.getfield 147, 3) := by decide +kernel
theorem dX9_isLast_17 : decode cX9_isLast 17 = .ok (.iload_n 1, 1) := by decide +kernel
theorem dX9_isLast_18 : decode cX9_isLast 18 = .ok (.aaload, 1) := by decide +kernel
theorem dX9_isLast_19 : decode cX9_isLast 19 = .ok (.getfield 178, 3) := by decide +kernel
theorem dX9_isLast_22 : decode cX9_isLast 22 = .ok (.iconst 1, 1) := by decide +kernel
theorem dX9_isLast_23 : decode cX9_isLast 23 = .ok (.isub, 1) := by decide +kernel
theorem dX9_isLast_24 : decode cX9_isLast 24 = .ok (.invokestatic 75, 3) := by decide +kernel
theorem dX9_isLast_27 : decode cX9_isLast 27 = .ok (.ifCond .eq 7, 3) := by decide +kernel
theorem dX9_isLast_30 : decode cX9_isLast 30 = .ok (.iconst 1, 1) := by decide +kernel
theorem dX9_isLast_31 : decode cX9_isLast 31 = .ok (.goto 4, 3) := by decide +kernel
theorem dX9_isLast_34 : decode cX9_isLast 34 = .ok (.iconst 0, 1) := by decide +kernel
theorem dX9_isLast_35 : decode cX9_isLast 35 = .ok (.ireturn, 1) := by decide +kernel

def f_X9_isLast (fu : Nat) (M : gz_M) (a0 : Nat) (a1 : Int32) (a2 : Int32) : Option (Int32) :=
  gz_gd M 9 a0 <|
  (f_X9_isValley fu M a0 a1).bind fun x1 =>
  gz_jn (fun (x7 : Int32) =>
  gz_z x7 (some x7)) fun j35 =>
  gz_jn (j35 (0 : Int32)) fun j34 =>
  if x1 = 0 then
    j34
  else
    (gz_gR M 9 3 a0).bind fun x2 =>
    (gz_gR M 8 0 x2).bind fun x3 =>
    (gz_aR M x3 a1).bind fun x4 =>
    (gz_gI M 7 5 x4).bind fun x5 =>
    (f_X9_isWithin fu M a2 (0 : Int32) (x5 - (1 : Int32))).bind fun x6 =>
    if x6 = 0 then
      j34
    else
      j35 (1 : Int32)

set_option maxHeartbeats 4000000 in
theorem ct_X9_isLast (l : Launch) (G : gz_G) (fu : Nat) (M : gz_M) (a0 : Nat) (a1 : Int32) (a2 : Int32) (y : Int32) (hF : f_X9_isLast fu M a0 a1 a2 = some y) : gz_ct l yX9_isLast cX9_isLast 3 (some .boolean) 2 43 0 0 G [.ref a0, .int a1, .int a2] M (some (.int y)) M := by
  refine gz_ct.of (by decide) (Nat.le_of_ble_eq_true rfl) (fun C hC hX => ?_)
  unfold f_X9_isLast at hF
  obtain ⟨-, hF⟩ := gz_gd_some hF
  show gz_go C 0 0 M [(0, .ref a0), (1, .int a1), (2, .int a2)] 0 []
  refine gz_aload_n 0 hC 0 dX9_isLast_0 rfl rfl ?_
  refine gz_iload_n 1 hC 1 dX9_isLast_1 rfl rfl ?_
  refine gz_cvP (st := []) 2 hC hX [.int a1] Value.int yl_X9_isValley yv_X9_isValley q_509 ⟨Nat.le_of_ble_eq_true rfl, Nat.le_of_ble_eq_true rfl⟩ ⟨_, rfl⟩ (fun r h => ct_X9_isValley _ _ fu M a0 a1 r h) rfl rfl (Nat.le_of_ble_eq_true rfl) dX9_isLast_2 gz_00 hF (fun x1 hF => ?_)
  refine gz_join (fun (j : Int32 → Option (Int32)) => ∀ (x7 : Int32), j x7 = some y → gz_go C 0 0 M [] 35 [.int x7]) hF (fun x7 hF => ?_) (fun j35 hj35 hF => ?_)
  · skip
    exact gz_zretP 35 hC hX dX9_isLast_35 hF
  refine gz_join (fun (j : Option (Int32)) => j = some y → gz_go C 0 0 M [] 34 []) hF (fun hF => ?_) (fun j34 hj34 hF => ?_)
  · skip
    refine gz_iconst 34 hC (0 : Int32) dX9_isLast_34 gz_k0 ?_
    exact hj35 _ hF
  refine gz_if_eq 5 34 hC dX9_isLast_5 (by decide) hF (fun hF => ?_) (fun hF => ?_)
  · skip
    refine gz_sub [] [] rfl ?_
    exact hj34 hF
  · skip
    refine gz_iload_n 8 hC 2 dX9_isLast_8 rfl rfl ?_
    refine gz_iconst 9 hC (0 : Int32) dX9_isLast_9 gz_k0 ?_
    refine gz_aload_n 10 hC 0 dX9_isLast_10 rfl rfl ?_
    refine gz_getR 11 hC fl_X9_34 fk_9_3 dX9_isLast_11 hF (fun x2 hF => ?_)
    refine gz_getR 14 hC fl_X9_147 fk_8_0 dX9_isLast_14 hF (fun x3 hF => ?_)
    refine gz_iload_n 17 hC 1 dX9_isLast_17 rfl rfl ?_
    refine gz_aald 18 hC dX9_isLast_18 hF (fun x4 hF => ?_)
    refine gz_getI 19 hC fl_X9_178 fk_7_5 dX9_isLast_19 hF (fun x5 hF => ?_)
    refine gz_iconst 22 hC (1 : Int32) dX9_isLast_22 gz_k1 ?_
    refine gz_isub 23 hC dX9_isLast_23 ?_
    refine gz_csP (st := []) 24 hC hX [.int a2, .int (0 : Int32), .int (x5 - (1 : Int32))] Value.int yl_X9_isWithin yv_X9_isWithin q_414 ⟨Nat.le_of_ble_eq_true rfl, Nat.le_of_ble_eq_true rfl⟩ (fun r h => ct_X9_isWithin _ _ fu M a2 (0 : Int32) (x5 - (1 : Int32)) r h) rfl rfl (Nat.le_of_ble_eq_true rfl) dX9_isLast_24 gz_00 hF (fun x6 hF => ?_)
    refine gz_if_eq 27 34 hC dX9_isLast_27 (by decide) hF (fun hF => ?_) (fun hF => ?_)
    · skip
      refine gz_sub [] [] rfl ?_
      exact hj34 hF
    · skip
      refine gz_iconst 30 hC (1 : Int32) dX9_isLast_30 gz_k1 ?_
      refine gz_goto 31 35 hC dX9_isLast_31 (by decide) ?_
      refine gz_sub [] [] rfl ?_
      exact hj35 _ hF

theorem dX9_lastOf_0 : decode cX9_lastOf 0 = .ok (.aload_n 0, 1) := by decide +kernel
theorem dX9_lastOf_1 : decode cX9_lastOf 1 = .ok (.iload_n 1, 1) := by decide +kernel
theorem dX9_lastOf_2 : decode cX9_lastOf 2 = .ok (.iload_n 2, 1) := by decide +kernel
theorem dX9_lastOf_3 : decode cX9_lastOf 3 = .ok (.invokevirtual 200, 3) := by decide +kernel
theorem dX9_lastOf_6 : decode cX9_lastOf 6 = .ok (.ifCond .eq 12, 3) := by decide +kernel
theorem dX9_lastOf_9 : decode cX9_lastOf 9 = .ok (.iload_n 3, 1) := by decide +kernel
theorem dX9_lastOf_10 : decode cX9_lastOf 10 = .ok (.iconst 0, 1) := by decide +kernel
theorem dX9_lastOf_11 : decode cX9_lastOf 11 = .ok (.iconst 3, 1) := by decide +kernel
theorem dX9_lastOf_12 : decode cX9_lastOf 12 = .ok (.invokestatic 75, 3) := by decide +kernel
theorem dX9_lastOf_15 : decode cX9_lastOf 15 = .ok (.ifCond .ne 10, 3) := by decide +kernel
theorem dX9_lastOf_18 : decode cX9_lastOf 18 = .ok (.aload_n 0, 1) := by decide +kernel
theorem dX9_lastOf_19 : decode cX9_lastOf 19 = .ok (.bipush (-2), 2) := by decide +kernel
theorem dX9_lastOf_21 : decode cX9_lastOf 21 = .ok (.invokevirtual 79, 3) := by decide +kernel
theorem dX9_lastOf_24 : decode cX9_lastOf 24 = .ok (.ireturn, 1) := by decide +kernel
theorem dX9_lastOf_25 : decode cX9_lastOf 25 = .ok (.aload_n 0, 1) := by decide +kernel
theorem dX9_lastOf_26 : decode cX9_lastOf 26 = .ok (.getfield 34, 3) := by decide +kernel
theorem dX9_lastOf_29 : decode cX9_lastOf 29 = .ok (.getfield 147, 3) := by decide +kernel
theorem dX9_lastOf_32 : decode cX9_lastOf 32 = .ok (.iload_n 1, 1) := by decide +kernel
theorem dX9_lastOf_33 : decode cX9_lastOf 33 = .ok (.aaload, 1) := by decide +kernel
theorem dX9_lastOf_34 : decode cX9_lastOf 34 = .ok (.iload_n 2, 1) := by decide +kernel
theorem dX9_lastOf_35 : decode cX9_lastOf 35 = .ok (.iload_n 3, 1) := by decide +kernel
theorem dX9_lastOf_36 : decode cX9_lastOf 36 = .ok (.invokevirtual 203, 3) := by decide +kernel
theorem dX9_lastOf_39 : decode cX9_lastOf 39 = .ok (.ireturn, 1) := by decide +kernel

def f_X9_lastOf (fu : Nat) (M : gz_M) (a0 : Nat) (a1 : Int32) (a2 : Int32) (a3 : Int32) : Option (Int32 × gz_M) :=
  gz_gd M 9 a0 <|
  (f_X9_isLast fu M a0 a1 a2).bind fun x1 =>
  gz_jn (gz_b2 (f_X9_refuse fu M a0 (-2 : Int32)) fun x7 M8 =>
    some (x7, M8)) fun j18 =>
  if x1 = 0 then
    j18
  else
    (f_X9_isWithin fu M a3 (0 : Int32) (3 : Int32)).bind fun x2 =>
    if x2 = 0 then
      j18
    else
      (gz_gR M 9 3 a0).bind fun x3 =>
      (gz_gR M 8 0 x3).bind fun x4 =>
      (gz_aR M x4 a1).bind fun x5 =>
      (f_X7_lastPart fu M x5 a2 a3).bind fun x6 =>
      some (x6, M)

set_option maxHeartbeats 4000000 in
theorem ct_X9_lastOf (l : Launch) (G : gz_G) (fu : Nat) (M : gz_M) (a0 : Nat) (a1 : Int32) (a2 : Int32) (a3 : Int32) (y : Int32 × gz_M) (hF : f_X9_lastOf fu M a0 a1 a2 a3 = some y) : gz_ct l yX9_lastOf cX9_lastOf 4 (some .int) 3 65 0 0 G [.ref a0, .int a1, .int a2, .int a3] M (some (.int y.1)) y.2 := by
  refine gz_ct.of (by decide) (Nat.le_of_ble_eq_true rfl) (fun C hC hX => ?_)
  unfold f_X9_lastOf at hF
  obtain ⟨-, hF⟩ := gz_gd_some hF
  show gz_go C 0 0 M [(0, .ref a0), (1, .int a1), (2, .int a2), (3, .int a3)] 0 []
  refine gz_aload_n 0 hC 0 dX9_lastOf_0 rfl rfl ?_
  refine gz_iload_n 1 hC 1 dX9_lastOf_1 rfl rfl ?_
  refine gz_iload_n 2 hC 2 dX9_lastOf_2 rfl rfl ?_
  refine gz_cvP (st := []) 3 hC hX [.int a1, .int a2] Value.int yl_X9_isLast yv_X9_isLast q_715 ⟨Nat.le_of_ble_eq_true rfl, Nat.le_of_ble_eq_true rfl⟩ ⟨_, rfl⟩ (fun r h => ct_X9_isLast _ _ fu M a0 a1 a2 r h) rfl rfl (Nat.le_of_ble_eq_true rfl) dX9_lastOf_3 gz_00 hF (fun x1 hF => ?_)
  refine gz_join (fun (j : Option (Int32 × gz_M)) => j = some y → gz_go C 0 0 M [(0, .ref a0)] 18 []) hF (fun hF => ?_) (fun j18 hj18 hF => ?_)
  · skip
    refine gz_aload_n 18 hC 0 dX9_lastOf_18 rfl rfl ?_
    refine gz_bipush 19 hC (-2 : Int32) dX9_lastOf_19 gz_bm2 ?_
    refine gz_cvM (st := []) 21 hC hX [.int (-2 : Int32)] Value.int yl_X9_refuse yv_X9_refuse q_417 ⟨Nat.le_of_ble_eq_true rfl, Nat.le_of_ble_eq_true rfl⟩ ⟨_, rfl⟩ (fun r h => ct_X9_refuse _ _ fu M a0 (-2 : Int32) r h) rfl rfl (Nat.le_of_ble_eq_true rfl) dX9_lastOf_21 gz_00 hF (fun x7 M8 hF => ?_)
    exact gz_iretM 24 hC hX dX9_lastOf_24 hF
  refine gz_if_eq 6 18 hC dX9_lastOf_6 (by decide) hF (fun hF => ?_) (fun hF => ?_)
  · skip
    refine gz_sub [0] [(0, .ref a0)] rfl ?_
    exact hj18 hF
  · skip
    refine gz_iload_n 9 hC 3 dX9_lastOf_9 rfl rfl ?_
    refine gz_iconst 10 hC (0 : Int32) dX9_lastOf_10 gz_k0 ?_
    refine gz_iconst 11 hC (3 : Int32) dX9_lastOf_11 gz_k3 ?_
    refine gz_csP (st := []) 12 hC hX [.int a3, .int (0 : Int32), .int (3 : Int32)] Value.int yl_X9_isWithin yv_X9_isWithin q_414 ⟨Nat.le_of_ble_eq_true rfl, Nat.le_of_ble_eq_true rfl⟩ (fun r h => ct_X9_isWithin _ _ fu M a3 (0 : Int32) (3 : Int32) r h) rfl rfl (Nat.le_of_ble_eq_true rfl) dX9_lastOf_12 gz_00 hF (fun x2 hF => ?_)
    refine gz_if_ne 15 25 hC dX9_lastOf_15 (by decide) hF (fun hF => ?_) (fun hF => ?_)
    · skip
      refine gz_aload_n 25 hC 0 dX9_lastOf_25 rfl rfl ?_
      refine gz_getR 26 hC fl_X9_34 fk_9_3 dX9_lastOf_26 hF (fun x3 hF => ?_)
      refine gz_getR 29 hC fl_X9_147 fk_8_0 dX9_lastOf_29 hF (fun x4 hF => ?_)
      refine gz_iload_n 32 hC 1 dX9_lastOf_32 rfl rfl ?_
      refine gz_aald 33 hC dX9_lastOf_33 hF (fun x5 hF => ?_)
      refine gz_iload_n 34 hC 2 dX9_lastOf_34 rfl rfl ?_
      refine gz_iload_n 35 hC 3 dX9_lastOf_35 rfl rfl ?_
      refine gz_cvP (st := []) 36 hC hX [.int a2, .int a3] Value.int yl_X7_lastPart yv_X7_lastPart q_719 ⟨Nat.le_of_ble_eq_true rfl, Nat.le_of_ble_eq_true rfl⟩ ⟨_, rfl⟩ (fun r h => ct_X7_lastPart _ _ fu M x5 a2 a3 r h) rfl rfl (Nat.le_of_ble_eq_true rfl) dX9_lastOf_36 gz_00 hF (fun x6 hF => ?_)
      exact gz_iretM 39 hC hX dX9_lastOf_39 hF
    · skip
      refine gz_sub [0] [(0, .ref a0)] rfl ?_
      exact hj18 hF

theorem dX9_feet_0 : decode cX9_feet 0 = .ok (.aload_n 0, 1) := by decide +kernel
theorem dX9_feet_1 : decode cX9_feet 1 = .ok (.iload_n 1, 1) := by decide +kernel
theorem dX9_feet_2 : decode cX9_feet 2 = .ok (.invokevirtual 159, 3) := by decide +kernel
theorem dX9_feet_5 : decode cX9_feet 5 = .ok (.ifCond .eq 10, 3) := by decide +kernel
theorem dX9_feet_8 : decode cX9_feet 8 = .ok (.iload_n 2, 1) := by decide +kernel
theorem dX9_feet_9 : decode cX9_feet 9 = .ok (.invokestatic 71, 3) := by decide +kernel
theorem dX9_feet_12 : decode cX9_feet 12 = .ok (.ifCond .ne 10, 3) := by decide +kernel
theorem dX9_feet_15 : decode cX9_feet 15 = .ok (.aload_n 0, 1) := by decide +kernel
theorem dX9_feet_16 : decode cX9_feet 16 = .ok (.bipush (-2), 2) := by decide +kernel
theorem dX9_feet_18 : decode cX9_feet 18 = .ok (.invokevirtual 79, 3) := by decide +kernel
theorem dX9_feet_21 : decode cX9_feet 21 = .ok (.ireturn, 1) := by decide +kernel
theorem dX9_feet_22 : decode cX9_feet 22 = .ok (.aload_n 0, 1) := by decide +kernel
theorem dX9_feet_23 : decode cX9_feet 23 = .ok (.getfield 27, 3) := by decide +kernel
theorem dX9_feet_26 : decode cX9_feet 26 = .ok (.iload_n 2, 1) := by decide +kernel
theorem dX9_feet_27 : decode cX9_feet 27 = .ok (.aaload, 1) := by decide +kernel
theorem dX9_feet_28 : decode cX9_feet 28 = .ok (.astore_n 3, 1) := by decide +kernel
theorem dX9_feet_29 : decode cX9_feet 29 = .ok (.aload_n 3, 1) := by decide +kernel
theorem dX9_feet_30 : decode cX9_feet 30 = .ok (.invokevirtual 87, 3) := by decide +kernel
theorem dX9_feet_33 : decode cX9_feet 33 = .ok (.ifCond .eq 12, 3) := by decide +kernel
theorem dX9_feet_36 : decode cX9_feet 36 = .ok (.aload_n 0, 1) := by decide +kernel
theorem dX9_feet_37 : decode cX9_feet 37 = .ok (.aload_n 3, 1) := by decide +kernel
theorem dX9_feet_38 : decode cX9_feet 38 = .ok (.invokevirtual 87, 3) := by decide +kernel
theorem dX9_feet_41 : decode cX9_feet 41 = .ok (.invokevirtual 79, 3) := by decide +kernel
theorem dX9_feet_44 : decode cX9_feet 44 = .ok (.ireturn, 1) := by decide +kernel
theorem dX9_feet_45 : decode cX9_feet 45 = .ok (.aload_n 0, 1) := by decide +kernel
theorem dX9_feet_46 : decode cX9_feet 46 = .ok (.getfield 34, 3) := by decide +kernel
theorem dX9_feet_49 : decode cX9_feet 49 = .ok (.getfield 147, 3) := by decide +kernel
theorem dX9_feet_52 : decode cX9_feet 52 = .ok (.iload_n 1, 1) := by decide +kernel
theorem dX9_feet_53 : decode cX9_feet 53 = .ok (.aaload, 1) := by decide +kernel
theorem dX9_feet_54 : decode cX9_feet 54 = .ok (.astore 4, 2) := by decide +kernel
theorem dX9_feet_56 : decode cX9_feet 56 = .ok (.iconst 0, 1) := by decide +kernel
theorem dX9_feet_57 : decode cX9_feet 57 = .ok (.istore 5, 2) := by decide +kernel
theorem dX9_feet_59 : decode cX9_feet 59 = .ok (.iconst 0, 1) := by decide +kernel
theorem dX9_feet_60 : decode cX9_feet 60 = .ok (.istore 6, 2) := by decide +kernel
theorem dX9_feet_62 : decode cX9_feet 62 = .ok (.iload 6, 2) := by decide +kernel
theorem dX9_feet_64 : decode cX9_feet 64 = .ok (.iconst 3, 1) := by decide +kernel
theorem dX9_feet_65 : decode cX9_feet 65 = .ok (.iadd, 1) := by decide +kernel
theorem dX9_feet_66 : decode cX9_feet 66 = .ok (.aload_n 3, 1) := by decide +kernel
theorem dX9_feet_67 : decode cX9_feet 67 = .ok (.getfield 91, 3) := by decide +kernel
theorem dX9_feet_70 : decode cX9_feet 70 = .ok (.if_icmp .ge 90, 3) := by decide +kernel
theorem dX9_feet_73 : decode cX9_feet 73 = .ok (.aload 4, 2) := by decide +kernel
theorem dX9_feet_75 : decode cX9_feet 75 = .ok (.getfield 162, 3) := by decide +kernel
theorem dX9_feet_78 : decode cX9_feet 78 = .ok (.bipush 12, 2) := by decide +kernel
theorem dX9_feet_80 : decode cX9_feet 80 = .ok (.if_icmp .ge 80, 3) := by decide +kernel
theorem dX9_feet_83 : decode cX9_feet 83 = .ok (.aload_n 3, 1) := by decide +kernel
theorem dX9_feet_84 : decode cX9_feet 84 = .ok (.iload 6, 2) := by decide +kernel
theorem dX9_feet_86 : decode cX9_feet 86 = .ok (.invokevirtual 206, 3) := by decide +kernel
theorem dX9_feet_89 : decode cX9_feet 89 = .ok (.ifCond .ne 6, 3) := by decide +kernel
theorem dX9_feet_92 : decode cX9_feet 92 = .ok (.goto 68, 3) := by decide +kernel
theorem dX9_feet_95 : decode cX9_feet 95 = .ok (.aload 4, 2) := by decide +kernel
theorem dX9_feet_97 : decode cX9_feet 97 = .ok (.aload_n 3, 1) := by decide +kernel
theorem dX9_feet_98 : decode cX9_feet 98 = .ok (.getfield 107, 3) := by decide +kernel
theorem dX9_feet_101 : decode cX9_feet 101 = .ok (.iload 6, 2) := by decide +kernel
theorem dX9_feet_103 : decode cX9_feet 103 = .ok (.laload, 1) := by decide +kernel
theorem dX9_feet_104 : decode cX9_feet 104 = .ok (.l2i, 1) := by decide +kernel
theorem dX9_feet_105 : decode cX9_feet 105 = .ok (.aload_n 3, 1) := by decide +kernel
theorem dX9_feet_106 : decode cX9_feet 106 = .ok (.getfield 107, 3) := by decide +kernel
theorem dX9_feet_109 : decode cX9_feet 109 = .ok (.iload 6, 2) := by decide +kernel
theorem dX9_feet_111 : decode cX9_feet 111 = .ok (.iconst 1, 1) := by decide +kernel
theorem dX9_feet_112 : decode cX9_feet 112 = .ok (.iadd, 1) := by decide +kernel
theorem dX9_feet_113 : decode cX9_feet 113 = .ok (.laload, 1) := by decide +kernel
theorem dX9_feet_114 : decode cX9_feet 114 = .ok (.l2i, 1) := by decide +kernel
theorem dX9_feet_115 : decode cX9_feet 115 = .ok (.aload_n 3, 1) := by decide +kernel
theorem dX9_feet_116 : decode cX9_feet 116 = .ok (.getfield 107, 3) := by decide +kernel
theorem dX9_feet_119 : decode cX9_feet 119 = .ok (.iload 6, 2) := by decide +kernel
theorem dX9_feet_121 : decode cX9_feet 121 = .ok (.iconst 2, 1) := by decide +kernel
theorem dX9_feet_122 : decode cX9_feet 122 = .ok (.iadd, 1) := by decide +kernel
theorem dX9_feet_123 : decode cX9_feet 123 = .ok (.laload, 1) := by decide +kernel
theorem dX9_feet_124 : decode cX9_feet 124 = .ok (.l2i, 1) := by decide +kernel
theorem dX9_feet_125 : decode cX9_feet 125 = .ok (.invokevirtual 209, 3) := by decide +kernel
theorem dX9_feet_128 : decode cX9_feet 128 = .ok (.aload 4, 2) := by decide +kernel
theorem dX9_feet_130 : decode cX9_feet 130 = .ok (.aload 4, 2) := by decide +kernel
theorem dX9_feet_132 : decode cX9_feet 132 = .ok (.getfield 162, 3) := by decide +kernel
theorem dX9_feet_135 : decode cX9_feet 135 = .ok (.iconst 1, 1) := by decide +kernel
theorem dX9_feet_136 : decode cX9_feet 136 = .ok (.isub, 1) := by decide +kernel
theorem dX9_feet_137 : decode cX9_feet 137 = .ok (.iconst 3, 1) := by decide +kernel
theorem dX9_feet_138 : decode cX9_feet 138 = .ok (.aload_n 3, 1) := by decide +kernel
theorem dX9_feet_139 : decode cX9_feet 139 = .ok (.getfield 107, 3) := by decide +kernel
theorem dX9_feet_142 : decode cX9_feet 142 = .ok (.iload 6, 2) := by decide +kernel
theorem dX9_feet_144 : decode cX9_feet 144 = .ok (.iconst 3, 1) := by decide +kernel
theorem dX9_feet_145 : decode cX9_feet 145 = .ok (.iadd, 1) := by decide +kernel
theorem dX9_feet_146 : decode cX9_feet 146 = .ok (.laload, 1) := by decide +kernel
theorem dX9_feet_147 : decode cX9_feet 147 = .ok (.l2i, 1) := by decide +kernel
theorem dX9_feet_148 : decode cX9_feet 148 = .ok (.invokevirtual 212, 3) := by decide +kernel
theorem dX9_feet_151 : decode cX9_feet 151 = .ok (.iinc 5 1, 3) := by decide +kernel
theorem dX9_feet_154 : decode cX9_feet 154 = .ok (.iinc 6 4, 3) := by decide +kernel
theorem dX9_feet_157 : decode cX9_feet 157 = .ok (.goto (-95), 3) := by decide +kernel
theorem dX9_feet_160 : decode cX9_feet 160 = .ok (.iload 5, 2) := by decide +kernel
theorem dX9_feet_162 : decode cX9_feet 162 = .ok (.ireturn, 1) := by decide +kernel
def lp_X9_feet_62 (j160 : Int32 → gz_M → Option (Int32 × gz_M)) (fu : Nat) (x4 : Nat) (x11 : Nat) : Nat → Int32 → Int32 → gz_M → Option (Int32 × gz_M)
  | 0, _, _, _ => none
  | n62 + 1, x12, x13, M14 =>
    (gz_gI M14 4 2 x4).bind fun x15 =>
    if x15 ≤ (x13 + (3 : Int32)) then
      j160 x12 M14
    else
      (gz_gI M14 7 4 x11).bind fun x16 =>
      if (12 : Int32) ≤ x16 then
        j160 x12 M14
      else
        (f_X4_hasFootAt fu M14 x4 x13).bind fun x17 =>
        if x17 = 0 then
          j160 x12 M14
        else
          (gz_gR M14 4 0 x4).bind fun x18 =>
          (gz_aL M14 x18 x13).bind fun x19 =>
          (gz_gR M14 4 0 x4).bind fun x20 =>
          (gz_aL M14 x20 (x13 + (1 : Int32))).bind fun x21 =>
          (gz_gR M14 4 0 x4).bind fun x22 =>
          (gz_aL M14 x22 (x13 + (2 : Int32))).bind fun x23 =>
          (f_X7_addFoot fu M14 x11 (x19).toInt32 (x21).toInt32 (x23).toInt32).bind fun M24 =>
          (gz_gI M24 7 4 x11).bind fun x25 =>
          (gz_gR M24 4 0 x4).bind fun x26 =>
          (gz_aL M24 x26 (x13 + (3 : Int32))).bind fun x27 =>
          (f_X7_putFootPart fu M24 x11 (x25 - (1 : Int32)) (3 : Int32) (x27).toInt32).bind fun M28 =>
          lp_X9_feet_62 j160 fu x4 x11 n62 (x12 + (1 : Int32)) (x13 + (4 : Int32)) M28
def f_X9_feet (fu : Nat) (M : gz_M) (a0 : Nat) (a1 : Int32) (a2 : Int32) : Option (Int32 × gz_M) :=
  gz_gd M 9 a0 <|
  (f_X9_isValley fu M a0 a1).bind fun x1 =>
  gz_jn (gz_b2 (f_X9_refuse fu M a0 (-2 : Int32)) fun x31 M32 =>
    some (x31, M32)) fun j15 =>
  if x1 = 0 then
    j15
  else
    (f_X9_isShelf fu M a2).bind fun x2 =>
    if x2 = 0 then
      j15
    else
      (gz_gR M 9 2 a0).bind fun x3 =>
      (gz_aR M x3 a2).bind fun x4 =>
      (f_X4_rowRefusal fu M x4).bind fun x5 =>
      if x5 = 0 then
        (gz_gR M 9 3 a0).bind fun x9 =>
        (gz_gR M 8 0 x9).bind fun x10 =>
        (gz_aR M x10 a1).bind fun x11 =>
        lp_X9_feet_62 (fun (x29 : Int32) (M30 : gz_M) => some (x29, M30)) fu x4 x11 fu (0 : Int32) (0 : Int32) M
      else
        (f_X4_rowRefusal fu M x4).bind fun x6 =>
        gz_b2 (f_X9_refuse fu M a0 x6) fun x7 M8 =>
        some (x7, M8)
set_option maxHeartbeats 4000000 in
theorem w_X9_feet_62 {C : gz_C} {y : Int32 × gz_M} {fu : Nat} {x4 : Nat} {x11 : Nat} {j160 : Int32 → gz_M → Option (Int32 × gz_M)} (hC : gz_ok C cX9_feet RX9 7) (hX : gz_cx C 2 47 0 0 (some .int) (some (.int y.1)) y.2 "feet") (hj160 : ∀ (x29 : Int32) (M30 : gz_M), j160 x29 M30 = some y → gz_go C 0 0 M30 [(5, .int x29)] 160 []) : ∀ (n : Nat) (x12 : Int32) (x13 : Int32) (M14 : gz_M), lp_X9_feet_62 j160 fu x4 x11 n x12 x13 M14 = some y → gz_go C 0 0 M14 [(3, .ref x4), (4, .ref x11), (5, .int x12), (6, .int x13)] 62 [] := by
  intro n
  induction n with
  | zero => intro x12 x13 M14 hF; exact nomatch (show (none : Option (Int32 × gz_M)) = some y from hF)
  | succ n62 ih62 =>
    intro x12 x13 M14 hF
    rw [lp_X9_feet_62.eq_2] at hF
    refine gz_iload 62 hC 3 dX9_feet_62 rfl ?_
    refine gz_iconst 64 hC (3 : Int32) dX9_feet_64 gz_k3 ?_
    refine gz_iadd 65 hC dX9_feet_65 ?_
    refine gz_aload_n 66 hC 0 dX9_feet_66 rfl rfl ?_
    refine gz_getI 67 hC fl_X9_91 fk_4_2 dX9_feet_67 hF (fun x15 hF => ?_)
    refine gz_icmp_ge 70 160 hC dX9_feet_70 (by decide) hF (fun hF => ?_) (fun hF => ?_)
    · skip
      refine gz_sub [2] [(5, .int x12)] rfl ?_
      exact hj160 _ _ hF
    · skip
      refine gz_aload 73 hC 1 dX9_feet_73 rfl ?_
      refine gz_getI 75 hC fl_X9_162 fk_7_4 dX9_feet_75 hF (fun x16 hF => ?_)
      refine gz_bipush 78 hC (12 : Int32) dX9_feet_78 gz_b12 ?_
      refine gz_icmp_ge 80 160 hC dX9_feet_80 (by decide) hF (fun hF => ?_) (fun hF => ?_)
      · skip
        refine gz_sub [2] [(5, .int x12)] rfl ?_
        exact hj160 _ _ hF
      · skip
        refine gz_aload_n 83 hC 0 dX9_feet_83 rfl rfl ?_
        refine gz_iload 84 hC 3 dX9_feet_84 rfl ?_
        refine gz_cvP (st := []) 86 hC hX [.int x13] Value.int yl_X4_hasFootAt yv_X4_hasFootAt q_724 ⟨Nat.le_of_ble_eq_true rfl, Nat.le_of_ble_eq_true rfl⟩ ⟨_, rfl⟩ (fun r h => ct_X4_hasFootAt _ _ fu M14 x4 x13 r h) rfl rfl (Nat.le_of_ble_eq_true rfl) dX9_feet_86 gz_00 hF (fun x17 hF => ?_)
        refine gz_if_ne 89 95 hC dX9_feet_89 (by decide) hF (fun hF => ?_) (fun hF => ?_)
        · skip
          refine gz_aload 95 hC 1 dX9_feet_95 rfl ?_
          refine gz_aload_n 97 hC 0 dX9_feet_97 rfl rfl ?_
          refine gz_getR 98 hC fl_X9_107 fk_4_0 dX9_feet_98 hF (fun x18 hF => ?_)
          refine gz_iload 101 hC 3 dX9_feet_101 rfl ?_
          refine gz_lald 103 hC dX9_feet_103 hF (fun x19 hF => ?_)
          refine gz_l2i 104 hC dX9_feet_104 ?_
          refine gz_aload_n 105 hC 0 dX9_feet_105 rfl rfl ?_
          refine gz_getR 106 hC fl_X9_107 fk_4_0 dX9_feet_106 hF (fun x20 hF => ?_)
          refine gz_iload 109 hC 3 dX9_feet_109 rfl ?_
          refine gz_iconst 111 hC (1 : Int32) dX9_feet_111 gz_k1 ?_
          refine gz_iadd 112 hC dX9_feet_112 ?_
          refine gz_lald 113 hC dX9_feet_113 hF (fun x21 hF => ?_)
          refine gz_l2i 114 hC dX9_feet_114 ?_
          refine gz_aload_n 115 hC 0 dX9_feet_115 rfl rfl ?_
          refine gz_getR 116 hC fl_X9_107 fk_4_0 dX9_feet_116 hF (fun x22 hF => ?_)
          refine gz_iload 119 hC 3 dX9_feet_119 rfl ?_
          refine gz_iconst 121 hC (2 : Int32) dX9_feet_121 gz_k2 ?_
          refine gz_iadd 122 hC dX9_feet_122 ?_
          refine gz_lald 123 hC dX9_feet_123 hF (fun x23 hF => ?_)
          refine gz_l2i 124 hC dX9_feet_124 ?_
          refine gz_cvV (st := []) 125 hC hX [.int (x19).toInt32, .int (x21).toInt32, .int (x23).toInt32] yl_X7_addFoot yv_X7_addFoot q_730 ⟨Nat.le_of_ble_eq_true rfl, Nat.le_of_ble_eq_true rfl⟩ ⟨_, rfl⟩ (fun r h => ct_X7_addFoot _ _ fu M14 x11 (x19).toInt32 (x21).toInt32 (x23).toInt32 r h) rfl rfl (Nat.le_of_ble_eq_true rfl) dX9_feet_125 gz_00 hF (fun M24 hF => ?_)
          refine gz_aload 128 hC 1 dX9_feet_128 rfl ?_
          refine gz_aload 130 hC 1 dX9_feet_130 rfl ?_
          refine gz_getI 132 hC fl_X9_162 fk_7_4 dX9_feet_132 hF (fun x25 hF => ?_)
          refine gz_iconst 135 hC (1 : Int32) dX9_feet_135 gz_k1 ?_
          refine gz_isub 136 hC dX9_feet_136 ?_
          refine gz_iconst 137 hC (3 : Int32) dX9_feet_137 gz_k3 ?_
          refine gz_aload_n 138 hC 0 dX9_feet_138 rfl rfl ?_
          refine gz_getR 139 hC fl_X9_107 fk_4_0 dX9_feet_139 hF (fun x26 hF => ?_)
          refine gz_iload 142 hC 3 dX9_feet_142 rfl ?_
          refine gz_iconst 144 hC (3 : Int32) dX9_feet_144 gz_k3 ?_
          refine gz_iadd 145 hC dX9_feet_145 ?_
          refine gz_lald 146 hC dX9_feet_146 hF (fun x27 hF => ?_)
          refine gz_l2i 147 hC dX9_feet_147 ?_
          refine gz_cvV (st := []) 148 hC hX [.int (x25 - (1 : Int32)), .int (3 : Int32), .int (x27).toInt32] yl_X7_putFootPart yv_X7_putFootPart q_731 ⟨Nat.le_of_ble_eq_true rfl, Nat.le_of_ble_eq_true rfl⟩ ⟨_, rfl⟩ (fun r h => ct_X7_putFootPart _ _ fu M24 x11 (x25 - (1 : Int32)) (3 : Int32) (x27).toInt32 r h) rfl rfl (Nat.le_of_ble_eq_true rfl) dX9_feet_148 gz_00 hF (fun M28 hF => ?_)
          refine gz_iinc 151 hC (x12 + (1 : Int32)) 2 [(5, .int (x12 + (1 : Int32))), (3, .ref x4), (4, .ref x11), (6, .int x13)] dX9_feet_151 rfl rfl (by decide) rfl ?_
          refine gz_iinc 154 hC (x13 + (4 : Int32)) 3 [(6, .int (x13 + (4 : Int32))), (5, .int (x12 + (1 : Int32))), (3, .ref x4), (4, .ref x11)] dX9_feet_154 rfl rfl (by decide) rfl ?_
          refine gz_goto 157 62 hC dX9_feet_157 (by decide) ?_
          refine gz_sub [2, 3, 1, 0] [(3, .ref x4), (4, .ref x11), (5, .int (x12 + (1 : Int32))), (6, .int (x13 + (4 : Int32)))] rfl ?_
          exact ih62 _ _ _ hF
        · skip
          refine gz_goto 92 160 hC dX9_feet_92 (by decide) ?_
          refine gz_sub [2] [(5, .int x12)] rfl ?_
          exact hj160 _ _ hF
set_option maxHeartbeats 4000000 in
theorem ct_X9_feet (l : Launch) (G : gz_G) (fu : Nat) (M : gz_M) (a0 : Nat) (a1 : Int32) (a2 : Int32) (y : Int32 × gz_M) (hF : f_X9_feet fu M a0 a1 a2 = some y) : gz_ct l yX9_feet cX9_feet 7 (some .int) 2 47 0 0 G [.ref a0, .int a1, .int a2] M (some (.int y.1)) y.2 := by
  refine gz_ct.of (by decide) (Nat.le_of_ble_eq_true rfl) (fun C hC hX => ?_)
  unfold f_X9_feet at hF
  obtain ⟨-, hF⟩ := gz_gd_some hF
  show gz_go C 0 0 M [(0, .ref a0), (1, .int a1), (2, .int a2)] 0 []
  refine gz_aload_n 0 hC 0 dX9_feet_0 rfl rfl ?_
  refine gz_iload_n 1 hC 1 dX9_feet_1 rfl rfl ?_
  refine gz_cvP (st := []) 2 hC hX [.int a1] Value.int yl_X9_isValley yv_X9_isValley q_509 ⟨Nat.le_of_ble_eq_true rfl, Nat.le_of_ble_eq_true rfl⟩ ⟨_, rfl⟩ (fun r h => ct_X9_isValley _ _ fu M a0 a1 r h) rfl rfl (Nat.le_of_ble_eq_true rfl) dX9_feet_2 gz_00 hF (fun x1 hF => ?_)
  refine gz_join (fun (j : Option (Int32 × gz_M)) => j = some y → gz_go C 0 0 M [(0, .ref a0)] 15 []) hF (fun hF => ?_) (fun j15 hj15 hF => ?_)
  · skip
    refine gz_aload_n 15 hC 0 dX9_feet_15 rfl rfl ?_
    refine gz_bipush 16 hC (-2 : Int32) dX9_feet_16 gz_bm2 ?_
    refine gz_cvM (st := []) 18 hC hX [.int (-2 : Int32)] Value.int yl_X9_refuse yv_X9_refuse q_417 ⟨Nat.le_of_ble_eq_true rfl, Nat.le_of_ble_eq_true rfl⟩ ⟨_, rfl⟩ (fun r h => ct_X9_refuse _ _ fu M a0 (-2 : Int32) r h) rfl rfl (Nat.le_of_ble_eq_true rfl) dX9_feet_18 gz_00 hF (fun x31 M32 hF => ?_)
    exact gz_iretM 21 hC hX dX9_feet_21 hF
  refine gz_if_eq 5 15 hC dX9_feet_5 (by decide) hF (fun hF => ?_) (fun hF => ?_)
  · skip
    refine gz_sub [0] [(0, .ref a0)] rfl ?_
    exact hj15 hF
  · skip
    refine gz_iload_n 8 hC 2 dX9_feet_8 rfl rfl ?_
    refine gz_csP (st := []) 9 hC hX [.int a2] Value.int yl_X9_isShelf yv_X9_isShelf q_411 ⟨Nat.le_of_ble_eq_true rfl, Nat.le_of_ble_eq_true rfl⟩ (fun r h => ct_X9_isShelf _ _ fu M a2 r h) rfl rfl (Nat.le_of_ble_eq_true rfl) dX9_feet_9 gz_00 hF (fun x2 hF => ?_)
    refine gz_if_ne 12 22 hC dX9_feet_12 (by decide) hF (fun hF => ?_) (fun hF => ?_)
    · skip
      refine gz_aload_n 22 hC 0 dX9_feet_22 rfl rfl ?_
      refine gz_getR 23 hC fl_X9_27 fk_9_2 dX9_feet_23 hF (fun x3 hF => ?_)
      refine gz_iload_n 26 hC 2 dX9_feet_26 rfl rfl ?_
      refine gz_aald 27 hC dX9_feet_27 hF (fun x4 hF => ?_)
      refine gz_astore_n 28 hC [(3, .ref x4), (0, .ref a0), (1, .int a1), (2, .int a2)] dX9_feet_28 rfl (by decide) rfl ?_
      refine gz_aload_n 29 hC 0 dX9_feet_29 rfl rfl ?_
      refine gz_cvP (st := []) 30 hC hX [] Value.int yl_X4_rowRefusal yv_X4_rowRefusal q_432 ⟨Nat.le_of_ble_eq_true rfl, Nat.le_of_ble_eq_true rfl⟩ ⟨_, rfl⟩ (fun r h => ct_X4_rowRefusal _ _ fu M x4 r h) rfl rfl (Nat.le_of_ble_eq_true rfl) dX9_feet_30 gz_00 hF (fun x5 hF => ?_)
      refine gz_if_eq 33 45 hC dX9_feet_33 (by decide) hF (fun hF => ?_) (fun hF => ?_)
      · skip
        refine gz_aload_n 45 hC 1 dX9_feet_45 rfl rfl ?_
        refine gz_getR 46 hC fl_X9_34 fk_9_3 dX9_feet_46 hF (fun x9 hF => ?_)
        refine gz_getR 49 hC fl_X9_147 fk_8_0 dX9_feet_49 hF (fun x10 hF => ?_)
        refine gz_iload_n 52 hC 2 dX9_feet_52 rfl rfl ?_
        refine gz_aald 53 hC dX9_feet_53 hF (fun x11 hF => ?_)
        refine gz_astore 54 hC [(4, .ref x11), (3, .ref x4), (0, .ref a0), (1, .int a1), (2, .int a2)] dX9_feet_54 (by decide) rfl ?_
        refine gz_iconst 56 hC (0 : Int32) dX9_feet_56 gz_k0 ?_
        refine gz_istore 57 hC [(5, .int (0 : Int32)), (4, .ref x11), (3, .ref x4), (0, .ref a0), (1, .int a1), (2, .int a2)] dX9_feet_57 (by decide) rfl ?_
        refine gz_iconst 59 hC (0 : Int32) dX9_feet_59 gz_k0 ?_
        refine gz_istore 60 hC [(6, .int (0 : Int32)), (5, .int (0 : Int32)), (4, .ref x11), (3, .ref x4), (0, .ref a0), (1, .int a1), (2, .int a2)] dX9_feet_60 (by decide) rfl ?_
        refine gz_sub [3, 2, 1, 0] [(3, .ref x4), (4, .ref x11), (5, .int (0 : Int32)), (6, .int (0 : Int32))] rfl ?_
        refine w_X9_feet_62 hC hX ?_ _ _ _ _ hF
        intro x29 M30 hF
        refine gz_iload 160 hC 0 dX9_feet_160 rfl ?_
        exact gz_iretM 162 hC hX dX9_feet_162 hF
      · skip
        refine gz_aload_n 36 hC 1 dX9_feet_36 rfl rfl ?_
        refine gz_aload_n 37 hC 0 dX9_feet_37 rfl rfl ?_
        refine gz_cvP (st := [.ref a0]) 38 hC hX [] Value.int yl_X4_rowRefusal yv_X4_rowRefusal q_432 ⟨Nat.le_of_ble_eq_true rfl, Nat.le_of_ble_eq_true rfl⟩ ⟨_, rfl⟩ (fun r h => ct_X4_rowRefusal _ _ fu M x4 r h) rfl rfl (Nat.le_of_ble_eq_true rfl) dX9_feet_38 gz_00 hF (fun x6 hF => ?_)
        refine gz_cvM (st := []) 41 hC hX [.int x6] Value.int yl_X9_refuse yv_X9_refuse q_417 ⟨Nat.le_of_ble_eq_true rfl, Nat.le_of_ble_eq_true rfl⟩ ⟨_, rfl⟩ (fun r h => ct_X9_refuse _ _ fu M a0 x6 r h) rfl rfl (Nat.le_of_ble_eq_true rfl) dX9_feet_41 gz_00 hF (fun x7 M8 hF => ?_)
        exact gz_iretM 44 hC hX dX9_feet_44 hF
    · skip
      refine gz_sub [0] [(0, .ref a0)] rfl ?_
      exact hj15 hF
