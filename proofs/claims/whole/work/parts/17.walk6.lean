theorem dX9_alter_0 : decode cX9_alter 0 = .ok (.aload_n 0, 1) := by decide +kernel
theorem dX9_alter_1 : decode cX9_alter 1 = .ok (.iload_n 1, 1) := by decide +kernel
theorem dX9_alter_2 : decode cX9_alter 2 = .ok (.iload_n 2, 1) := by decide +kernel
theorem dX9_alter_3 : decode cX9_alter 3 = .ok (.invokevirtual 144, 3) := by decide +kernel
theorem dX9_alter_6 : decode cX9_alter 6 = .ok (.ifCond .eq 12, 3) := by decide +kernel
theorem dX9_alter_9 : decode cX9_alter 9 = .ok (.iload_n 3, 1) := by decide +kernel
theorem dX9_alter_10 : decode cX9_alter 10 = .ok (.iconst 0, 1) := by decide +kernel
theorem dX9_alter_11 : decode cX9_alter 11 = .ok (.iconst 1, 1) := by decide +kernel
theorem dX9_alter_12 : decode cX9_alter 12 = .ok (.invokestatic 75, 3) := by decide +kernel
theorem dX9_alter_15 : decode cX9_alter 15 = .ok (.ifCond .ne 10, 3) := by decide +kernel
theorem dX9_alter_18 : decode cX9_alter 18 = .ok (.aload_n 0, 1) := by decide +kernel
theorem dX9_alter_19 : decode cX9_alter 19 = .ok (.bipush (-2), 2) := by decide +kernel
theorem dX9_alter_21 : decode cX9_alter 21 = .ok (.invokevirtual 79, 3) := by decide +kernel
theorem dX9_alter_24 : decode cX9_alter 24 = .ok (.ireturn, 1) := by decide +kernel
theorem dX9_alter_25 : decode cX9_alter 25 = .ok (.iload_n 3, 1) := by decide +kernel
theorem dX9_alter_26 : decode cX9_alter 26 = .ok (.ifCond .ne 14, 3) := by decide +kernel
theorem dX9_alter_29 : decode cX9_alter 29 = .ok (.iload 4, 2) := by decide +kernel
theorem dX9_alter_31 : decode cX9_alter 31 = .ok (.iconst 1, 1) := by decide +kernel
theorem dX9_alter_32 : decode cX9_alter 32 = .ok (.bipush 99, 2) := by decide +kernel
theorem dX9_alter_34 : decode cX9_alter 34 = .ok (.invokestatic 75, 3) := by decide +kernel
theorem dX9_alter_37 : decode cX9_alter 37 = .ok (.goto 11, 3) := by decide +kernel
theorem dX9_alter_40 : decode cX9_alter 40 = .ok (.iload 4, 2) := by decide +kernel
theorem dX9_alter_42 : decode cX9_alter 42 = .ok (.iconst 0, 1) := by decide +kernel
theorem dX9_alter_43 : decode cX9_alter 43 = .ok (.bipush 9, 2) := by decide +kernel
theorem dX9_alter_45 : decode cX9_alter 45 = .ok (.invokestatic 75, 3) := by decide +kernel
theorem dX9_alter_48 : decode cX9_alter 48 = .ok (.istore 5, 2) := by decide +kernel
theorem dX9_alter_50 : decode cX9_alter 50 = .ok (.iload 5, 2) := by decide +kernel
theorem dX9_alter_52 : decode cX9_alter 52 = .ok (.ifCond .ne 10, 3) := by decide +kernel
theorem dX9_alter_55 : decode cX9_alter 55 = .ok (.aload_n 0, 1) := by decide +kernel
theorem dX9_alter_56 : decode cX9_alter 56 = .ok (.bipush (-2), 2) := by decide +kernel
theorem dX9_alter_58 : decode cX9_alter 58 = .ok (.invokevirtual 79, 3) := by decide +kernel
theorem dX9_alter_61 : decode cX9_alter 61 = .ok (.ireturn, 1) := by decide +kernel
theorem dX9_alter_62 : decode cX9_alter 62 = .ok (.aload_n 0, 1) := by decide +kernel
theorem dX9_alter_63 : decode cX9_alter 63 = .ok (.getfield 34, 3) := by decide +kernel
theorem dX9_alter_66 : decode cX9_alter 66 = .ok (.getfield 147, 3) := by decide +kernel
theorem dX9_alter_69 : decode cX9_alter 69 = .ok (.iload_n 1, 1) := by decide +kernel
theorem dX9_alter_70 : decode cX9_alter 70 = .ok (.aaload, 1) := by decide +kernel
theorem dX9_alter_71 : decode cX9_alter 71 = .ok (.astore 6, 2) := by decide +kernel
theorem dX9_alter_73 : decode cX9_alter 73 = .ok (.iload_n 3, 1) := by decide +kernel
theorem dX9_alter_74 : decode cX9_alter 74 = .ok (.ifCond .ne 7, 3) := by decide +kernel
theorem dX9_alter_77 : decode cX9_alter 77 = .ok (.iconst 3, 1) := by decide +kernel
theorem dX9_alter_78 : decode cX9_alter 78 = .ok (.goto 4, 3) := by decide +kernel
theorem dX9_alter_81 : decode cX9_alter 81 = .ok (.iconst 4, 1) := by decide +kernel
theorem dX9_alter_82 : decode cX9_alter 82 = .ok (.istore 7, 2) := by decide +kernel
theorem dX9_alter_84 : decode cX9_alter 84 = .ok (.aload 6, 2) := by decide +kernel
theorem dX9_alter_86 : decode cX9_alter 86 = .ok (.iload_n 2, 1) := by decide +kernel
theorem dX9_alter_87 : decode cX9_alter 87 = .ok (.iload 7, 2) := by decide +kernel
theorem dX9_alter_89 : decode cX9_alter 89 = .ok (.invokevirtual 196, 3) := by decide +kernel
theorem dX9_alter_92 : decode cX9_alter 92 = .ok (.istore 8, 2) := by decide +kernel
theorem dX9_alter_94 : decode cX9_alter 94 = .ok (.aload 6, 2) := by decide +kernel
theorem dX9_alter_96 : decode cX9_alter 96 = .ok (.iload_n 2, 1) := by decide +kernel
theorem dX9_alter_97 : decode cX9_alter 97 = .ok (.iload 7, 2) := by decide +kernel
theorem dX9_alter_99 : decode cX9_alter 99 = .ok (.iload 4, 2) := by decide +kernel
theorem dX9_alter_101 : decode cX9_alter 101 = .ok (.invokevirtual 212, 3) := by decide +kernel
theorem dX9_alter_104 : decode cX9_alter 104 = .ok (.iload 8, 2) := by decide +kernel
theorem dX9_alter_106 : decode cX9_alter 106 = .ok (.ireturn, 1) := by decide +kernel

def f_X9_alter (fu : Nat) (M : gz_M) (a0 : Nat) (a1 : Int32) (a2 : Int32) (a3 : Int32) (a4 : Int32) : Option (Int32 × gz_M) :=
  gz_gd M 9 a0 <|
  (f_X9_isFoot fu M a0 a1 a2).bind fun x1 =>
  gz_jn (gz_b2 (f_X9_refuse fu M a0 (-2 : Int32)) fun x14 M15 =>
    some (x14, M15)) fun j18 =>
  if x1 = 0 then
    j18
  else
    (f_X9_isWithin fu M a3 (0 : Int32) (1 : Int32)).bind fun x2 =>
    if x2 = 0 then
      j18
    else
      gz_jn (fun (x5 : Int32) =>
      if x5 = 0 then
          gz_b2 (f_X9_refuse fu M a0 (-2 : Int32)) fun x6 M7 =>
          some (x6, M7)
        else
          (gz_gR M 9 3 a0).bind fun x8 =>
          (gz_gR M 8 0 x8).bind fun x9 =>
          (gz_aR M x9 a1).bind fun x10 =>
          gz_jn (fun (x11 : Int32) =>
          (f_X7_footPart fu M x10 a2 x11).bind fun x12 =>
            (f_X7_putFootPart fu M x10 a2 x11 a4).bind fun M13 =>
            some (x12, M13)) fun j82 =>
          if a3 = 0 then
            j82 (3 : Int32)
          else
            j82 (4 : Int32)) fun j48 =>
      if a3 = 0 then
        (f_X9_isWithin fu M a4 (1 : Int32) (99 : Int32)).bind fun x3 =>
        j48 x3
      else
        (f_X9_isWithin fu M a4 (0 : Int32) (9 : Int32)).bind fun x4 =>
        j48 x4

set_option maxHeartbeats 4000000 in
theorem ct_X9_alter (l : Launch) (G : gz_G) (fu : Nat) (M : gz_M) (a0 : Nat) (a1 : Int32) (a2 : Int32) (a3 : Int32) (a4 : Int32) (y : Int32 × gz_M) (hF : f_X9_alter fu M a0 a1 a2 a3 a4 = some y) : gz_ct l yX9_alter cX9_alter 9 (some .int) 3 65 0 0 G [.ref a0, .int a1, .int a2, .int a3, .int a4] M (some (.int y.1)) y.2 := by
  refine gz_ct.of (by decide) (Nat.le_of_ble_eq_true rfl) (fun C hC hX => ?_)
  unfold f_X9_alter at hF
  obtain ⟨-, hF⟩ := gz_gd_some hF
  show gz_go C 0 0 M [(0, .ref a0), (1, .int a1), (2, .int a2), (3, .int a3), (4, .int a4)] 0 []
  refine gz_aload_n 0 hC 0 dX9_alter_0 rfl rfl ?_
  refine gz_iload_n 1 hC 1 dX9_alter_1 rfl rfl ?_
  refine gz_iload_n 2 hC 2 dX9_alter_2 rfl rfl ?_
  refine gz_cvP (st := []) 3 hC hX [.int a1, .int a2] Value.int yl_X9_isFoot yv_X9_isFoot q_505 ⟨Nat.le_of_ble_eq_true rfl, Nat.le_of_ble_eq_true rfl⟩ ⟨_, rfl⟩ (fun r h => ct_X9_isFoot _ _ fu M a0 a1 a2 r h) rfl rfl (Nat.le_of_ble_eq_true rfl) dX9_alter_3 gz_00 hF (fun x1 hF => ?_)
  refine gz_join (fun (j : Option (Int32 × gz_M)) => j = some y → gz_go C 0 0 M [(0, .ref a0)] 18 []) hF (fun hF => ?_) (fun j18 hj18 hF => ?_)
  · skip
    refine gz_aload_n 18 hC 0 dX9_alter_18 rfl rfl ?_
    refine gz_bipush 19 hC (-2 : Int32) dX9_alter_19 gz_bm2 ?_
    refine gz_cvM (st := []) 21 hC hX [.int (-2 : Int32)] Value.int yl_X9_refuse yv_X9_refuse q_417 ⟨Nat.le_of_ble_eq_true rfl, Nat.le_of_ble_eq_true rfl⟩ ⟨_, rfl⟩ (fun r h => ct_X9_refuse _ _ fu M a0 (-2 : Int32) r h) rfl rfl (Nat.le_of_ble_eq_true rfl) dX9_alter_21 gz_00 hF (fun x14 M15 hF => ?_)
    exact gz_iretM 24 hC hX dX9_alter_24 hF
  refine gz_if_eq 6 18 hC dX9_alter_6 (by decide) hF (fun hF => ?_) (fun hF => ?_)
  · skip
    refine gz_sub [0] [(0, .ref a0)] rfl ?_
    exact hj18 hF
  · skip
    refine gz_iload_n 9 hC 3 dX9_alter_9 rfl rfl ?_
    refine gz_iconst 10 hC (0 : Int32) dX9_alter_10 gz_k0 ?_
    refine gz_iconst 11 hC (1 : Int32) dX9_alter_11 gz_k1 ?_
    refine gz_csP (st := []) 12 hC hX [.int a3, .int (0 : Int32), .int (1 : Int32)] Value.int yl_X9_isWithin yv_X9_isWithin q_414 ⟨Nat.le_of_ble_eq_true rfl, Nat.le_of_ble_eq_true rfl⟩ (fun r h => ct_X9_isWithin _ _ fu M a3 (0 : Int32) (1 : Int32) r h) rfl rfl (Nat.le_of_ble_eq_true rfl) dX9_alter_12 gz_00 hF (fun x2 hF => ?_)
    refine gz_if_ne 15 25 hC dX9_alter_15 (by decide) hF (fun hF => ?_) (fun hF => ?_)
    · skip
      refine gz_iload_n 25 hC 3 dX9_alter_25 rfl rfl ?_
      refine gz_join (fun (j : Int32 → Option (Int32 × gz_M)) => ∀ (x5 : Int32), j x5 = some y → gz_go C 0 0 M [(0, .ref a0), (1, .int a1), (2, .int a2), (3, .int a3), (4, .int a4)] 48 [.int x5]) hF (fun x5 hF => ?_) (fun j48 hj48 hF => ?_)
      · skip
        refine gz_istore 48 hC [(5, .int x5), (0, .ref a0), (1, .int a1), (2, .int a2), (3, .int a3), (4, .int a4)] dX9_alter_48 (by decide) rfl ?_
        refine gz_iload 50 hC 0 dX9_alter_50 rfl ?_
        refine gz_if_ne 52 62 hC dX9_alter_52 (by decide) hF (fun hF => ?_) (fun hF => ?_)
        · skip
          refine gz_aload_n 62 hC 1 dX9_alter_62 rfl rfl ?_
          refine gz_getR 63 hC fl_X9_34 fk_9_3 dX9_alter_63 hF (fun x8 hF => ?_)
          refine gz_getR 66 hC fl_X9_147 fk_8_0 dX9_alter_66 hF (fun x9 hF => ?_)
          refine gz_iload_n 69 hC 2 dX9_alter_69 rfl rfl ?_
          refine gz_aald 70 hC dX9_alter_70 hF (fun x10 hF => ?_)
          refine gz_astore 71 hC [(6, .ref x10), (5, .int x5), (0, .ref a0), (1, .int a1), (2, .int a2), (3, .int a3), (4, .int a4)] dX9_alter_71 (by decide) rfl ?_
          refine gz_iload_n 73 hC 5 dX9_alter_73 rfl rfl ?_
          refine gz_join (fun (j : Int32 → Option (Int32 × gz_M)) => ∀ (x11 : Int32), j x11 = some y → gz_go C 0 0 M [(2, .int a2), (4, .int a4), (6, .ref x10)] 82 [.int x11]) hF (fun x11 hF => ?_) (fun j82 hj82 hF => ?_)
          · skip
            refine gz_istore 82 hC [(7, .int x11), (2, .int a2), (4, .int a4), (6, .ref x10)] dX9_alter_82 (by decide) rfl ?_
            refine gz_aload 84 hC 3 dX9_alter_84 rfl ?_
            refine gz_iload_n 86 hC 1 dX9_alter_86 rfl rfl ?_
            refine gz_iload 87 hC 0 dX9_alter_87 rfl ?_
            refine gz_cvP (st := []) 89 hC hX [.int a2, .int x11] Value.int yl_X7_footPart yv_X7_footPart q_710 ⟨Nat.le_of_ble_eq_true rfl, Nat.le_of_ble_eq_true rfl⟩ ⟨_, rfl⟩ (fun r h => ct_X7_footPart _ _ fu M x10 a2 x11 r h) rfl rfl (Nat.le_of_ble_eq_true rfl) dX9_alter_89 gz_00 hF (fun x12 hF => ?_)
            refine gz_istore 92 hC [(8, .int x12), (7, .int x11), (2, .int a2), (4, .int a4), (6, .ref x10)] dX9_alter_92 (by decide) rfl ?_
            refine gz_aload 94 hC 4 dX9_alter_94 rfl ?_
            refine gz_iload_n 96 hC 2 dX9_alter_96 rfl rfl ?_
            refine gz_iload 97 hC 1 dX9_alter_97 rfl ?_
            refine gz_iload 99 hC 3 dX9_alter_99 rfl ?_
            refine gz_cvV (st := []) 101 hC hX [.int a2, .int x11, .int a4] yl_X7_putFootPart yv_X7_putFootPart q_731 ⟨Nat.le_of_ble_eq_true rfl, Nat.le_of_ble_eq_true rfl⟩ ⟨_, rfl⟩ (fun r h => ct_X7_putFootPart _ _ fu M x10 a2 x11 a4 r h) rfl rfl (Nat.le_of_ble_eq_true rfl) dX9_alter_101 gz_00 hF (fun M13 hF => ?_)
            refine gz_iload 104 hC 0 dX9_alter_104 rfl ?_
            exact gz_iretM 106 hC hX dX9_alter_106 hF
          refine gz_if_ne 74 81 hC dX9_alter_74 (by decide) hF (fun hF => ?_) (fun hF => ?_)
          · skip
            refine gz_iconst 81 hC (4 : Int32) dX9_alter_81 gz_k4 ?_
            refine gz_sub [4, 6, 0] [(2, .int a2), (4, .int a4), (6, .ref x10)] rfl ?_
            exact hj82 _ hF
          · skip
            refine gz_iconst 77 hC (3 : Int32) dX9_alter_77 gz_k3 ?_
            refine gz_goto 78 82 hC dX9_alter_78 (by decide) ?_
            refine gz_sub [4, 6, 0] [(2, .int a2), (4, .int a4), (6, .ref x10)] rfl ?_
            exact hj82 _ hF
        · skip
          refine gz_aload_n 55 hC 1 dX9_alter_55 rfl rfl ?_
          refine gz_bipush 56 hC (-2 : Int32) dX9_alter_56 gz_bm2 ?_
          refine gz_cvM (st := []) 58 hC hX [.int (-2 : Int32)] Value.int yl_X9_refuse yv_X9_refuse q_417 ⟨Nat.le_of_ble_eq_true rfl, Nat.le_of_ble_eq_true rfl⟩ ⟨_, rfl⟩ (fun r h => ct_X9_refuse _ _ fu M a0 (-2 : Int32) r h) rfl rfl (Nat.le_of_ble_eq_true rfl) dX9_alter_58 gz_00 hF (fun x6 M7 hF => ?_)
          exact gz_iretM 61 hC hX dX9_alter_61 hF
      refine gz_if_ne 26 40 hC dX9_alter_26 (by decide) hF (fun hF => ?_) (fun hF => ?_)
      · skip
        refine gz_iload 40 hC 4 dX9_alter_40 rfl ?_
        refine gz_iconst 42 hC (0 : Int32) dX9_alter_42 gz_k0 ?_
        refine gz_bipush 43 hC (9 : Int32) dX9_alter_43 gz_b9 ?_
        refine gz_csP (st := []) 45 hC hX [.int a4, .int (0 : Int32), .int (9 : Int32)] Value.int yl_X9_isWithin yv_X9_isWithin q_414 ⟨Nat.le_of_ble_eq_true rfl, Nat.le_of_ble_eq_true rfl⟩ (fun r h => ct_X9_isWithin _ _ fu M a4 (0 : Int32) (9 : Int32) r h) rfl rfl (Nat.le_of_ble_eq_true rfl) dX9_alter_45 gz_00 hF (fun x4 hF => ?_)
        exact hj48 _ hF
      · skip
        refine gz_iload 29 hC 4 dX9_alter_29 rfl ?_
        refine gz_iconst 31 hC (1 : Int32) dX9_alter_31 gz_k1 ?_
        refine gz_bipush 32 hC (99 : Int32) dX9_alter_32 gz_b99 ?_
        refine gz_csP (st := []) 34 hC hX [.int a4, .int (1 : Int32), .int (99 : Int32)] Value.int yl_X9_isWithin yv_X9_isWithin q_414 ⟨Nat.le_of_ble_eq_true rfl, Nat.le_of_ble_eq_true rfl⟩ (fun r h => ct_X9_isWithin _ _ fu M a4 (1 : Int32) (99 : Int32) r h) rfl rfl (Nat.le_of_ble_eq_true rfl) dX9_alter_34 gz_00 hF (fun x3 hF => ?_)
        refine gz_goto 37 48 hC dX9_alter_37 (by decide) ?_
        exact hj48 _ hF
    · skip
      refine gz_sub [0] [(0, .ref a0)] rfl ?_
      exact hj18 hF

theorem dX9_carve_0 : decode cX9_carve 0 = .ok (.aload_n 0, 1) := by decide +kernel
theorem dX9_carve_1 : decode cX9_carve 1 = .ok (.iload_n 1, 1) := by decide +kernel
theorem dX9_carve_2 : decode cX9_carve 2 = .ok (.iload_n 2, 1) := by decide +kernel
theorem dX9_carve_3 : decode cX9_carve 3 = .ok (.invokevirtual 200, 3) := by decide +kernel
theorem dX9_carve_6 : decode cX9_carve 6 = .ok (.ifCond .eq 33, 3) := by decide +kernel
theorem dX9_carve_9 : decode cX9_carve 9 = .ok (.iload_n 3, 1) := by decide +kernel
theorem dX9_carve_10 : decode cX9_carve 10 = .ok (.iconst 0, 1) := by decide +kernel
theorem dX9_carve_11 : decode cX9_carve 11 = .ok (.iconst 3, 1) := by decide +kernel
theorem dX9_carve_12 : decode cX9_carve 12 = .ok (.invokestatic 75, 3) := by decide +kernel
theorem dX9_carve_15 : decode cX9_carve 15 = .ok (.ifCond .eq 24, 3) := by decide +kernel
theorem dX9_carve_18 : decode cX9_carve 18 = .ok (.iload 4, 2) := by decide +kernel
theorem dX9_carve_20 : decode cX9_carve 20 = .ok (.iconst 0, 1) := by decide +kernel
theorem dX9_carve_21 : decode cX9_carve 21 = .ok (.iload_n 3, 1) := by decide +kernel
theorem dX9_carve_22 : decode cX9_carve 22 = .ok (.iconst 3, 1) := by decide +kernel
theorem dX9_carve_23 : decode cX9_carve 23 = .ok (.if_icmp .ne 8, 3) := by decide +kernel
theorem dX9_carve_26 : decode cX9_carve 26 = .ok (.bipush 99, 2) := by decide +kernel
theorem dX9_carve_28 : decode cX9_carve 28 = .ok (.goto 5, 3) := by decide +kernel
theorem dX9_carve_31 : decode cX9_carve 31 = .ok (.bipush 40, 2) := by decide +kernel
theorem dX9_carve_33 : decode cX9_carve 33 = .ok (.invokestatic 75, 3) := by decide +kernel
theorem dX9_carve_36 : decode cX9_carve 36 = .ok (.ifCond .ne 10, 3) := by decide +kernel
theorem dX9_carve_39 : decode cX9_carve 39 = .ok (.aload_n 0, 1) := by decide +kernel
theorem dX9_carve_40 : decode cX9_carve 40 = .ok (.bipush (-2), 2) := by decide +kernel
theorem dX9_carve_42 : decode cX9_carve 42 = .ok (.invokevirtual 79, 3) := by decide +kernel
theorem dX9_carve_45 : decode cX9_carve 45 = .ok (.ireturn, 1) := by decide +kernel
theorem dX9_carve_46 : decode cX9_carve 46 = .ok (.aload_n 0, 1) := by decide +kernel
theorem dX9_carve_47 : decode cX9_carve 47 = .ok (.getfield 34, 3) := by decide +kernel
theorem dX9_carve_50 : decode cX9_carve 50 = .ok (.getfield 147, 3) := by decide +kernel
theorem dX9_carve_53 : decode cX9_carve 53 = .ok (.iload_n 1, 1) := by decide +kernel
theorem dX9_carve_54 : decode cX9_carve 54 = .ok (.aaload, 1) := by decide +kernel
theorem dX9_carve_55 : decode cX9_carve 55 = .ok (.astore 5, 2) := by decide +kernel
theorem dX9_carve_57 : decode cX9_carve 57 = .ok (.aload 5, 2) := by decide +kernel
theorem dX9_carve_59 : decode cX9_carve 59 = .ok (.iload_n 2, 1) := by decide +kernel
theorem dX9_carve_60 : decode cX9_carve 60 = .ok (.iload_n 3, 1) := by decide +kernel
theorem dX9_carve_61 : decode cX9_carve 61 = .ok (.invokevirtual 203, 3) := by decide +kernel
theorem dX9_carve_64 : decode cX9_carve 64 = .ok (.istore 6, 2) := by decide +kernel
theorem dX9_carve_66 : decode cX9_carve 66 = .ok (.aload 5, 2) := by decide +kernel
theorem dX9_carve_68 : decode cX9_carve 68 = .ok (.iload_n 2, 1) := by decide +kernel
theorem dX9_carve_69 : decode cX9_carve 69 = .ok (.iload_n 3, 1) := by decide +kernel
theorem dX9_carve_70 : decode cX9_carve 70 = .ok (.iload 4, 2) := by decide +kernel
theorem dX9_carve_72 : decode cX9_carve 72 = .ok (.invokevirtual 215, 3) := by decide +kernel
theorem dX9_carve_75 : decode cX9_carve 75 = .ok (.iload 6, 2) := by decide +kernel
theorem dX9_carve_77 : decode cX9_carve 77 = .ok (.ireturn, 1) := by decide +kernel

def f_X9_carve (fu : Nat) (M : gz_M) (a0 : Nat) (a1 : Int32) (a2 : Int32) (a3 : Int32) (a4 : Int32) : Option (Int32 × gz_M) :=
  gz_gd M 9 a0 <|
  (f_X9_isLast fu M a0 a1 a2).bind fun x1 =>
  gz_jn (gz_b2 (f_X9_refuse fu M a0 (-2 : Int32)) fun x10 M11 =>
    some (x10, M11)) fun j39 =>
  if x1 = 0 then
    j39
  else
    (f_X9_isWithin fu M a3 (0 : Int32) (3 : Int32)).bind fun x2 =>
    if x2 = 0 then
      j39
    else
      gz_jn (fun (x3 : Int32) =>
      (f_X9_isWithin fu M a4 (0 : Int32) x3).bind fun x4 =>
        if x4 = 0 then
          j39
        else
          (gz_gR M 9 3 a0).bind fun x5 =>
          (gz_gR M 8 0 x5).bind fun x6 =>
          (gz_aR M x6 a1).bind fun x7 =>
          (f_X7_lastPart fu M x7 a2 a3).bind fun x8 =>
          (f_X7_putLastPart fu M x7 a2 a3 a4).bind fun M9 =>
          some (x8, M9)) fun j33 =>
      if a3 = (3 : Int32) then
        j33 (99 : Int32)
      else
        j33 (40 : Int32)

set_option maxHeartbeats 4000000 in
theorem ct_X9_carve (l : Launch) (G : gz_G) (fu : Nat) (M : gz_M) (a0 : Nat) (a1 : Int32) (a2 : Int32) (a3 : Int32) (a4 : Int32) (y : Int32 × gz_M) (hF : f_X9_carve fu M a0 a1 a2 a3 a4 = some y) : gz_ct l yX9_carve cX9_carve 7 (some .int) 3 65 0 0 G [.ref a0, .int a1, .int a2, .int a3, .int a4] M (some (.int y.1)) y.2 := by
  refine gz_ct.of (by decide) (Nat.le_of_ble_eq_true rfl) (fun C hC hX => ?_)
  unfold f_X9_carve at hF
  obtain ⟨-, hF⟩ := gz_gd_some hF
  show gz_go C 0 0 M [(0, .ref a0), (1, .int a1), (2, .int a2), (3, .int a3), (4, .int a4)] 0 []
  refine gz_aload_n 0 hC 0 dX9_carve_0 rfl rfl ?_
  refine gz_iload_n 1 hC 1 dX9_carve_1 rfl rfl ?_
  refine gz_iload_n 2 hC 2 dX9_carve_2 rfl rfl ?_
  refine gz_cvP (st := []) 3 hC hX [.int a1, .int a2] Value.int yl_X9_isLast yv_X9_isLast q_715 ⟨Nat.le_of_ble_eq_true rfl, Nat.le_of_ble_eq_true rfl⟩ ⟨_, rfl⟩ (fun r h => ct_X9_isLast _ _ fu M a0 a1 a2 r h) rfl rfl (Nat.le_of_ble_eq_true rfl) dX9_carve_3 gz_00 hF (fun x1 hF => ?_)
  refine gz_join (fun (j : Option (Int32 × gz_M)) => j = some y → gz_go C 0 0 M [(0, .ref a0)] 39 []) hF (fun hF => ?_) (fun j39 hj39 hF => ?_)
  · skip
    refine gz_aload_n 39 hC 0 dX9_carve_39 rfl rfl ?_
    refine gz_bipush 40 hC (-2 : Int32) dX9_carve_40 gz_bm2 ?_
    refine gz_cvM (st := []) 42 hC hX [.int (-2 : Int32)] Value.int yl_X9_refuse yv_X9_refuse q_417 ⟨Nat.le_of_ble_eq_true rfl, Nat.le_of_ble_eq_true rfl⟩ ⟨_, rfl⟩ (fun r h => ct_X9_refuse _ _ fu M a0 (-2 : Int32) r h) rfl rfl (Nat.le_of_ble_eq_true rfl) dX9_carve_42 gz_00 hF (fun x10 M11 hF => ?_)
    exact gz_iretM 45 hC hX dX9_carve_45 hF
  refine gz_if_eq 6 39 hC dX9_carve_6 (by decide) hF (fun hF => ?_) (fun hF => ?_)
  · skip
    refine gz_sub [0] [(0, .ref a0)] rfl ?_
    exact hj39 hF
  · skip
    refine gz_iload_n 9 hC 3 dX9_carve_9 rfl rfl ?_
    refine gz_iconst 10 hC (0 : Int32) dX9_carve_10 gz_k0 ?_
    refine gz_iconst 11 hC (3 : Int32) dX9_carve_11 gz_k3 ?_
    refine gz_csP (st := []) 12 hC hX [.int a3, .int (0 : Int32), .int (3 : Int32)] Value.int yl_X9_isWithin yv_X9_isWithin q_414 ⟨Nat.le_of_ble_eq_true rfl, Nat.le_of_ble_eq_true rfl⟩ (fun r h => ct_X9_isWithin _ _ fu M a3 (0 : Int32) (3 : Int32) r h) rfl rfl (Nat.le_of_ble_eq_true rfl) dX9_carve_12 gz_00 hF (fun x2 hF => ?_)
    refine gz_if_eq 15 39 hC dX9_carve_15 (by decide) hF (fun hF => ?_) (fun hF => ?_)
    · skip
      refine gz_sub [0] [(0, .ref a0)] rfl ?_
      exact hj39 hF
    · skip
      refine gz_iload 18 hC 4 dX9_carve_18 rfl ?_
      refine gz_iconst 20 hC (0 : Int32) dX9_carve_20 gz_k0 ?_
      refine gz_iload_n 21 hC 3 dX9_carve_21 rfl rfl ?_
      refine gz_iconst 22 hC (3 : Int32) dX9_carve_22 gz_k3 ?_
      refine gz_join (fun (j : Int32 → Option (Int32 × gz_M)) => ∀ (x3 : Int32), j x3 = some y → gz_go C 0 0 M [(0, .ref a0), (1, .int a1), (2, .int a2), (3, .int a3), (4, .int a4)] 33 [.int x3, .int (0 : Int32), .int a4]) hF (fun x3 hF => ?_) (fun j33 hj33 hF => ?_)
      · skip
        refine gz_csP (st := []) 33 hC hX [.int a4, .int (0 : Int32), .int x3] Value.int yl_X9_isWithin yv_X9_isWithin q_414 ⟨Nat.le_of_ble_eq_true rfl, Nat.le_of_ble_eq_true rfl⟩ (fun r h => ct_X9_isWithin _ _ fu M a4 (0 : Int32) x3 r h) rfl rfl (Nat.le_of_ble_eq_true rfl) dX9_carve_33 gz_00 hF (fun x4 hF => ?_)
        refine gz_if_ne 36 46 hC dX9_carve_36 (by decide) hF (fun hF => ?_) (fun hF => ?_)
        · skip
          refine gz_aload_n 46 hC 0 dX9_carve_46 rfl rfl ?_
          refine gz_getR 47 hC fl_X9_34 fk_9_3 dX9_carve_47 hF (fun x5 hF => ?_)
          refine gz_getR 50 hC fl_X9_147 fk_8_0 dX9_carve_50 hF (fun x6 hF => ?_)
          refine gz_iload_n 53 hC 1 dX9_carve_53 rfl rfl ?_
          refine gz_aald 54 hC dX9_carve_54 hF (fun x7 hF => ?_)
          refine gz_astore 55 hC [(5, .ref x7), (0, .ref a0), (1, .int a1), (2, .int a2), (3, .int a3), (4, .int a4)] dX9_carve_55 (by decide) rfl ?_
          refine gz_aload 57 hC 0 dX9_carve_57 rfl ?_
          refine gz_iload_n 59 hC 3 dX9_carve_59 rfl rfl ?_
          refine gz_iload_n 60 hC 4 dX9_carve_60 rfl rfl ?_
          refine gz_cvP (st := []) 61 hC hX [.int a2, .int a3] Value.int yl_X7_lastPart yv_X7_lastPart q_719 ⟨Nat.le_of_ble_eq_true rfl, Nat.le_of_ble_eq_true rfl⟩ ⟨_, rfl⟩ (fun r h => ct_X7_lastPart _ _ fu M x7 a2 a3 r h) rfl rfl (Nat.le_of_ble_eq_true rfl) dX9_carve_61 gz_00 hF (fun x8 hF => ?_)
          refine gz_istore 64 hC [(6, .int x8), (5, .ref x7), (0, .ref a0), (1, .int a1), (2, .int a2), (3, .int a3), (4, .int a4)] dX9_carve_64 (by decide) rfl ?_
          refine gz_aload 66 hC 1 dX9_carve_66 rfl ?_
          refine gz_iload_n 68 hC 4 dX9_carve_68 rfl rfl ?_
          refine gz_iload_n 69 hC 5 dX9_carve_69 rfl rfl ?_
          refine gz_iload 70 hC 6 dX9_carve_70 rfl ?_
          refine gz_cvV (st := []) 72 hC hX [.int a2, .int a3, .int a4] yl_X7_putLastPart yv_X7_putLastPart q_740 ⟨Nat.le_of_ble_eq_true rfl, Nat.le_of_ble_eq_true rfl⟩ ⟨_, rfl⟩ (fun r h => ct_X7_putLastPart _ _ fu M x7 a2 a3 a4 r h) rfl rfl (Nat.le_of_ble_eq_true rfl) dX9_carve_72 gz_00 hF (fun M9 hF => ?_)
          refine gz_iload 75 hC 0 dX9_carve_75 rfl ?_
          exact gz_iretM 77 hC hX dX9_carve_77 hF
        · skip
          refine gz_sub [0] [(0, .ref a0)] rfl ?_
          exact hj39 hF
      refine gz_icmp_ne 23 31 hC dX9_carve_23 (by decide) hF (fun hF => ?_) (fun hF => ?_)
      · skip
        refine gz_bipush 31 hC (40 : Int32) dX9_carve_31 gz_b40 ?_
        exact hj33 _ hF
      · skip
        refine gz_bipush 26 hC (99 : Int32) dX9_carve_26 gz_b99 ?_
        refine gz_goto 28 33 hC dX9_carve_28 (by decide) ?_
        exact hj33 _ hF

theorem dX9_build_0 : decode cX9_build 0 = .ok (.aload_n 0, 1) := by decide +kernel
theorem dX9_build_1 : decode cX9_build 1 = .ok (.iload_n 1, 1) := by decide +kernel
theorem dX9_build_2 : decode cX9_build 2 = .ok (.iload_n 2, 1) := by decide +kernel
theorem dX9_build_3 : decode cX9_build 3 = .ok (.invokevirtual 200, 3) := by decide +kernel
theorem dX9_build_6 : decode cX9_build 6 = .ok (.ifCond .eq 13, 3) := by decide +kernel
theorem dX9_build_9 : decode cX9_build 9 = .ok (.iload_n 3, 1) := by decide +kernel
theorem dX9_build_10 : decode cX9_build 10 = .ok (.iconst 1, 1) := by decide +kernel
theorem dX9_build_11 : decode cX9_build 11 = .ok (.bipush 9, 2) := by decide +kernel
theorem dX9_build_13 : decode cX9_build 13 = .ok (.invokestatic 75, 3) := by decide +kernel
theorem dX9_build_16 : decode cX9_build 16 = .ok (.ifCond .ne 10, 3) := by decide +kernel
theorem dX9_build_19 : decode cX9_build 19 = .ok (.aload_n 0, 1) := by decide +kernel
theorem dX9_build_20 : decode cX9_build 20 = .ok (.bipush (-2), 2) := by decide +kernel
theorem dX9_build_22 : decode cX9_build 22 = .ok (.invokevirtual 79, 3) := by decide +kernel
theorem dX9_build_25 : decode cX9_build 25 = .ok (.ireturn, 1) := by decide +kernel
theorem dX9_build_26 : decode cX9_build 26 = .ok (.aload_n 0, 1) := by decide +kernel
theorem dX9_build_27 : decode cX9_build 27 = .ok (.getfield 34, 3) := by decide +kernel
theorem dX9_build_30 : decode cX9_build 30 = .ok (.getfield 147, 3) := by decide +kernel
theorem dX9_build_33 : decode cX9_build 33 = .ok (.iload_n 1, 1) := by decide +kernel
theorem dX9_build_34 : decode cX9_build 34 = .ok (.aaload, 1) := by decide +kernel
theorem dX9_build_35 : decode cX9_build 35 = .ok (.astore 4, 2) := by decide +kernel
theorem dX9_build_37 : decode cX9_build 37 = .ok (.aload 4, 2) := by decide +kernel
theorem dX9_build_39 : decode cX9_build 39 = .ok (.iload_n 2, 1) := by decide +kernel
theorem dX9_build_40 : decode cX9_build 40 = .ok (.iconst 0, 1) := by decide +kernel
theorem dX9_build_41 : decode cX9_build 41 = .ok (.invokevirtual 203, 3) := by decide +kernel
theorem dX9_build_44 : decode cX9_build 44 = .ok (.iload_n 3, 1) := by decide +kernel
theorem dX9_build_45 : decode cX9_build 45 = .ok (.iadd, 1) := by decide +kernel
theorem dX9_build_46 : decode cX9_build 46 = .ok (.istore 5, 2) := by decide +kernel
theorem dX9_build_48 : decode cX9_build 48 = .ok (.aload 4, 2) := by decide +kernel
theorem dX9_build_50 : decode cX9_build 50 = .ok (.iload_n 2, 1) := by decide +kernel
theorem dX9_build_51 : decode cX9_build 51 = .ok (.iconst 1, 1) := by decide +kernel
theorem dX9_build_52 : decode cX9_build 52 = .ok (.invokevirtual 203, 3) := by decide +kernel
theorem dX9_build_55 : decode cX9_build 55 = .ok (.iload_n 3, 1) := by decide +kernel
theorem dX9_build_56 : decode cX9_build 56 = .ok (.iadd, 1) := by decide +kernel
theorem dX9_build_57 : decode cX9_build 57 = .ok (.istore 6, 2) := by decide +kernel
theorem dX9_build_59 : decode cX9_build 59 = .ok (.aload 4, 2) := by decide +kernel
theorem dX9_build_61 : decode cX9_build 61 = .ok (.iload_n 2, 1) := by decide +kernel
theorem dX9_build_62 : decode cX9_build 62 = .ok (.iconst 2, 1) := by decide +kernel
theorem dX9_build_63 : decode cX9_build 63 = .ok (.invokevirtual 203, 3) := by decide +kernel
theorem dX9_build_66 : decode cX9_build 66 = .ok (.iload_n 3, 1) := by decide +kernel
theorem dX9_build_67 : decode cX9_build 67 = .ok (.iadd, 1) := by decide +kernel
theorem dX9_build_68 : decode cX9_build 68 = .ok (.istore 7, 2) := by decide +kernel
theorem dX9_build_70 : decode cX9_build 70 = .ok (.iload 5, 2) := by decide +kernel
theorem dX9_build_72 : decode cX9_build 72 = .ok (.bipush 40, 2) := by decide +kernel
theorem dX9_build_74 : decode cX9_build 74 = .ok (.if_icmp .gt 17, 3) := by decide +kernel
theorem dX9_build_77 : decode cX9_build 77 = .ok (.iload 6, 2) := by decide +kernel
theorem dX9_build_79 : decode cX9_build 79 = .ok (.bipush 40, 2) := by decide +kernel
theorem dX9_build_81 : decode cX9_build 81 = .ok (.if_icmp .gt 10, 3) := by decide +kernel
theorem dX9_build_84 : decode cX9_build 84 = .ok (.iload 7, 2) := by decide +kernel
theorem dX9_build_86 : decode cX9_build 86 = .ok (.bipush 40, 2) := by decide +kernel
theorem dX9_build_88 : decode cX9_build 88 = .ok (.if_icmp .le 10, 3) := by decide +kernel
theorem dX9_build_91 : decode cX9_build 91 = .ok (.aload_n 0, 1) := by decide +kernel
theorem dX9_build_92 : decode cX9_build 92 = .ok (.bipush (-5), 2) := by decide +kernel
theorem dX9_build_94 : decode cX9_build 94 = .ok (.invokevirtual 79, 3) := by decide +kernel
theorem dX9_build_97 : decode cX9_build 97 = .ok (.ireturn, 1) := by decide +kernel
theorem dX9_build_98 : decode cX9_build 98 = .ok (.aload 4, 2) := by decide +kernel
theorem dX9_build_100 : decode cX9_build 100 = .ok (.getfield 178, 3) := by decide +kernel
theorem dX9_build_103 : decode cX9_build 103 = .ok (.bipush 10, 2) := by decide +kernel
theorem dX9_build_105 : decode cX9_build 105 = .ok (.if_icmp .lt 10, 3) := by decide +kernel
theorem dX9_build_108 : decode cX9_build 108 = .ok (.aload_n 0, 1) := by decide +kernel
theorem dX9_build_109 : decode cX9_build 109 = .ok (.bipush (-6), 2) := by decide +kernel
theorem dX9_build_111 : decode cX9_build 111 = .ok (.invokevirtual 79, 3) := by decide +kernel
theorem dX9_build_114 : decode cX9_build 114 = .ok (.ireturn, 1) := by decide +kernel
theorem dX9_build_115 : decode cX9_build 115 = .ok (.aload 4, 2) := by decide +kernel
theorem dX9_build_117 : decode cX9_build 117 = .ok (.iload 5, 2) := by decide +kernel
theorem dX9_build_119 : decode cX9_build 119 = .ok (.iload 6, 2) := by decide +kernel
theorem dX9_build_121 : decode cX9_build 121 = .ok (.iload 7, 2) := by decide +kernel
theorem dX9_build_123 : decode cX9_build 123 = .ok (.invokevirtual 218, 3) := by decide +kernel
theorem dX9_build_126 : decode cX9_build 126 = .ok (.aload 4, 2) := by decide +kernel
theorem dX9_build_128 : decode cX9_build 128 = .ok (.aload 4, 2) := by decide +kernel
theorem dX9_build_130 : decode cX9_build 130 = .ok (.getfield 178, 3) := by decide +kernel
theorem dX9_build_133 : decode cX9_build 133 = .ok (.iconst 1, 1) := by decide +kernel
theorem dX9_build_134 : decode cX9_build 134 = .ok (.isub, 1) := by decide +kernel
theorem dX9_build_135 : decode cX9_build 135 = .ok (.iconst 3, 1) := by decide +kernel
theorem dX9_build_136 : decode cX9_build 136 = .ok (.bipush 99, 2) := by decide +kernel
theorem dX9_build_138 : decode cX9_build 138 = .ok (.aload 4, 2) := by decide +kernel
theorem dX9_build_140 : decode cX9_build 140 = .ok (.iload_n 2, 1) := by decide +kernel
theorem dX9_build_141 : decode cX9_build 141 = .ok (.iconst 3, 1) := by decide +kernel
theorem dX9_build_142 : decode cX9_build 142 = .ok (.invokevirtual 203, 3) := by decide +kernel
theorem dX9_build_145 : decode cX9_build 145 = .ok (.iload_n 3, 1) := by decide +kernel
theorem dX9_build_146 : decode cX9_build 146 = .ok (.iadd, 1) := by decide +kernel
theorem dX9_build_147 : decode cX9_build 147 = .ok (.invokestatic 221, 3) := by decide +kernel
theorem dX9_build_150 : decode cX9_build 150 = .ok (.invokevirtual 215, 3) := by decide +kernel
theorem dX9_build_153 : decode cX9_build 153 = .ok (.aload 4, 2) := by decide +kernel
theorem dX9_build_155 : decode cX9_build 155 = .ok (.getfield 178, 3) := by decide +kernel
theorem dX9_build_158 : decode cX9_build 158 = .ok (.iconst 1, 1) := by decide +kernel
theorem dX9_build_159 : decode cX9_build 159 = .ok (.isub, 1) := by decide +kernel
theorem dX9_build_160 : decode cX9_build 160 = .ok (.ireturn, 1) := by decide +kernel

def f_X9_build (fu : Nat) (M : gz_M) (a0 : Nat) (a1 : Int32) (a2 : Int32) (a3 : Int32) : Option (Int32 × gz_M) :=
  gz_gd M 9 a0 <|
  (f_X9_isLast fu M a0 a1 a2).bind fun x1 =>
  gz_jn (gz_b2 (f_X9_refuse fu M a0 (-2 : Int32)) fun x19 M20 =>
    some (x19, M20)) fun j19 =>
  if x1 = 0 then
    j19
  else
    (f_X9_isWithin fu M a3 (1 : Int32) (9 : Int32)).bind fun x2 =>
    if x2 = 0 then
      j19
    else
      (gz_gR M 9 3 a0).bind fun x3 =>
      (gz_gR M 8 0 x3).bind fun x4 =>
      (gz_aR M x4 a1).bind fun x5 =>
      (f_X7_lastPart fu M x5 a2 (0 : Int32)).bind fun x6 =>
      (f_X7_lastPart fu M x5 a2 (1 : Int32)).bind fun x7 =>
      (f_X7_lastPart fu M x5 a2 (2 : Int32)).bind fun x8 =>
      gz_jn (gz_b2 (f_X9_refuse fu M a0 (-5 : Int32)) fun x17 M18 =>
        some (x17, M18)) fun j91 =>
      if (40 : Int32) < (x6 + a3) then
        j91
      else
        if (40 : Int32) < (x7 + a3) then
          j91
        else
          if (x8 + a3) ≤ (40 : Int32) then
            (gz_gI M 7 5 x5).bind fun x9 =>
            if x9 < (10 : Int32) then
              (f_X7_addLast fu M x5 (x6 + a3) (x7 + a3) (x8 + a3)).bind fun M12 =>
              (gz_gI M12 7 5 x5).bind fun x13 =>
              (f_X7_lastPart fu M12 x5 a2 (3 : Int32)).bind fun x14 =>
              (f_X7_putLastPart fu M12 x5 (x13 - (1 : Int32)) (3 : Int32) (if (x14 + a3) < (99 : Int32) then (x14 + a3) else (99 : Int32))).bind fun M15 =>
              (gz_gI M15 7 5 x5).bind fun x16 =>
              some ((x16 - (1 : Int32)), M15)
            else
              gz_b2 (f_X9_refuse fu M a0 (-6 : Int32)) fun x10 M11 =>
              some (x10, M11)
          else
            j91

set_option maxHeartbeats 4000000 in
theorem ct_X9_build (l : Launch) (G : gz_G) (fu : Nat) (M : gz_M) (a0 : Nat) (a1 : Int32) (a2 : Int32) (a3 : Int32) (y : Int32 × gz_M) (hF : f_X9_build fu M a0 a1 a2 a3 = some y) : gz_ct l yX9_build cX9_build 8 (some .int) 3 65 0 0 G [.ref a0, .int a1, .int a2, .int a3] M (some (.int y.1)) y.2 := by
  refine gz_ct.of (by decide) (Nat.le_of_ble_eq_true rfl) (fun C hC hX => ?_)
  unfold f_X9_build at hF
  obtain ⟨-, hF⟩ := gz_gd_some hF
  show gz_go C 0 0 M [(0, .ref a0), (1, .int a1), (2, .int a2), (3, .int a3)] 0 []
  refine gz_aload_n 0 hC 0 dX9_build_0 rfl rfl ?_
  refine gz_iload_n 1 hC 1 dX9_build_1 rfl rfl ?_
  refine gz_iload_n 2 hC 2 dX9_build_2 rfl rfl ?_
  refine gz_cvP (st := []) 3 hC hX [.int a1, .int a2] Value.int yl_X9_isLast yv_X9_isLast q_715 ⟨Nat.le_of_ble_eq_true rfl, Nat.le_of_ble_eq_true rfl⟩ ⟨_, rfl⟩ (fun r h => ct_X9_isLast _ _ fu M a0 a1 a2 r h) rfl rfl (Nat.le_of_ble_eq_true rfl) dX9_build_3 gz_00 hF (fun x1 hF => ?_)
  refine gz_join (fun (j : Option (Int32 × gz_M)) => j = some y → gz_go C 0 0 M [(0, .ref a0)] 19 []) hF (fun hF => ?_) (fun j19 hj19 hF => ?_)
  · skip
    refine gz_aload_n 19 hC 0 dX9_build_19 rfl rfl ?_
    refine gz_bipush 20 hC (-2 : Int32) dX9_build_20 gz_bm2 ?_
    refine gz_cvM (st := []) 22 hC hX [.int (-2 : Int32)] Value.int yl_X9_refuse yv_X9_refuse q_417 ⟨Nat.le_of_ble_eq_true rfl, Nat.le_of_ble_eq_true rfl⟩ ⟨_, rfl⟩ (fun r h => ct_X9_refuse _ _ fu M a0 (-2 : Int32) r h) rfl rfl (Nat.le_of_ble_eq_true rfl) dX9_build_22 gz_00 hF (fun x19 M20 hF => ?_)
    exact gz_iretM 25 hC hX dX9_build_25 hF
  refine gz_if_eq 6 19 hC dX9_build_6 (by decide) hF (fun hF => ?_) (fun hF => ?_)
  · skip
    refine gz_sub [0] [(0, .ref a0)] rfl ?_
    exact hj19 hF
  · skip
    refine gz_iload_n 9 hC 3 dX9_build_9 rfl rfl ?_
    refine gz_iconst 10 hC (1 : Int32) dX9_build_10 gz_k1 ?_
    refine gz_bipush 11 hC (9 : Int32) dX9_build_11 gz_b9 ?_
    refine gz_csP (st := []) 13 hC hX [.int a3, .int (1 : Int32), .int (9 : Int32)] Value.int yl_X9_isWithin yv_X9_isWithin q_414 ⟨Nat.le_of_ble_eq_true rfl, Nat.le_of_ble_eq_true rfl⟩ (fun r h => ct_X9_isWithin _ _ fu M a3 (1 : Int32) (9 : Int32) r h) rfl rfl (Nat.le_of_ble_eq_true rfl) dX9_build_13 gz_00 hF (fun x2 hF => ?_)
    refine gz_if_ne 16 26 hC dX9_build_16 (by decide) hF (fun hF => ?_) (fun hF => ?_)
    · skip
      refine gz_aload_n 26 hC 0 dX9_build_26 rfl rfl ?_
      refine gz_getR 27 hC fl_X9_34 fk_9_3 dX9_build_27 hF (fun x3 hF => ?_)
      refine gz_getR 30 hC fl_X9_147 fk_8_0 dX9_build_30 hF (fun x4 hF => ?_)
      refine gz_iload_n 33 hC 1 dX9_build_33 rfl rfl ?_
      refine gz_aald 34 hC dX9_build_34 hF (fun x5 hF => ?_)
      refine gz_astore 35 hC [(4, .ref x5), (0, .ref a0), (1, .int a1), (2, .int a2), (3, .int a3)] dX9_build_35 (by decide) rfl ?_
      refine gz_aload 37 hC 0 dX9_build_37 rfl ?_
      refine gz_iload_n 39 hC 3 dX9_build_39 rfl rfl ?_
      refine gz_iconst 40 hC (0 : Int32) dX9_build_40 gz_k0 ?_
      refine gz_cvP (st := []) 41 hC hX [.int a2, .int (0 : Int32)] Value.int yl_X7_lastPart yv_X7_lastPart q_719 ⟨Nat.le_of_ble_eq_true rfl, Nat.le_of_ble_eq_true rfl⟩ ⟨_, rfl⟩ (fun r h => ct_X7_lastPart _ _ fu M x5 a2 (0 : Int32) r h) rfl rfl (Nat.le_of_ble_eq_true rfl) dX9_build_41 gz_00 hF (fun x6 hF => ?_)
      refine gz_iload_n 44 hC 4 dX9_build_44 rfl rfl ?_
      refine gz_iadd 45 hC dX9_build_45 ?_
      refine gz_istore 46 hC [(5, .int (x6 + a3)), (4, .ref x5), (0, .ref a0), (1, .int a1), (2, .int a2), (3, .int a3)] dX9_build_46 (by decide) rfl ?_
      refine gz_aload 48 hC 1 dX9_build_48 rfl ?_
      refine gz_iload_n 50 hC 4 dX9_build_50 rfl rfl ?_
      refine gz_iconst 51 hC (1 : Int32) dX9_build_51 gz_k1 ?_
      refine gz_cvP (st := []) 52 hC hX [.int a2, .int (1 : Int32)] Value.int yl_X7_lastPart yv_X7_lastPart q_719 ⟨Nat.le_of_ble_eq_true rfl, Nat.le_of_ble_eq_true rfl⟩ ⟨_, rfl⟩ (fun r h => ct_X7_lastPart _ _ fu M x5 a2 (1 : Int32) r h) rfl rfl (Nat.le_of_ble_eq_true rfl) dX9_build_52 gz_00 hF (fun x7 hF => ?_)
      refine gz_iload_n 55 hC 5 dX9_build_55 rfl rfl ?_
      refine gz_iadd 56 hC dX9_build_56 ?_
      refine gz_istore 57 hC [(6, .int (x7 + a3)), (5, .int (x6 + a3)), (4, .ref x5), (0, .ref a0), (1, .int a1), (2, .int a2), (3, .int a3)] dX9_build_57 (by decide) rfl ?_
      refine gz_aload 59 hC 2 dX9_build_59 rfl ?_
      refine gz_iload_n 61 hC 5 dX9_build_61 rfl rfl ?_
      refine gz_iconst 62 hC (2 : Int32) dX9_build_62 gz_k2 ?_
      refine gz_cvP (st := []) 63 hC hX [.int a2, .int (2 : Int32)] Value.int yl_X7_lastPart yv_X7_lastPart q_719 ⟨Nat.le_of_ble_eq_true rfl, Nat.le_of_ble_eq_true rfl⟩ ⟨_, rfl⟩ (fun r h => ct_X7_lastPart _ _ fu M x5 a2 (2 : Int32) r h) rfl rfl (Nat.le_of_ble_eq_true rfl) dX9_build_63 gz_00 hF (fun x8 hF => ?_)
      refine gz_iload_n 66 hC 6 dX9_build_66 rfl rfl ?_
      refine gz_iadd 67 hC dX9_build_67 ?_
      refine gz_istore 68 hC [(7, .int (x8 + a3)), (6, .int (x7 + a3)), (5, .int (x6 + a3)), (4, .ref x5), (0, .ref a0), (1, .int a1), (2, .int a2), (3, .int a3)] dX9_build_68 (by decide) rfl ?_
      refine gz_iload 70 hC 2 dX9_build_70 rfl ?_
      refine gz_bipush 72 hC (40 : Int32) dX9_build_72 gz_b40 ?_
      refine gz_join (fun (j : Option (Int32 × gz_M)) => j = some y → gz_go C 0 0 M [(0, .ref a0)] 91 []) hF (fun hF => ?_) (fun j91 hj91 hF => ?_)
      · skip
        refine gz_aload_n 91 hC 0 dX9_build_91 rfl rfl ?_
        refine gz_bipush 92 hC (-5 : Int32) dX9_build_92 gz_bm5 ?_
        refine gz_cvM (st := []) 94 hC hX [.int (-5 : Int32)] Value.int yl_X9_refuse yv_X9_refuse q_417 ⟨Nat.le_of_ble_eq_true rfl, Nat.le_of_ble_eq_true rfl⟩ ⟨_, rfl⟩ (fun r h => ct_X9_refuse _ _ fu M a0 (-5 : Int32) r h) rfl rfl (Nat.le_of_ble_eq_true rfl) dX9_build_94 gz_00 hF (fun x17 M18 hF => ?_)
        exact gz_iretM 97 hC hX dX9_build_97 hF
      refine gz_icmp_gt 74 91 hC dX9_build_74 (by decide) hF (fun hF => ?_) (fun hF => ?_)
      · skip
        refine gz_sub [4] [(0, .ref a0)] rfl ?_
        exact hj91 hF
      · skip
        refine gz_iload 77 hC 1 dX9_build_77 rfl ?_
        refine gz_bipush 79 hC (40 : Int32) dX9_build_79 gz_b40 ?_
        refine gz_icmp_gt 81 91 hC dX9_build_81 (by decide) hF (fun hF => ?_) (fun hF => ?_)
        · skip
          refine gz_sub [4] [(0, .ref a0)] rfl ?_
          exact hj91 hF
        · skip
          refine gz_iload 84 hC 0 dX9_build_84 rfl ?_
          refine gz_bipush 86 hC (40 : Int32) dX9_build_86 gz_b40 ?_
          refine gz_icmp_le 88 98 hC dX9_build_88 (by decide) hF (fun hF => ?_) (fun hF => ?_)
          · skip
            refine gz_aload 98 hC 3 dX9_build_98 rfl ?_
            refine gz_getI 100 hC fl_X9_178 fk_7_5 dX9_build_100 hF (fun x9 hF => ?_)
            refine gz_bipush 103 hC (10 : Int32) dX9_build_103 gz_b10 ?_
            refine gz_icmp_lt 105 115 hC dX9_build_105 (by decide) hF (fun hF => ?_) (fun hF => ?_)
            · skip
              refine gz_aload 115 hC 3 dX9_build_115 rfl ?_
              refine gz_iload 117 hC 2 dX9_build_117 rfl ?_
              refine gz_iload 119 hC 1 dX9_build_119 rfl ?_
              refine gz_iload 121 hC 0 dX9_build_121 rfl ?_
              refine gz_cvV (st := []) 123 hC hX [.int (x6 + a3), .int (x7 + a3), .int (x8 + a3)] yl_X7_addLast yv_X7_addLast q_745 ⟨Nat.le_of_ble_eq_true rfl, Nat.le_of_ble_eq_true rfl⟩ ⟨_, rfl⟩ (fun r h => ct_X7_addLast _ _ fu M x5 (x6 + a3) (x7 + a3) (x8 + a3) r h) rfl rfl (Nat.le_of_ble_eq_true rfl) dX9_build_123 gz_00 hF (fun M12 hF => ?_)
              refine gz_aload 126 hC 3 dX9_build_126 rfl ?_
              refine gz_aload 128 hC 3 dX9_build_128 rfl ?_
              refine gz_getI 130 hC fl_X9_178 fk_7_5 dX9_build_130 hF (fun x13 hF => ?_)
              refine gz_iconst 133 hC (1 : Int32) dX9_build_133 gz_k1 ?_
              refine gz_isub 134 hC dX9_build_134 ?_
              refine gz_iconst 135 hC (3 : Int32) dX9_build_135 gz_k3 ?_
              refine gz_bipush 136 hC (99 : Int32) dX9_build_136 gz_b99 ?_
              refine gz_aload 138 hC 3 dX9_build_138 rfl ?_
              refine gz_iload_n 140 hC 6 dX9_build_140 rfl rfl ?_
              refine gz_iconst 141 hC (3 : Int32) dX9_build_141 gz_k3 ?_
              refine gz_cvP (st := [.int (99 : Int32), .int (3 : Int32), .int (x13 - (1 : Int32)), .ref x5]) 142 hC hX [.int a2, .int (3 : Int32)] Value.int yl_X7_lastPart yv_X7_lastPart q_719 ⟨Nat.le_of_ble_eq_true rfl, Nat.le_of_ble_eq_true rfl⟩ ⟨_, rfl⟩ (fun r h => ct_X7_lastPart _ _ fu M12 x5 a2 (3 : Int32) r h) rfl rfl (Nat.le_of_ble_eq_true rfl) dX9_build_142 gz_00 hF (fun x14 hF => ?_)
              refine gz_iload_n 145 hC 7 dX9_build_145 rfl rfl ?_
              refine gz_iadd 146 hC dX9_build_146 ?_
              refine gz_mmin 147 hC hX q_746 ⟨Nat.le_of_ble_eq_true rfl, Nat.le_of_ble_eq_true rfl⟩ gz_00 dX9_build_147 ?_
              refine gz_cvV (st := []) 150 hC hX [.int (x13 - (1 : Int32)), .int (3 : Int32), .int (if (x14 + a3) < (99 : Int32) then (x14 + a3) else (99 : Int32))] yl_X7_putLastPart yv_X7_putLastPart q_740 ⟨Nat.le_of_ble_eq_true rfl, Nat.le_of_ble_eq_true rfl⟩ ⟨_, rfl⟩ (fun r h => ct_X7_putLastPart _ _ fu M12 x5 (x13 - (1 : Int32)) (3 : Int32) (if (x14 + a3) < (99 : Int32) then (x14 + a3) else (99 : Int32)) r h) rfl rfl (Nat.le_of_ble_eq_true rfl) dX9_build_150 gz_00 hF (fun M15 hF => ?_)
              refine gz_aload 153 hC 3 dX9_build_153 rfl ?_
              refine gz_getI 155 hC fl_X9_178 fk_7_5 dX9_build_155 hF (fun x16 hF => ?_)
              refine gz_iconst 158 hC (1 : Int32) dX9_build_158 gz_k1 ?_
              refine gz_isub 159 hC dX9_build_159 ?_
              exact gz_iretM 160 hC hX dX9_build_160 hF
            · skip
              refine gz_aload_n 108 hC 4 dX9_build_108 rfl rfl ?_
              refine gz_bipush 109 hC (-6 : Int32) dX9_build_109 gz_bm6 ?_
              refine gz_cvM (st := []) 111 hC hX [.int (-6 : Int32)] Value.int yl_X9_refuse yv_X9_refuse q_417 ⟨Nat.le_of_ble_eq_true rfl, Nat.le_of_ble_eq_true rfl⟩ ⟨_, rfl⟩ (fun r h => ct_X9_refuse _ _ fu M a0 (-6 : Int32) r h) rfl rfl (Nat.le_of_ble_eq_true rfl) dX9_build_111 gz_00 hF (fun x10 M11 hF => ?_)
              exact gz_iretM 114 hC hX dX9_build_114 hF
          · skip
            refine gz_sub [4] [(0, .ref a0)] rfl ?_
            exact hj91 hF
    · skip
      refine gz_sub [0] [(0, .ref a0)] rfl ?_
      exact hj19 hF

theorem dX9_year_0 : decode cX9_year 0 = .ok (.aload_n 0, 1) := by decide +kernel
theorem dX9_year_1 : decode cX9_year 1 = .ok (.iload_n 1, 1) := by decide +kernel
theorem dX9_year_2 : decode cX9_year 2 = .ok (.invokevirtual 159, 3) := by decide +kernel
theorem dX9_year_5 : decode cX9_year 5 = .ok (.ifCond .ne 10, 3) := by decide +kernel
theorem dX9_year_8 : decode cX9_year 8 = .ok (.aload_n 0, 1) := by decide +kernel
theorem dX9_year_9 : decode cX9_year 9 = .ok (.bipush (-2), 2) := by decide +kernel
theorem dX9_year_11 : decode cX9_year 11 = .ok (.invokevirtual 79, 3) := by decide +kernel
theorem dX9_year_14 : decode cX9_year 14 = .ok (.ireturn, 1) := by decide +kernel
theorem dX9_year_15 : decode cX9_year 15 = .ok (.aload_n 0, 1) := by decide +kernel
theorem dX9_year_16 : decode cX9_year 16 = .ok (.getfield 34, 3) := by decide +kernel
theorem dX9_year_19 : decode cX9_year 19 = .ok (.getfield 147, 3) := by decide +kernel
theorem dX9_year_22 : decode cX9_year 22 = .ok (.iload_n 1, 1) := by decide +kernel
theorem dX9_year_23 : decode cX9_year 23 = .ok (.aaload, 1) := by decide +kernel
theorem dX9_year_24 : decode cX9_year 24 = .ok (.astore_n 2, 1) := by decide +kernel
theorem dX9_year_25 : decode cX9_year 25 = .ok (.iconst 0, 1) := by decide +kernel
theorem dX9_year_26 : decode cX9_year 26 = .ok (.istore_n 3, 1) := by decide +kernel
theorem dX9_year_27 : decode cX9_year 27 = .ok (.iconst 0, 1) := by decide +kernel
theorem dX9_year_28 : decode cX9_year 28 = .ok (.istore 4, 2) := by decide +kernel
theorem dX9_year_30 : decode cX9_year 30 = .ok (.iload 4, 2) := by decide +kernel
theorem dX9_year_32 : decode cX9_year 32 = .ok (.aload_n 2, 1) := by decide +kernel
theorem dX9_year_33 : decode cX9_year 33 = .ok (.getfield 162, 3) := by decide +kernel
theorem dX9_year_36 : decode cX9_year 36 = .ok (.if_icmp .ge 43, 3) := by decide +kernel
theorem dX9_year_39 : decode cX9_year 39 = .ok (.aload_n 2, 1) := by decide +kernel
theorem dX9_year_40 : decode cX9_year 40 = .ok (.iload 4, 2) := by decide +kernel
theorem dX9_year_42 : decode cX9_year 42 = .ok (.iconst 1, 1) := by decide +kernel
theorem dX9_year_43 : decode cX9_year 43 = .ok (.invokevirtual 226, 3) := by decide +kernel
theorem dX9_year_46 : decode cX9_year 46 = .ok (.istore 5, 2) := by decide +kernel
theorem dX9_year_48 : decode cX9_year 48 = .ok (.iload 5, 2) := by decide +kernel
theorem dX9_year_50 : decode cX9_year 50 = .ok (.ifCond .le 23, 3) := by decide +kernel
theorem dX9_year_53 : decode cX9_year 53 = .ok (.aload_n 2, 1) := by decide +kernel
theorem dX9_year_54 : decode cX9_year 54 = .ok (.iload 4, 2) := by decide +kernel
theorem dX9_year_56 : decode cX9_year 56 = .ok (.iconst 0, 1) := by decide +kernel
theorem dX9_year_57 : decode cX9_year 57 = .ok (.aload_n 2, 1) := by decide +kernel
theorem dX9_year_58 : decode cX9_year 58 = .ok (.iload 4, 2) := by decide +kernel
theorem dX9_year_60 : decode cX9_year 60 = .ok (.iconst 0, 1) := by decide +kernel
theorem dX9_year_61 : decode cX9_year 61 = .ok (.invokevirtual 196, 3) := by decide +kernel
theorem dX9_year_64 : decode cX9_year 64 = .ok (.iload 5, 2) := by decide +kernel
theorem dX9_year_66 : decode cX9_year 66 = .ok (.iadd, 1) := by decide +kernel
theorem dX9_year_67 : decode cX9_year 67 = .ok (.invokevirtual 212, 3) := by decide +kernel
theorem dX9_year_70 : decode cX9_year 70 = .ok (.iinc 3 1, 3) := by decide +kernel
theorem dX9_year_73 : decode cX9_year 73 = .ok (.iinc 4 1, 3) := by decide +kernel
theorem dX9_year_76 : decode cX9_year 76 = .ok (.goto (-46), 3) := by decide +kernel
theorem dX9_year_79 : decode cX9_year 79 = .ok (.iload_n 3, 1) := by decide +kernel
theorem dX9_year_80 : decode cX9_year 80 = .ok (.ireturn, 1) := by decide +kernel
def lp_X9_year_30 (j79 : Int32 → gz_M → Option (Int32 × gz_M)) (fu : Nat) (x6 : Nat) : Nat → Int32 → Int32 → gz_M → Option (Int32 × gz_M)
  | 0, _, _, _ => none
  | n30 + 1, x7, x8, M9 =>
    (gz_gI M9 7 4 x6).bind fun x10 =>
    if x10 ≤ x8 then
      j79 x7 M9
    else
      (f_X7_growthIn fu M9 x6 x8 (1 : Int32)).bind fun x11 =>
      gz_jn (fun (x14 : Int32) (M15 : gz_M) =>
      lp_X9_year_30 j79 fu x6 n30 x14 (x8 + (1 : Int32)) M15) fun j73 =>
      if x11 ≤ 0 then
        j73 x7 M9
      else
        (f_X7_footPart fu M9 x6 x8 (0 : Int32)).bind fun x12 =>
        (f_X7_putFootPart fu M9 x6 x8 (0 : Int32) (x12 + x11)).bind fun M13 =>
        j73 (x7 + (1 : Int32)) M13
def f_X9_year (fu : Nat) (M : gz_M) (a0 : Nat) (a1 : Int32) : Option (Int32 × gz_M) :=
  gz_gd M 9 a0 <|
  (f_X9_isValley fu M a0 a1).bind fun x1 =>
  if x1 = 0 then
    gz_b2 (f_X9_refuse fu M a0 (-2 : Int32)) fun x2 M3 =>
    some (x2, M3)
  else
    (gz_gR M 9 3 a0).bind fun x4 =>
    (gz_gR M 8 0 x4).bind fun x5 =>
    (gz_aR M x5 a1).bind fun x6 =>
    lp_X9_year_30 (fun (x16 : Int32) (M17 : gz_M) => some (x16, M17)) fu x6 fu (0 : Int32) (0 : Int32) M
set_option maxHeartbeats 4000000 in
theorem w_X9_year_30 {C : gz_C} {y : Int32 × gz_M} {fu : Nat} {x6 : Nat} {j79 : Int32 → gz_M → Option (Int32 × gz_M)} (hC : gz_ok C cX9_year RX9 6) (hX : gz_cx C 2 45 0 0 (some .int) (some (.int y.1)) y.2 "year") (hj79 : ∀ (x16 : Int32) (M17 : gz_M), j79 x16 M17 = some y → gz_go C 0 0 M17 [(3, .int x16)] 79 []) : ∀ (n : Nat) (x7 : Int32) (x8 : Int32) (M9 : gz_M), lp_X9_year_30 j79 fu x6 n x7 x8 M9 = some y → gz_go C 0 0 M9 [(2, .ref x6), (3, .int x7), (4, .int x8)] 30 [] := by
  intro n
  induction n with
  | zero => intro x7 x8 M9 hF; exact nomatch (show (none : Option (Int32 × gz_M)) = some y from hF)
  | succ n30 ih30 =>
    intro x7 x8 M9 hF
    rw [lp_X9_year_30.eq_2] at hF
    refine gz_iload 30 hC 2 dX9_year_30 rfl ?_
    refine gz_aload_n 32 hC 0 dX9_year_32 rfl rfl ?_
    refine gz_getI 33 hC fl_X9_162 fk_7_4 dX9_year_33 hF (fun x10 hF => ?_)
    refine gz_icmp_ge 36 79 hC dX9_year_36 (by decide) hF (fun hF => ?_) (fun hF => ?_)
    · skip
      refine gz_sub [1] [(3, .int x7)] rfl ?_
      exact hj79 _ _ hF
    · skip
      refine gz_aload_n 39 hC 0 dX9_year_39 rfl rfl ?_
      refine gz_iload 40 hC 2 dX9_year_40 rfl ?_
      refine gz_iconst 42 hC (1 : Int32) dX9_year_42 gz_k1 ?_
      refine gz_cvP (st := []) 43 hC hX [.int x8, .int (1 : Int32)] Value.int yl_X7_growthIn yv_X7_growthIn q_753 ⟨Nat.le_of_ble_eq_true rfl, Nat.le_of_ble_eq_true rfl⟩ ⟨_, rfl⟩ (fun r h => ct_X7_growthIn _ _ fu M9 x6 x8 (1 : Int32) r h) rfl rfl (Nat.le_of_ble_eq_true rfl) dX9_year_43 gz_00 hF (fun x11 hF => ?_)
      refine gz_istore 46 hC [(5, .int x11), (2, .ref x6), (3, .int x7), (4, .int x8)] dX9_year_46 (by decide) rfl ?_
      refine gz_iload 48 hC 0 dX9_year_48 rfl ?_
      refine gz_join (fun (j : Int32 → gz_M → Option (Int32 × gz_M)) => ∀ (x14 : Int32) (M15 : gz_M), j x14 M15 = some y → gz_go C 0 0 M15 [(2, .ref x6), (3, .int x14), (4, .int x8)] 73 []) hF (fun x14 M15 hF => ?_) (fun j73 hj73 hF => ?_)
      · skip
        refine gz_iinc 73 hC (x8 + (1 : Int32)) 2 [(4, .int (x8 + (1 : Int32))), (2, .ref x6), (3, .int x14)] dX9_year_73 rfl rfl (by decide) rfl ?_
        refine gz_goto 76 30 hC dX9_year_76 (by decide) ?_
        refine gz_sub [1, 2, 0] [(2, .ref x6), (3, .int x14), (4, .int (x8 + (1 : Int32)))] rfl ?_
        exact ih30 _ _ _ hF
      refine gz_if_le 50 73 hC dX9_year_50 (by decide) hF (fun hF => ?_) (fun hF => ?_)
      · skip
        refine gz_sub [1, 2, 3] [(2, .ref x6), (3, .int x7), (4, .int x8)] rfl ?_
        exact hj73 _ _ hF
      · skip
        refine gz_aload_n 53 hC 1 dX9_year_53 rfl rfl ?_
        refine gz_iload 54 hC 3 dX9_year_54 rfl ?_
        refine gz_iconst 56 hC (0 : Int32) dX9_year_56 gz_k0 ?_
        refine gz_aload_n 57 hC 1 dX9_year_57 rfl rfl ?_
        refine gz_iload 58 hC 3 dX9_year_58 rfl ?_
        refine gz_iconst 60 hC (0 : Int32) dX9_year_60 gz_k0 ?_
        refine gz_cvP (st := [.int (0 : Int32), .int x8, .ref x6]) 61 hC hX [.int x8, .int (0 : Int32)] Value.int yl_X7_footPart yv_X7_footPart q_710 ⟨Nat.le_of_ble_eq_true rfl, Nat.le_of_ble_eq_true rfl⟩ ⟨_, rfl⟩ (fun r h => ct_X7_footPart _ _ fu M9 x6 x8 (0 : Int32) r h) rfl rfl (Nat.le_of_ble_eq_true rfl) dX9_year_61 gz_00 hF (fun x12 hF => ?_)
        refine gz_iload 64 hC 0 dX9_year_64 rfl ?_
        refine gz_iadd 66 hC dX9_year_66 ?_
        refine gz_cvV (st := []) 67 hC hX [.int x8, .int (0 : Int32), .int (x12 + x11)] yl_X7_putFootPart yv_X7_putFootPart q_731 ⟨Nat.le_of_ble_eq_true rfl, Nat.le_of_ble_eq_true rfl⟩ ⟨_, rfl⟩ (fun r h => ct_X7_putFootPart _ _ fu M9 x6 x8 (0 : Int32) (x12 + x11) r h) rfl rfl (Nat.le_of_ble_eq_true rfl) dX9_year_67 gz_00 hF (fun M13 hF => ?_)
        refine gz_iinc 70 hC (x7 + (1 : Int32)) 2 [(3, .int (x7 + (1 : Int32))), (5, .int x11), (2, .ref x6), (4, .int x8)] dX9_year_70 rfl rfl (by decide) rfl ?_
        refine gz_sub [2, 0, 3] [(2, .ref x6), (3, .int (x7 + (1 : Int32))), (4, .int x8)] rfl ?_
        exact hj73 _ _ hF
set_option maxHeartbeats 4000000 in
theorem ct_X9_year (l : Launch) (G : gz_G) (fu : Nat) (M : gz_M) (a0 : Nat) (a1 : Int32) (y : Int32 × gz_M) (hF : f_X9_year fu M a0 a1 = some y) : gz_ct l yX9_year cX9_year 6 (some .int) 2 45 0 0 G [.ref a0, .int a1] M (some (.int y.1)) y.2 := by
  refine gz_ct.of (by decide) (Nat.le_of_ble_eq_true rfl) (fun C hC hX => ?_)
  unfold f_X9_year at hF
  obtain ⟨-, hF⟩ := gz_gd_some hF
  show gz_go C 0 0 M [(0, .ref a0), (1, .int a1)] 0 []
  refine gz_aload_n 0 hC 0 dX9_year_0 rfl rfl ?_
  refine gz_iload_n 1 hC 1 dX9_year_1 rfl rfl ?_
  refine gz_cvP (st := []) 2 hC hX [.int a1] Value.int yl_X9_isValley yv_X9_isValley q_509 ⟨Nat.le_of_ble_eq_true rfl, Nat.le_of_ble_eq_true rfl⟩ ⟨_, rfl⟩ (fun r h => ct_X9_isValley _ _ fu M a0 a1 r h) rfl rfl (Nat.le_of_ble_eq_true rfl) dX9_year_2 gz_00 hF (fun x1 hF => ?_)
  refine gz_if_ne 5 15 hC dX9_year_5 (by decide) hF (fun hF => ?_) (fun hF => ?_)
  · skip
    refine gz_aload_n 15 hC 0 dX9_year_15 rfl rfl ?_
    refine gz_getR 16 hC fl_X9_34 fk_9_3 dX9_year_16 hF (fun x4 hF => ?_)
    refine gz_getR 19 hC fl_X9_147 fk_8_0 dX9_year_19 hF (fun x5 hF => ?_)
    refine gz_iload_n 22 hC 1 dX9_year_22 rfl rfl ?_
    refine gz_aald 23 hC dX9_year_23 hF (fun x6 hF => ?_)
    refine gz_astore_n 24 hC [(2, .ref x6), (0, .ref a0), (1, .int a1)] dX9_year_24 rfl (by decide) rfl ?_
    refine gz_iconst 25 hC (0 : Int32) dX9_year_25 gz_k0 ?_
    refine gz_istore_n 26 hC [(3, .int (0 : Int32)), (2, .ref x6), (0, .ref a0), (1, .int a1)] dX9_year_26 rfl (by decide) rfl ?_
    refine gz_iconst 27 hC (0 : Int32) dX9_year_27 gz_k0 ?_
    refine gz_istore 28 hC [(4, .int (0 : Int32)), (3, .int (0 : Int32)), (2, .ref x6), (0, .ref a0), (1, .int a1)] dX9_year_28 (by decide) rfl ?_
    refine gz_sub [2, 1, 0] [(2, .ref x6), (3, .int (0 : Int32)), (4, .int (0 : Int32))] rfl ?_
    refine w_X9_year_30 hC hX ?_ _ _ _ _ hF
    intro x16 M17 hF
    refine gz_iload_n 79 hC 0 dX9_year_79 rfl rfl ?_
    exact gz_iretM 80 hC hX dX9_year_80 hF
  · skip
    refine gz_aload_n 8 hC 0 dX9_year_8 rfl rfl ?_
    refine gz_bipush 9 hC (-2 : Int32) dX9_year_9 gz_bm2 ?_
    refine gz_cvM (st := []) 11 hC hX [.int (-2 : Int32)] Value.int yl_X9_refuse yv_X9_refuse q_417 ⟨Nat.le_of_ble_eq_true rfl, Nat.le_of_ble_eq_true rfl⟩ ⟨_, rfl⟩ (fun r h => ct_X9_refuse _ _ fu M a0 (-2 : Int32) r h) rfl rfl (Nat.le_of_ble_eq_true rfl) dX9_year_11 gz_00 hF (fun x2 M3 hF => ?_)
    exact gz_iretM 14 hC hX dX9_year_14 hF

theorem dX9_does_0 : decode cX9_does 0 = .ok (.aload_n 0, 1) := by decide +kernel
theorem dX9_does_1 : decode cX9_does 1 = .ok (.iload_n 1, 1) := by decide +kernel
theorem dX9_does_2 : decode cX9_does 2 = .ok (.iload_n 2, 1) := by decide +kernel
theorem dX9_does_3 : decode cX9_does 3 = .ok (.invokevirtual 200, 3) := by decide +kernel
theorem dX9_does_6 : decode cX9_does 6 = .ok (.ifCond .eq 12, 3) := by decide +kernel
theorem dX9_does_9 : decode cX9_does 9 = .ok (.aload_n 0, 1) := by decide +kernel
theorem dX9_does_10 : decode cX9_does 10 = .ok (.iload_n 1, 1) := by decide +kernel
theorem dX9_does_11 : decode cX9_does 11 = .ok (.iload_n 3, 1) := by decide +kernel
theorem dX9_does_12 : decode cX9_does 12 = .ok (.invokevirtual 144, 3) := by decide +kernel
theorem dX9_does_15 : decode cX9_does 15 = .ok (.ifCond .ne 10, 3) := by decide +kernel
theorem dX9_does_18 : decode cX9_does 18 = .ok (.aload_n 0, 1) := by decide +kernel
theorem dX9_does_19 : decode cX9_does 19 = .ok (.bipush (-2), 2) := by decide +kernel
theorem dX9_does_21 : decode cX9_does 21 = .ok (.invokevirtual 79, 3) := by decide +kernel
theorem dX9_does_24 : decode cX9_does 24 = .ok (.ireturn, 1) := by decide +kernel
theorem dX9_does_25 : decode cX9_does 25 = .ok (.aload_n 0, 1) := by decide +kernel
theorem dX9_does_26 : decode cX9_does 26 = .ok (.getfield 34, 3) := by decide +kernel
theorem dX9_does_29 : decode cX9_does 29 = .ok (.getfield 147, 3) := by decide +kernel
theorem dX9_does_32 : decode cX9_does 32 = .ok (.iload_n 1, 1) := by decide +kernel
theorem dX9_does_33 : decode cX9_does 33 = .ok (.aaload, 1) := by decide +kernel
theorem dX9_does_34 : decode cX9_does 34 = .ok (.iload_n 2, 1) := by decide +kernel
theorem dX9_does_35 : decode cX9_does 35 = .ok (.iload_n 3, 1) := by decide +kernel
theorem dX9_does_36 : decode cX9_does 36 = .ok (.invokevirtual 229, 3) := by decide +kernel
theorem dX9_does_39 : decode cX9_does 39 = .ok (.iconst (-1), 1) := by decide +kernel
theorem dX9_does_40 : decode cX9_does 40 = .ok (.if_icmp .eq 7, 3) := by decide +kernel
theorem dX9_does_43 : decode cX9_does 43 = .ok (.iconst 1, 1) := by decide +kernel
theorem dX9_does_44 : decode cX9_does 44 = .ok (.goto 4, 3) := by decide +kernel
theorem dX9_does_47 : decode cX9_does 47 = .ok (.iconst 0, 1) := by decide +kernel
theorem dX9_does_48 : decode cX9_does 48 = .ok (.ireturn, 1) := by decide +kernel

def f_X9_does (fu : Nat) (M : gz_M) (a0 : Nat) (a1 : Int32) (a2 : Int32) (a3 : Int32) : Option (Int32 × gz_M) :=
  gz_gd M 9 a0 <|
  (f_X9_isLast fu M a0 a1 a2).bind fun x1 =>
  gz_jn (gz_b2 (f_X9_refuse fu M a0 (-2 : Int32)) fun x8 M9 =>
    some (x8, M9)) fun j18 =>
  if x1 = 0 then
    j18
  else
    (f_X9_isFoot fu M a0 a1 a3).bind fun x2 =>
    if x2 = 0 then
      j18
    else
      (gz_gR M 9 3 a0).bind fun x3 =>
      (gz_gR M 8 0 x3).bind fun x4 =>
      (gz_aR M x4 a1).bind fun x5 =>
      (f_X7_badnessOf fu M x5 a2 a3).bind fun x6 =>
      gz_jn (fun (x7 : Int32) =>
      some (x7, M)) fun j48 =>
      if x6 = (-1 : Int32) then
        j48 (0 : Int32)
      else
        j48 (1 : Int32)

set_option maxHeartbeats 4000000 in
theorem ct_X9_does (l : Launch) (G : gz_G) (fu : Nat) (M : gz_M) (a0 : Nat) (a1 : Int32) (a2 : Int32) (a3 : Int32) (y : Int32 × gz_M) (hF : f_X9_does fu M a0 a1 a2 a3 = some y) : gz_ct l yX9_does cX9_does 4 (some .int) 4 98 0 0 G [.ref a0, .int a1, .int a2, .int a3] M (some (.int y.1)) y.2 := by
  refine gz_ct.of (by decide) (Nat.le_of_ble_eq_true rfl) (fun C hC hX => ?_)
  unfold f_X9_does at hF
  obtain ⟨-, hF⟩ := gz_gd_some hF
  show gz_go C 0 0 M [(0, .ref a0), (1, .int a1), (2, .int a2), (3, .int a3)] 0 []
  refine gz_aload_n 0 hC 0 dX9_does_0 rfl rfl ?_
  refine gz_iload_n 1 hC 1 dX9_does_1 rfl rfl ?_
  refine gz_iload_n 2 hC 2 dX9_does_2 rfl rfl ?_
  refine gz_cvP (st := []) 3 hC hX [.int a1, .int a2] Value.int yl_X9_isLast yv_X9_isLast q_715 ⟨Nat.le_of_ble_eq_true rfl, Nat.le_of_ble_eq_true rfl⟩ ⟨_, rfl⟩ (fun r h => ct_X9_isLast _ _ fu M a0 a1 a2 r h) rfl rfl (Nat.le_of_ble_eq_true rfl) dX9_does_3 gz_00 hF (fun x1 hF => ?_)
  refine gz_join (fun (j : Option (Int32 × gz_M)) => j = some y → gz_go C 0 0 M [(0, .ref a0)] 18 []) hF (fun hF => ?_) (fun j18 hj18 hF => ?_)
  · skip
    refine gz_aload_n 18 hC 0 dX9_does_18 rfl rfl ?_
    refine gz_bipush 19 hC (-2 : Int32) dX9_does_19 gz_bm2 ?_
    refine gz_cvM (st := []) 21 hC hX [.int (-2 : Int32)] Value.int yl_X9_refuse yv_X9_refuse q_417 ⟨Nat.le_of_ble_eq_true rfl, Nat.le_of_ble_eq_true rfl⟩ ⟨_, rfl⟩ (fun r h => ct_X9_refuse _ _ fu M a0 (-2 : Int32) r h) rfl rfl (Nat.le_of_ble_eq_true rfl) dX9_does_21 gz_00 hF (fun x8 M9 hF => ?_)
    exact gz_iretM 24 hC hX dX9_does_24 hF
  refine gz_if_eq 6 18 hC dX9_does_6 (by decide) hF (fun hF => ?_) (fun hF => ?_)
  · skip
    refine gz_sub [0] [(0, .ref a0)] rfl ?_
    exact hj18 hF
  · skip
    refine gz_aload_n 9 hC 0 dX9_does_9 rfl rfl ?_
    refine gz_iload_n 10 hC 1 dX9_does_10 rfl rfl ?_
    refine gz_iload_n 11 hC 3 dX9_does_11 rfl rfl ?_
    refine gz_cvP (st := []) 12 hC hX [.int a1, .int a3] Value.int yl_X9_isFoot yv_X9_isFoot q_505 ⟨Nat.le_of_ble_eq_true rfl, Nat.le_of_ble_eq_true rfl⟩ ⟨_, rfl⟩ (fun r h => ct_X9_isFoot _ _ fu M a0 a1 a3 r h) rfl rfl (Nat.le_of_ble_eq_true rfl) dX9_does_12 gz_00 hF (fun x2 hF => ?_)
    refine gz_if_ne 15 25 hC dX9_does_15 (by decide) hF (fun hF => ?_) (fun hF => ?_)
    · skip
      refine gz_aload_n 25 hC 0 dX9_does_25 rfl rfl ?_
      refine gz_getR 26 hC fl_X9_34 fk_9_3 dX9_does_26 hF (fun x3 hF => ?_)
      refine gz_getR 29 hC fl_X9_147 fk_8_0 dX9_does_29 hF (fun x4 hF => ?_)
      refine gz_iload_n 32 hC 1 dX9_does_32 rfl rfl ?_
      refine gz_aald 33 hC dX9_does_33 hF (fun x5 hF => ?_)
      refine gz_iload_n 34 hC 2 dX9_does_34 rfl rfl ?_
      refine gz_iload_n 35 hC 3 dX9_does_35 rfl rfl ?_
      refine gz_cvP (st := []) 36 hC hX [.int a2, .int a3] Value.int yl_X7_badnessOf yv_X7_badnessOf q_762 ⟨Nat.le_of_ble_eq_true rfl, Nat.le_of_ble_eq_true rfl⟩ ⟨_, rfl⟩ (fun r h => ct_X7_badnessOf _ _ fu M x5 a2 a3 r h) rfl rfl (Nat.le_of_ble_eq_true rfl) dX9_does_36 gz_00 hF (fun x6 hF => ?_)
      refine gz_iconst 39 hC (-1 : Int32) dX9_does_39 gz_km1 ?_
      refine gz_join (fun (j : Int32 → Option (Int32 × gz_M)) => ∀ (x7 : Int32), j x7 = some y → gz_go C 0 0 M [] 48 [.int x7]) hF (fun x7 hF => ?_) (fun j48 hj48 hF => ?_)
      · skip
        exact gz_iretM 48 hC hX dX9_does_48 hF
      refine gz_icmp_eq 40 47 hC dX9_does_40 (by decide) hF (fun hF => ?_) (fun hF => ?_)
      · skip
        refine gz_iconst 47 hC (0 : Int32) dX9_does_47 gz_k0 ?_
        refine gz_sub [] [] rfl ?_
        exact hj48 _ hF
      · skip
        refine gz_iconst 43 hC (1 : Int32) dX9_does_43 gz_k1 ?_
        refine gz_goto 44 48 hC dX9_does_44 (by decide) ?_
        refine gz_sub [] [] rfl ?_
        exact hj48 _ hF
    · skip
      refine gz_sub [0] [(0, .ref a0)] rfl ?_
      exact hj18 hF

theorem dX9_bad_0 : decode cX9_bad 0 = .ok (.aload_n 0, 1) := by decide +kernel
theorem dX9_bad_1 : decode cX9_bad 1 = .ok (.iload_n 1, 1) := by decide +kernel
theorem dX9_bad_2 : decode cX9_bad 2 = .ok (.iload_n 2, 1) := by decide +kernel
theorem dX9_bad_3 : decode cX9_bad 3 = .ok (.invokevirtual 200, 3) := by decide +kernel
theorem dX9_bad_6 : decode cX9_bad 6 = .ok (.ifCond .eq 12, 3) := by decide +kernel
theorem dX9_bad_9 : decode cX9_bad 9 = .ok (.aload_n 0, 1) := by decide +kernel
theorem dX9_bad_10 : decode cX9_bad 10 = .ok (.iload_n 1, 1) := by decide +kernel
theorem dX9_bad_11 : decode cX9_bad 11 = .ok (.iload_n 3, 1) := by decide +kernel
theorem dX9_bad_12 : decode cX9_bad 12 = .ok (.invokevirtual 144, 3) := by decide +kernel
theorem dX9_bad_15 : decode cX9_bad 15 = .ok (.ifCond .ne 10, 3) := by decide +kernel
theorem dX9_bad_18 : decode cX9_bad 18 = .ok (.aload_n 0, 1) := by decide +kernel
theorem dX9_bad_19 : decode cX9_bad 19 = .ok (.bipush (-2), 2) := by decide +kernel
theorem dX9_bad_21 : decode cX9_bad 21 = .ok (.invokevirtual 79, 3) := by decide +kernel
theorem dX9_bad_24 : decode cX9_bad 24 = .ok (.ireturn, 1) := by decide +kernel
theorem dX9_bad_25 : decode cX9_bad 25 = .ok (.aload_n 0, 1) := by decide +kernel
theorem dX9_bad_26 : decode cX9_bad 26 = .ok (.getfield 34, 3) := by decide +kernel
theorem dX9_bad_29 : decode cX9_bad 29 = .ok (.getfield 147, 3) := by decide +kernel
theorem dX9_bad_32 : decode cX9_bad 32 = .ok (.iload_n 1, 1) := by decide +kernel
theorem dX9_bad_33 : decode cX9_bad 33 = .ok (.aaload, 1) := by decide +kernel
theorem dX9_bad_34 : decode cX9_bad 34 = .ok (.iload_n 2, 1) := by decide +kernel
theorem dX9_bad_35 : decode cX9_bad 35 = .ok (.iload_n 3, 1) := by decide +kernel
theorem dX9_bad_36 : decode cX9_bad 36 = .ok (.invokevirtual 229, 3) := by decide +kernel
theorem dX9_bad_39 : decode cX9_bad 39 = .ok (.ireturn, 1) := by decide +kernel

def f_X9_bad (fu : Nat) (M : gz_M) (a0 : Nat) (a1 : Int32) (a2 : Int32) (a3 : Int32) : Option (Int32 × gz_M) :=
  gz_gd M 9 a0 <|
  (f_X9_isLast fu M a0 a1 a2).bind fun x1 =>
  gz_jn (gz_b2 (f_X9_refuse fu M a0 (-2 : Int32)) fun x7 M8 =>
    some (x7, M8)) fun j18 =>
  if x1 = 0 then
    j18
  else
    (f_X9_isFoot fu M a0 a1 a3).bind fun x2 =>
    if x2 = 0 then
      j18
    else
      (gz_gR M 9 3 a0).bind fun x3 =>
      (gz_gR M 8 0 x3).bind fun x4 =>
      (gz_aR M x4 a1).bind fun x5 =>
      (f_X7_badnessOf fu M x5 a2 a3).bind fun x6 =>
      some (x6, M)

set_option maxHeartbeats 4000000 in
theorem ct_X9_bad (l : Launch) (G : gz_G) (fu : Nat) (M : gz_M) (a0 : Nat) (a1 : Int32) (a2 : Int32) (a3 : Int32) (y : Int32 × gz_M) (hF : f_X9_bad fu M a0 a1 a2 a3 = some y) : gz_ct l yX9_bad cX9_bad 4 (some .int) 4 98 0 0 G [.ref a0, .int a1, .int a2, .int a3] M (some (.int y.1)) y.2 := by
  refine gz_ct.of (by decide) (Nat.le_of_ble_eq_true rfl) (fun C hC hX => ?_)
  unfold f_X9_bad at hF
  obtain ⟨-, hF⟩ := gz_gd_some hF
  show gz_go C 0 0 M [(0, .ref a0), (1, .int a1), (2, .int a2), (3, .int a3)] 0 []
  refine gz_aload_n 0 hC 0 dX9_bad_0 rfl rfl ?_
  refine gz_iload_n 1 hC 1 dX9_bad_1 rfl rfl ?_
  refine gz_iload_n 2 hC 2 dX9_bad_2 rfl rfl ?_
  refine gz_cvP (st := []) 3 hC hX [.int a1, .int a2] Value.int yl_X9_isLast yv_X9_isLast q_715 ⟨Nat.le_of_ble_eq_true rfl, Nat.le_of_ble_eq_true rfl⟩ ⟨_, rfl⟩ (fun r h => ct_X9_isLast _ _ fu M a0 a1 a2 r h) rfl rfl (Nat.le_of_ble_eq_true rfl) dX9_bad_3 gz_00 hF (fun x1 hF => ?_)
  refine gz_join (fun (j : Option (Int32 × gz_M)) => j = some y → gz_go C 0 0 M [(0, .ref a0)] 18 []) hF (fun hF => ?_) (fun j18 hj18 hF => ?_)
  · skip
    refine gz_aload_n 18 hC 0 dX9_bad_18 rfl rfl ?_
    refine gz_bipush 19 hC (-2 : Int32) dX9_bad_19 gz_bm2 ?_
    refine gz_cvM (st := []) 21 hC hX [.int (-2 : Int32)] Value.int yl_X9_refuse yv_X9_refuse q_417 ⟨Nat.le_of_ble_eq_true rfl, Nat.le_of_ble_eq_true rfl⟩ ⟨_, rfl⟩ (fun r h => ct_X9_refuse _ _ fu M a0 (-2 : Int32) r h) rfl rfl (Nat.le_of_ble_eq_true rfl) dX9_bad_21 gz_00 hF (fun x7 M8 hF => ?_)
    exact gz_iretM 24 hC hX dX9_bad_24 hF
  refine gz_if_eq 6 18 hC dX9_bad_6 (by decide) hF (fun hF => ?_) (fun hF => ?_)
  · skip
    refine gz_sub [0] [(0, .ref a0)] rfl ?_
    exact hj18 hF
  · skip
    refine gz_aload_n 9 hC 0 dX9_bad_9 rfl rfl ?_
    refine gz_iload_n 10 hC 1 dX9_bad_10 rfl rfl ?_
    refine gz_iload_n 11 hC 3 dX9_bad_11 rfl rfl ?_
    refine gz_cvP (st := []) 12 hC hX [.int a1, .int a3] Value.int yl_X9_isFoot yv_X9_isFoot q_505 ⟨Nat.le_of_ble_eq_true rfl, Nat.le_of_ble_eq_true rfl⟩ ⟨_, rfl⟩ (fun r h => ct_X9_isFoot _ _ fu M a0 a1 a3 r h) rfl rfl (Nat.le_of_ble_eq_true rfl) dX9_bad_12 gz_00 hF (fun x2 hF => ?_)
    refine gz_if_ne 15 25 hC dX9_bad_15 (by decide) hF (fun hF => ?_) (fun hF => ?_)
    · skip
      refine gz_aload_n 25 hC 0 dX9_bad_25 rfl rfl ?_
      refine gz_getR 26 hC fl_X9_34 fk_9_3 dX9_bad_26 hF (fun x3 hF => ?_)
      refine gz_getR 29 hC fl_X9_147 fk_8_0 dX9_bad_29 hF (fun x4 hF => ?_)
      refine gz_iload_n 32 hC 1 dX9_bad_32 rfl rfl ?_
      refine gz_aald 33 hC dX9_bad_33 hF (fun x5 hF => ?_)
      refine gz_iload_n 34 hC 2 dX9_bad_34 rfl rfl ?_
      refine gz_iload_n 35 hC 3 dX9_bad_35 rfl rfl ?_
      refine gz_cvP (st := []) 36 hC hX [.int a2, .int a3] Value.int yl_X7_badnessOf yv_X7_badnessOf q_762 ⟨Nat.le_of_ble_eq_true rfl, Nat.le_of_ble_eq_true rfl⟩ ⟨_, rfl⟩ (fun r h => ct_X7_badnessOf _ _ fu M x5 a2 a3 r h) rfl rfl (Nat.le_of_ble_eq_true rfl) dX9_bad_36 gz_00 hF (fun x6 hF => ?_)
      exact gz_iretM 39 hC hX dX9_bad_39 hF
    · skip
      refine gz_sub [0] [(0, .ref a0)] rfl ?_
      exact hj18 hF

theorem dX9_isSet_0 : decode cX9_isSet 0 = .ok (.aload_n 0, 1) := by decide +kernel
theorem dX9_isSet_1 : decode cX9_isSet 1 = .ok (.iload_n 1, 1) := by decide +kernel
theorem dX9_isSet_2 : decode cX9_isSet 2 = .ok (.invokevirtual 159, 3) := by decide +kernel
theorem dX9_isSet_5 : decode cX9_isSet 5 = .ok (.ifCond .eq 27, 3) := by decide +kernel
theorem dX9_isSet_8 : decode cX9_isSet 8 = .ok (.iload_n 2, 1) := by decide +kernel
theorem dX9_isSet_9 : decode cX9_isSet 9 = .ok (.iconst 0, 1) := by decide +kernel
theorem dX9_isSet_10 : decode cX9_isSet 10 = .ok (.aload_n 0, 1) := by decide +kernel
theorem dX9_isSet_11 : decode cX9_isSet 11 = .ok (.getfield 34, 3) := by decide +kernel
theorem dX9_isSet_14 : decode cX9_isSet 14 = .ok (.getfield 147, 3) := by decide +kernel
theorem dX9_isSet_17 : decode cX9_isSet 17 = .ok (.iload_n 1, 1) := by decide +kernel
theorem dX9_isSet_18 : decode cX9_isSet 18 = .ok (.aaload, 1) := by decide +kernel
theorem dX9_isSet_19 : decode cX9_isSet 19 = .ok (.invokevirtual 267, 3) := by decide +kernel
theorem dX9_isSet_22 : decode cX9_isSet 22 = .ok (.invokestatic 75, 3) := by decide +kernel
theorem dX9_isSet_25 : decode cX9_isSet 25 = .ok (.ifCond .eq 7, 3) := by decide +kernel
theorem dX9_isSet_28 : decode cX9_isSet 28 = .ok (.iconst 1, 1) := by decide +kernel
theorem dX9_isSet_29 : decode cX9_isSet 29 = .ok (.goto 4, 3) := by decide +kernel
theorem dX9_isSet_32 : decode cX9_isSet 32 = .ok (.iconst 0, 1) := by decide +kernel
theorem dX9_isSet_33 : decode cX9_isSet 33 = .ok (.ireturn, 1) := by decide +kernel

def f_X9_isSet (fu : Nat) (M : gz_M) (a0 : Nat) (a1 : Int32) (a2 : Int32) : Option (Int32) :=
  gz_gd M 9 a0 <|
  (f_X9_isValley fu M a0 a1).bind fun x1 =>
  gz_jn (fun (x7 : Int32) =>
  gz_z x7 (some x7)) fun j33 =>
  gz_jn (j33 (0 : Int32)) fun j32 =>
  if x1 = 0 then
    j32
  else
    (gz_gR M 9 3 a0).bind fun x2 =>
    (gz_gR M 8 0 x2).bind fun x3 =>
    (gz_aR M x3 a1).bind fun x4 =>
    (f_X7_allLasts fu M x4).bind fun x5 =>
    (f_X9_isWithin fu M a2 (0 : Int32) x5).bind fun x6 =>
    if x6 = 0 then
      j32
    else
      j33 (1 : Int32)

set_option maxHeartbeats 4000000 in
theorem ct_X9_isSet (l : Launch) (G : gz_G) (fu : Nat) (M : gz_M) (a0 : Nat) (a1 : Int32) (a2 : Int32) (y : Int32) (hF : f_X9_isSet fu M a0 a1 a2 = some y) : gz_ct l yX9_isSet cX9_isSet 3 (some .boolean) 2 43 0 0 G [.ref a0, .int a1, .int a2] M (some (.int y)) M := by
  refine gz_ct.of (by decide) (Nat.le_of_ble_eq_true rfl) (fun C hC hX => ?_)
  unfold f_X9_isSet at hF
  obtain ⟨-, hF⟩ := gz_gd_some hF
  show gz_go C 0 0 M [(0, .ref a0), (1, .int a1), (2, .int a2)] 0 []
  refine gz_aload_n 0 hC 0 dX9_isSet_0 rfl rfl ?_
  refine gz_iload_n 1 hC 1 dX9_isSet_1 rfl rfl ?_
  refine gz_cvP (st := []) 2 hC hX [.int a1] Value.int yl_X9_isValley yv_X9_isValley q_509 ⟨Nat.le_of_ble_eq_true rfl, Nat.le_of_ble_eq_true rfl⟩ ⟨_, rfl⟩ (fun r h => ct_X9_isValley _ _ fu M a0 a1 r h) rfl rfl (Nat.le_of_ble_eq_true rfl) dX9_isSet_2 gz_00 hF (fun x1 hF => ?_)
  refine gz_join (fun (j : Int32 → Option (Int32)) => ∀ (x7 : Int32), j x7 = some y → gz_go C 0 0 M [] 33 [.int x7]) hF (fun x7 hF => ?_) (fun j33 hj33 hF => ?_)
  · skip
    exact gz_zretP 33 hC hX dX9_isSet_33 hF
  refine gz_join (fun (j : Option (Int32)) => j = some y → gz_go C 0 0 M [] 32 []) hF (fun hF => ?_) (fun j32 hj32 hF => ?_)
  · skip
    refine gz_iconst 32 hC (0 : Int32) dX9_isSet_32 gz_k0 ?_
    exact hj33 _ hF
  refine gz_if_eq 5 32 hC dX9_isSet_5 (by decide) hF (fun hF => ?_) (fun hF => ?_)
  · skip
    refine gz_sub [] [] rfl ?_
    exact hj32 hF
  · skip
    refine gz_iload_n 8 hC 2 dX9_isSet_8 rfl rfl ?_
    refine gz_iconst 9 hC (0 : Int32) dX9_isSet_9 gz_k0 ?_
    refine gz_aload_n 10 hC 0 dX9_isSet_10 rfl rfl ?_
    refine gz_getR 11 hC fl_X9_34 fk_9_3 dX9_isSet_11 hF (fun x2 hF => ?_)
    refine gz_getR 14 hC fl_X9_147 fk_8_0 dX9_isSet_14 hF (fun x3 hF => ?_)
    refine gz_iload_n 17 hC 1 dX9_isSet_17 rfl rfl ?_
    refine gz_aald 18 hC dX9_isSet_18 hF (fun x4 hF => ?_)
    refine gz_cvP (st := [.int (0 : Int32), .int a2]) 19 hC hX [] Value.int yl_X7_allLasts yv_X7_allLasts q_775 ⟨Nat.le_of_ble_eq_true rfl, Nat.le_of_ble_eq_true rfl⟩ ⟨_, rfl⟩ (fun r h => ct_X7_allLasts _ _ fu M x4 r h) rfl rfl (Nat.le_of_ble_eq_true rfl) dX9_isSet_19 gz_00 hF (fun x5 hF => ?_)
    refine gz_csP (st := []) 22 hC hX [.int a2, .int (0 : Int32), .int x5] Value.int yl_X9_isWithin yv_X9_isWithin q_414 ⟨Nat.le_of_ble_eq_true rfl, Nat.le_of_ble_eq_true rfl⟩ (fun r h => ct_X9_isWithin _ _ fu M a2 (0 : Int32) x5 r h) rfl rfl (Nat.le_of_ble_eq_true rfl) dX9_isSet_22 gz_00 hF (fun x6 hF => ?_)
    refine gz_if_eq 25 32 hC dX9_isSet_25 (by decide) hF (fun hF => ?_) (fun hF => ?_)
    · skip
      refine gz_sub [] [] rfl ?_
      exact hj32 hF
    · skip
      refine gz_iconst 28 hC (1 : Int32) dX9_isSet_28 gz_k1 ?_
      refine gz_goto 29 33 hC dX9_isSet_29 (by decide) ?_
      refine gz_sub [] [] rfl ?_
      exact hj33 _ hF

theorem dX9_whose_0 : decode cX9_whose 0 = .ok (.aload_n 0, 1) := by decide +kernel
theorem dX9_whose_1 : decode cX9_whose 1 = .ok (.iload_n 1, 1) := by decide +kernel
theorem dX9_whose_2 : decode cX9_whose 2 = .ok (.iload_n 2, 1) := by decide +kernel
theorem dX9_whose_3 : decode cX9_whose 3 = .ok (.invokevirtual 144, 3) := by decide +kernel
theorem dX9_whose_6 : decode cX9_whose 6 = .ok (.ifCond .eq 12, 3) := by decide +kernel
theorem dX9_whose_9 : decode cX9_whose 9 = .ok (.aload_n 0, 1) := by decide +kernel
theorem dX9_whose_10 : decode cX9_whose 10 = .ok (.iload_n 1, 1) := by decide +kernel
theorem dX9_whose_11 : decode cX9_whose 11 = .ok (.iload_n 3, 1) := by decide +kernel
theorem dX9_whose_12 : decode cX9_whose 12 = .ok (.invokevirtual 232, 3) := by decide +kernel
theorem dX9_whose_15 : decode cX9_whose 15 = .ok (.ifCond .ne 10, 3) := by decide +kernel
theorem dX9_whose_18 : decode cX9_whose 18 = .ok (.aload_n 0, 1) := by decide +kernel
theorem dX9_whose_19 : decode cX9_whose 19 = .ok (.bipush (-2), 2) := by decide +kernel
theorem dX9_whose_21 : decode cX9_whose 21 = .ok (.invokevirtual 79, 3) := by decide +kernel
theorem dX9_whose_24 : decode cX9_whose 24 = .ok (.ireturn, 1) := by decide +kernel
theorem dX9_whose_25 : decode cX9_whose 25 = .ok (.aload_n 0, 1) := by decide +kernel
theorem dX9_whose_26 : decode cX9_whose 26 = .ok (.getfield 34, 3) := by decide +kernel
theorem dX9_whose_29 : decode cX9_whose 29 = .ok (.getfield 147, 3) := by decide +kernel
theorem dX9_whose_32 : decode cX9_whose 32 = .ok (.iload_n 1, 1) := by decide +kernel
theorem dX9_whose_33 : decode cX9_whose 33 = .ok (.aaload, 1) := by decide +kernel
theorem dX9_whose_34 : decode cX9_whose 34 = .ok (.iload_n 2, 1) := by decide +kernel
theorem dX9_whose_35 : decode cX9_whose 35 = .ok (.iload_n 3, 1) := by decide +kernel
theorem dX9_whose_36 : decode cX9_whose 36 = .ok (.invokevirtual 235, 3) := by decide +kernel
theorem dX9_whose_39 : decode cX9_whose 39 = .ok (.ireturn, 1) := by decide +kernel

def f_X9_whose (fu : Nat) (M : gz_M) (a0 : Nat) (a1 : Int32) (a2 : Int32) (a3 : Int32) : Option (Int32 × gz_M) :=
  gz_gd M 9 a0 <|
  (f_X9_isFoot fu M a0 a1 a2).bind fun x1 =>
  gz_jn (gz_b2 (f_X9_refuse fu M a0 (-2 : Int32)) fun x7 M8 =>
    some (x7, M8)) fun j18 =>
  if x1 = 0 then
    j18
  else
    (f_X9_isSet fu M a0 a1 a3).bind fun x2 =>
    if x2 = 0 then
      j18
    else
      (gz_gR M 9 3 a0).bind fun x3 =>
      (gz_gR M 8 0 x3).bind fun x4 =>
      (gz_aR M x4 a1).bind fun x5 =>
      (f_X7_ownLast fu M x5 a2 a3).bind fun x6 =>
      some (x6, M)

set_option maxHeartbeats 4000000 in
theorem ct_X9_whose (l : Launch) (G : gz_G) (fu : Nat) (M : gz_M) (a0 : Nat) (a1 : Int32) (a2 : Int32) (a3 : Int32) (y : Int32 × gz_M) (hF : f_X9_whose fu M a0 a1 a2 a3 = some y) : gz_ct l yX9_whose cX9_whose 4 (some .int) 5 124 0 0 G [.ref a0, .int a1, .int a2, .int a3] M (some (.int y.1)) y.2 := by
  refine gz_ct.of (by decide) (Nat.le_of_ble_eq_true rfl) (fun C hC hX => ?_)
  unfold f_X9_whose at hF
  obtain ⟨-, hF⟩ := gz_gd_some hF
  show gz_go C 0 0 M [(0, .ref a0), (1, .int a1), (2, .int a2), (3, .int a3)] 0 []
  refine gz_aload_n 0 hC 0 dX9_whose_0 rfl rfl ?_
  refine gz_iload_n 1 hC 1 dX9_whose_1 rfl rfl ?_
  refine gz_iload_n 2 hC 2 dX9_whose_2 rfl rfl ?_
  refine gz_cvP (st := []) 3 hC hX [.int a1, .int a2] Value.int yl_X9_isFoot yv_X9_isFoot q_505 ⟨Nat.le_of_ble_eq_true rfl, Nat.le_of_ble_eq_true rfl⟩ ⟨_, rfl⟩ (fun r h => ct_X9_isFoot _ _ fu M a0 a1 a2 r h) rfl rfl (Nat.le_of_ble_eq_true rfl) dX9_whose_3 gz_00 hF (fun x1 hF => ?_)
  refine gz_join (fun (j : Option (Int32 × gz_M)) => j = some y → gz_go C 0 0 M [(0, .ref a0)] 18 []) hF (fun hF => ?_) (fun j18 hj18 hF => ?_)
  · skip
    refine gz_aload_n 18 hC 0 dX9_whose_18 rfl rfl ?_
    refine gz_bipush 19 hC (-2 : Int32) dX9_whose_19 gz_bm2 ?_
    refine gz_cvM (st := []) 21 hC hX [.int (-2 : Int32)] Value.int yl_X9_refuse yv_X9_refuse q_417 ⟨Nat.le_of_ble_eq_true rfl, Nat.le_of_ble_eq_true rfl⟩ ⟨_, rfl⟩ (fun r h => ct_X9_refuse _ _ fu M a0 (-2 : Int32) r h) rfl rfl (Nat.le_of_ble_eq_true rfl) dX9_whose_21 gz_00 hF (fun x7 M8 hF => ?_)
    exact gz_iretM 24 hC hX dX9_whose_24 hF
  refine gz_if_eq 6 18 hC dX9_whose_6 (by decide) hF (fun hF => ?_) (fun hF => ?_)
  · skip
    refine gz_sub [0] [(0, .ref a0)] rfl ?_
    exact hj18 hF
  · skip
    refine gz_aload_n 9 hC 0 dX9_whose_9 rfl rfl ?_
    refine gz_iload_n 10 hC 1 dX9_whose_10 rfl rfl ?_
    refine gz_iload_n 11 hC 3 dX9_whose_11 rfl rfl ?_
    refine gz_cvP (st := []) 12 hC hX [.int a1, .int a3] Value.int yl_X9_isSet yv_X9_isSet q_771 ⟨Nat.le_of_ble_eq_true rfl, Nat.le_of_ble_eq_true rfl⟩ ⟨_, rfl⟩ (fun r h => ct_X9_isSet _ _ fu M a0 a1 a3 r h) rfl rfl (Nat.le_of_ble_eq_true rfl) dX9_whose_12 gz_00 hF (fun x2 hF => ?_)
    refine gz_if_ne 15 25 hC dX9_whose_15 (by decide) hF (fun hF => ?_) (fun hF => ?_)
    · skip
      refine gz_aload_n 25 hC 0 dX9_whose_25 rfl rfl ?_
      refine gz_getR 26 hC fl_X9_34 fk_9_3 dX9_whose_26 hF (fun x3 hF => ?_)
      refine gz_getR 29 hC fl_X9_147 fk_8_0 dX9_whose_29 hF (fun x4 hF => ?_)
      refine gz_iload_n 32 hC 1 dX9_whose_32 rfl rfl ?_
      refine gz_aald 33 hC dX9_whose_33 hF (fun x5 hF => ?_)
      refine gz_iload_n 34 hC 2 dX9_whose_34 rfl rfl ?_
      refine gz_iload_n 35 hC 3 dX9_whose_35 rfl rfl ?_
      refine gz_cvP (st := []) 36 hC hX [.int a2, .int a3] Value.int yl_X7_ownLast yv_X7_ownLast q_779 ⟨Nat.le_of_ble_eq_true rfl, Nat.le_of_ble_eq_true rfl⟩ ⟨_, rfl⟩ (fun r h => ct_X7_ownLast _ _ fu M x5 a2 a3 r h) rfl rfl (Nat.le_of_ble_eq_true rfl) dX9_whose_36 gz_00 hF (fun x6 hF => ?_)
      exact gz_iretM 39 hC hX dX9_whose_39 hF
    · skip
      refine gz_sub [0] [(0, .ref a0)] rfl ?_
      exact hj18 hF

theorem dX9_total_0 : decode cX9_total 0 = .ok (.aload_n 0, 1) := by decide +kernel
theorem dX9_total_1 : decode cX9_total 1 = .ok (.iload_n 1, 1) := by decide +kernel
theorem dX9_total_2 : decode cX9_total 2 = .ok (.iload_n 2, 1) := by decide +kernel
theorem dX9_total_3 : decode cX9_total 3 = .ok (.invokevirtual 232, 3) := by decide +kernel
theorem dX9_total_6 : decode cX9_total 6 = .ok (.ifCond .ne 10, 3) := by decide +kernel
theorem dX9_total_9 : decode cX9_total 9 = .ok (.aload_n 0, 1) := by decide +kernel
theorem dX9_total_10 : decode cX9_total 10 = .ok (.bipush (-2), 2) := by decide +kernel
theorem dX9_total_12 : decode cX9_total 12 = .ok (.invokevirtual 79, 3) := by decide +kernel
theorem dX9_total_15 : decode cX9_total 15 = .ok (.ireturn, 1) := by decide +kernel
theorem dX9_total_16 : decode cX9_total 16 = .ok (.aload_n 0, 1) := by decide +kernel
theorem dX9_total_17 : decode cX9_total 17 = .ok (.getfield 34, 3) := by decide +kernel
theorem dX9_total_20 : decode cX9_total 20 = .ok (.getfield 147, 3) := by decide +kernel
theorem dX9_total_23 : decode cX9_total 23 = .ok (.iload_n 1, 1) := by decide +kernel
theorem dX9_total_24 : decode cX9_total 24 = .ok (.aaload, 1) := by decide +kernel
theorem dX9_total_25 : decode cX9_total 25 = .ok (.astore_n 3, 1) := by decide +kernel
theorem dX9_total_26 : decode cX9_total 26 = .ok (.aload_n 3, 1) := by decide +kernel
theorem dX9_total_27 : decode cX9_total 27 = .ok (.iload_n 2, 1) := by decide +kernel
theorem dX9_total_28 : decode cX9_total 28 = .ok (.invokevirtual 238, 3) := by decide +kernel
theorem dX9_total_31 : decode cX9_total 31 = .ok (.istore 4, 2) := by decide +kernel
theorem dX9_total_33 : decode cX9_total 33 = .ok (.iconst 0, 1) := by decide +kernel
theorem dX9_total_34 : decode cX9_total 34 = .ok (.istore 5, 2) := by decide +kernel
theorem dX9_total_36 : decode cX9_total 36 = .ok (.iload 5, 2) := by decide +kernel
theorem dX9_total_38 : decode cX9_total 38 = .ok (.aload_n 3, 1) := by decide +kernel
theorem dX9_total_39 : decode cX9_total 39 = .ok (.getfield 162, 3) := by decide +kernel
theorem dX9_total_42 : decode cX9_total 42 = .ok (.if_icmp .ge 28, 3) := by decide +kernel
theorem dX9_total_45 : decode cX9_total 45 = .ok (.iload 4, 2) := by decide +kernel
theorem dX9_total_47 : decode cX9_total 47 = .ok (.aload_n 3, 1) := by decide +kernel
theorem dX9_total_48 : decode cX9_total 48 = .ok (.iload 5, 2) := by decide +kernel
theorem dX9_total_50 : decode cX9_total 50 = .ok (.aload_n 3, 1) := by decide +kernel
theorem dX9_total_51 : decode cX9_total 51 = .ok (.iload 5, 2) := by decide +kernel
theorem dX9_total_53 : decode cX9_total 53 = .ok (.aload_n 3, 1) := by decide +kernel
theorem dX9_total_54 : decode cX9_total 54 = .ok (.iload_n 2, 1) := by decide +kernel
theorem dX9_total_55 : decode cX9_total 55 = .ok (.invokevirtual 241, 3) := by decide +kernel
theorem dX9_total_58 : decode cX9_total 58 = .ok (.invokevirtual 245, 3) := by decide +kernel
theorem dX9_total_61 : decode cX9_total 61 = .ok (.iadd, 1) := by decide +kernel
theorem dX9_total_62 : decode cX9_total 62 = .ok (.istore 4, 2) := by decide +kernel
theorem dX9_total_64 : decode cX9_total 64 = .ok (.iinc 5 1, 3) := by decide +kernel
theorem dX9_total_67 : decode cX9_total 67 = .ok (.goto (-31), 3) := by decide +kernel
theorem dX9_total_70 : decode cX9_total 70 = .ok (.iload 4, 2) := by decide +kernel
theorem dX9_total_72 : decode cX9_total 72 = .ok (.ireturn, 1) := by decide +kernel
def lp_X9_total_36 (j70 : Int32 → Option (Int32 × gz_M)) (fu : Nat) (M : gz_M) (a2 : Int32) (x6 : Nat) : Nat → Int32 → Int32 → Option (Int32 × gz_M)
  | 0, _, _ => none
  | n36 + 1, x8, x9 =>
    (gz_gI M 7 4 x6).bind fun x10 =>
    if x10 ≤ x9 then
      j70 x8
    else
      (f_X7_ownBadness fu M x6 x9 x6 a2).bind fun x11 =>
      (f_X7_costAt fu M x6 x9 x11).bind fun x12 =>
      lp_X9_total_36 j70 fu M a2 x6 n36 (x8 + x12) (x9 + (1 : Int32))
def f_X9_total (fu : Nat) (M : gz_M) (a0 : Nat) (a1 : Int32) (a2 : Int32) : Option (Int32 × gz_M) :=
  gz_gd M 9 a0 <|
  (f_X9_isSet fu M a0 a1 a2).bind fun x1 =>
  if x1 = 0 then
    gz_b2 (f_X9_refuse fu M a0 (-2 : Int32)) fun x2 M3 =>
    some (x2, M3)
  else
    (gz_gR M 9 3 a0).bind fun x4 =>
    (gz_gR M 8 0 x4).bind fun x5 =>
    (gz_aR M x5 a1).bind fun x6 =>
    (f_X7_prices fu M x6 a2).bind fun x7 =>
    lp_X9_total_36 (fun (x13 : Int32) => some (x13, M)) fu M a2 x6 fu x7 (0 : Int32)
set_option maxHeartbeats 4000000 in
theorem w_X9_total_36 {C : gz_C} {y : Int32 × gz_M} {fu : Nat} {M : gz_M} {a2 : Int32} {x6 : Nat} {j70 : Int32 → Option (Int32 × gz_M)} (hC : gz_ok C cX9_total RX9 6) (hX : gz_cx C 4 102 0 0 (some .int) (some (.int y.1)) y.2 "total") (hj70 : ∀ (x13 : Int32), j70 x13 = some y → gz_go C 0 0 M [(4, .int x13)] 70 []) : ∀ (n : Nat) (x8 : Int32) (x9 : Int32), lp_X9_total_36 j70 fu M a2 x6 n x8 x9 = some y → gz_go C 0 0 M [(2, .int a2), (3, .ref x6), (4, .int x8), (5, .int x9)] 36 [] := by
  intro n
  induction n with
  | zero => intro x8 x9 hF; exact nomatch (show (none : Option (Int32 × gz_M)) = some y from hF)
  | succ n36 ih36 =>
    intro x8 x9 hF
    rw [lp_X9_total_36.eq_2] at hF
    refine gz_iload 36 hC 3 dX9_total_36 rfl ?_
    refine gz_aload_n 38 hC 1 dX9_total_38 rfl rfl ?_
    refine gz_getI 39 hC fl_X9_162 fk_7_4 dX9_total_39 hF (fun x10 hF => ?_)
    refine gz_icmp_ge 42 70 hC dX9_total_42 (by decide) hF (fun hF => ?_) (fun hF => ?_)
    · skip
      refine gz_sub [2] [(4, .int x8)] rfl ?_
      exact hj70 _ hF
    · skip
      refine gz_iload 45 hC 2 dX9_total_45 rfl ?_
      refine gz_aload_n 47 hC 1 dX9_total_47 rfl rfl ?_
      refine gz_iload 48 hC 3 dX9_total_48 rfl ?_
      refine gz_aload_n 50 hC 1 dX9_total_50 rfl rfl ?_
      refine gz_iload 51 hC 3 dX9_total_51 rfl ?_
      refine gz_aload_n 53 hC 1 dX9_total_53 rfl rfl ?_
      refine gz_iload_n 54 hC 0 dX9_total_54 rfl rfl ?_
      refine gz_cvP (st := [.int x9, .ref x6, .int x8]) 55 hC hX [.int x9, .ref x6, .int a2] Value.int yl_X7_ownBadness yv_X7_ownBadness q_793 ⟨Nat.le_of_ble_eq_true rfl, Nat.le_of_ble_eq_true rfl⟩ ⟨_, rfl⟩ (fun r h => ct_X7_ownBadness _ _ fu M x6 x9 x6 a2 r h) rfl rfl (Nat.le_of_ble_eq_true rfl) dX9_total_55 gz_00 hF (fun x11 hF => ?_)
      refine gz_cvP (st := [.int x8]) 58 hC hX [.int x9, .int x11] Value.int yl_X7_costAt yv_X7_costAt q_797 ⟨Nat.le_of_ble_eq_true rfl, Nat.le_of_ble_eq_true rfl⟩ ⟨_, rfl⟩ (fun r h => ct_X7_costAt _ _ fu M x6 x9 x11 r h) rfl rfl (Nat.le_of_ble_eq_true rfl) dX9_total_58 gz_00 hF (fun x12 hF => ?_)
      refine gz_iadd 61 hC dX9_total_61 ?_
      refine gz_istore 62 hC [(4, .int (x8 + x12)), (2, .int a2), (3, .ref x6), (5, .int x9)] dX9_total_62 (by decide) rfl ?_
      refine gz_iinc 64 hC (x9 + (1 : Int32)) 3 [(5, .int (x9 + (1 : Int32))), (4, .int (x8 + x12)), (2, .int a2), (3, .ref x6)] dX9_total_64 rfl rfl (by decide) rfl ?_
      refine gz_goto 67 36 hC dX9_total_67 (by decide) ?_
      refine gz_sub [2, 3, 1, 0] [(2, .int a2), (3, .ref x6), (4, .int (x8 + x12)), (5, .int (x9 + (1 : Int32)))] rfl ?_
      exact ih36 _ _ hF
set_option maxHeartbeats 4000000 in
theorem ct_X9_total (l : Launch) (G : gz_G) (fu : Nat) (M : gz_M) (a0 : Nat) (a1 : Int32) (a2 : Int32) (y : Int32 × gz_M) (hF : f_X9_total fu M a0 a1 a2 = some y) : gz_ct l yX9_total cX9_total 6 (some .int) 4 102 0 0 G [.ref a0, .int a1, .int a2] M (some (.int y.1)) y.2 := by
  refine gz_ct.of (by decide) (Nat.le_of_ble_eq_true rfl) (fun C hC hX => ?_)
  unfold f_X9_total at hF
  obtain ⟨-, hF⟩ := gz_gd_some hF
  show gz_go C 0 0 M [(0, .ref a0), (1, .int a1), (2, .int a2)] 0 []
  refine gz_aload_n 0 hC 0 dX9_total_0 rfl rfl ?_
  refine gz_iload_n 1 hC 1 dX9_total_1 rfl rfl ?_
  refine gz_iload_n 2 hC 2 dX9_total_2 rfl rfl ?_
  refine gz_cvP (st := []) 3 hC hX [.int a1, .int a2] Value.int yl_X9_isSet yv_X9_isSet q_771 ⟨Nat.le_of_ble_eq_true rfl, Nat.le_of_ble_eq_true rfl⟩ ⟨_, rfl⟩ (fun r h => ct_X9_isSet _ _ fu M a0 a1 a2 r h) rfl rfl (Nat.le_of_ble_eq_true rfl) dX9_total_3 gz_00 hF (fun x1 hF => ?_)
  refine gz_if_ne 6 16 hC dX9_total_6 (by decide) hF (fun hF => ?_) (fun hF => ?_)
  · skip
    refine gz_aload_n 16 hC 0 dX9_total_16 rfl rfl ?_
    refine gz_getR 17 hC fl_X9_34 fk_9_3 dX9_total_17 hF (fun x4 hF => ?_)
    refine gz_getR 20 hC fl_X9_147 fk_8_0 dX9_total_20 hF (fun x5 hF => ?_)
    refine gz_iload_n 23 hC 1 dX9_total_23 rfl rfl ?_
    refine gz_aald 24 hC dX9_total_24 hF (fun x6 hF => ?_)
    refine gz_astore_n 25 hC [(3, .ref x6), (0, .ref a0), (1, .int a1), (2, .int a2)] dX9_total_25 rfl (by decide) rfl ?_
    refine gz_aload_n 26 hC 0 dX9_total_26 rfl rfl ?_
    refine gz_iload_n 27 hC 3 dX9_total_27 rfl rfl ?_
    refine gz_cvP (st := []) 28 hC hX [.int a2] Value.int yl_X7_prices yv_X7_prices q_789 ⟨Nat.le_of_ble_eq_true rfl, Nat.le_of_ble_eq_true rfl⟩ ⟨_, rfl⟩ (fun r h => ct_X7_prices _ _ fu M x6 a2 r h) rfl rfl (Nat.le_of_ble_eq_true rfl) dX9_total_28 gz_00 hF (fun x7 hF => ?_)
    refine gz_istore 31 hC [(4, .int x7), (3, .ref x6), (0, .ref a0), (1, .int a1), (2, .int a2)] dX9_total_31 (by decide) rfl ?_
    refine gz_iconst 33 hC (0 : Int32) dX9_total_33 gz_k0 ?_
    refine gz_istore 34 hC [(5, .int (0 : Int32)), (4, .int x7), (3, .ref x6), (0, .ref a0), (1, .int a1), (2, .int a2)] dX9_total_34 (by decide) rfl ?_
    refine gz_sub [5, 2, 1, 0] [(2, .int a2), (3, .ref x6), (4, .int x7), (5, .int (0 : Int32))] rfl ?_
    refine w_X9_total_36 hC hX ?_ _ _ _ hF
    intro x13 hF
    refine gz_iload 70 hC 0 dX9_total_70 rfl ?_
    exact gz_iretM 72 hC hX dX9_total_72 hF
  · skip
    refine gz_aload_n 9 hC 0 dX9_total_9 rfl rfl ?_
    refine gz_bipush 10 hC (-2 : Int32) dX9_total_10 gz_bm2 ?_
    refine gz_cvM (st := []) 12 hC hX [.int (-2 : Int32)] Value.int yl_X9_refuse yv_X9_refuse q_417 ⟨Nat.le_of_ble_eq_true rfl, Nat.le_of_ble_eq_true rfl⟩ ⟨_, rfl⟩ (fun r h => ct_X9_refuse _ _ fu M a0 (-2 : Int32) r h) rfl rfl (Nat.le_of_ble_eq_true rfl) dX9_total_12 gz_00 hF (fun x2 M3 hF => ?_)
    exact gz_iretM 15 hC hX dX9_total_15 hF

theorem dX9_out_0 : decode cX9_out 0 = .ok (.aload_n 0, 1) := by decide +kernel
theorem dX9_out_1 : decode cX9_out 1 = .ok (.iload_n 1, 1) := by decide +kernel
theorem dX9_out_2 : decode cX9_out 2 = .ok (.iload_n 2, 1) := by decide +kernel
theorem dX9_out_3 : decode cX9_out 3 = .ok (.invokevirtual 232, 3) := by decide +kernel
theorem dX9_out_6 : decode cX9_out 6 = .ok (.ifCond .ne 10, 3) := by decide +kernel
theorem dX9_out_9 : decode cX9_out 9 = .ok (.aload_n 0, 1) := by decide +kernel
theorem dX9_out_10 : decode cX9_out 10 = .ok (.bipush (-2), 2) := by decide +kernel
theorem dX9_out_12 : decode cX9_out 12 = .ok (.invokevirtual 79, 3) := by decide +kernel
theorem dX9_out_15 : decode cX9_out 15 = .ok (.ireturn, 1) := by decide +kernel
theorem dX9_out_16 : decode cX9_out 16 = .ok (.aload_n 0, 1) := by decide +kernel
theorem dX9_out_17 : decode cX9_out 17 = .ok (.getfield 34, 3) := by decide +kernel
theorem dX9_out_20 : decode cX9_out 20 = .ok (.getfield 147, 3) := by decide +kernel
theorem dX9_out_23 : decode cX9_out 23 = .ok (.iload_n 1, 1) := by decide +kernel
theorem dX9_out_24 : decode cX9_out 24 = .ok (.aaload, 1) := by decide +kernel
theorem dX9_out_25 : decode cX9_out 25 = .ok (.astore_n 3, 1) := by decide +kernel
theorem dX9_out_26 : decode cX9_out 26 = .ok (.iconst 0, 1) := by decide +kernel
theorem dX9_out_27 : decode cX9_out 27 = .ok (.istore 4, 2) := by decide +kernel
theorem dX9_out_29 : decode cX9_out 29 = .ok (.iconst 0, 1) := by decide +kernel
theorem dX9_out_30 : decode cX9_out 30 = .ok (.istore 5, 2) := by decide +kernel
theorem dX9_out_32 : decode cX9_out 32 = .ok (.iload 5, 2) := by decide +kernel
theorem dX9_out_34 : decode cX9_out 34 = .ok (.aload_n 3, 1) := by decide +kernel
theorem dX9_out_35 : decode cX9_out 35 = .ok (.getfield 162, 3) := by decide +kernel
theorem dX9_out_38 : decode cX9_out 38 = .ok (.if_icmp .ge 29, 3) := by decide +kernel
theorem dX9_out_41 : decode cX9_out 41 = .ok (.aload_n 3, 1) := by decide +kernel
theorem dX9_out_42 : decode cX9_out 42 = .ok (.iload 5, 2) := by decide +kernel
theorem dX9_out_44 : decode cX9_out 44 = .ok (.iload_n 2, 1) := by decide +kernel
theorem dX9_out_45 : decode cX9_out 45 = .ok (.invokevirtual 235, 3) := by decide +kernel
theorem dX9_out_48 : decode cX9_out 48 = .ok (.iconst (-1), 1) := by decide +kernel
theorem dX9_out_49 : decode cX9_out 49 = .ok (.if_icmp .ne 12, 3) := by decide +kernel
theorem dX9_out_52 : decode cX9_out 52 = .ok (.iload 4, 2) := by decide +kernel
theorem dX9_out_54 : decode cX9_out 54 = .ok (.iconst 1, 1) := by decide +kernel
theorem dX9_out_55 : decode cX9_out 55 = .ok (.iload 5, 2) := by decide +kernel
theorem dX9_out_57 : decode cX9_out 57 = .ok (.ishl, 1) := by decide +kernel
theorem dX9_out_58 : decode cX9_out 58 = .ok (.ior, 1) := by decide +kernel
theorem dX9_out_59 : decode cX9_out 59 = .ok (.istore 4, 2) := by decide +kernel
theorem dX9_out_61 : decode cX9_out 61 = .ok (.iinc 5 1, 3) := by decide +kernel
theorem dX9_out_64 : decode cX9_out 64 = .ok (.goto (-32), 3) := by decide +kernel
theorem dX9_out_67 : decode cX9_out 67 = .ok (.iload 4, 2) := by decide +kernel
theorem dX9_out_69 : decode cX9_out 69 = .ok (.ireturn, 1) := by decide +kernel
def lp_X9_out_32 (j67 : Int32 → Option (Int32 × gz_M)) (fu : Nat) (M : gz_M) (a2 : Int32) (x6 : Nat) : Nat → Int32 → Int32 → Option (Int32 × gz_M)
  | 0, _, _ => none
  | n32 + 1, x7, x8 =>
    (gz_gI M 7 4 x6).bind fun x9 =>
    if x9 ≤ x8 then
      j67 x7
    else
      (f_X7_ownLast fu M x6 x8 a2).bind fun x10 =>
      gz_jn (fun (x11 : Int32) =>
      lp_X9_out_32 j67 fu M a2 x6 n32 x11 (x8 + (1 : Int32))) fun j61 =>
      if x10 = (-1 : Int32) then
        j61 (x7 ||| ((1 : Int32) <<< (x8 &&& 31)))
      else
        j61 x7
def f_X9_out (fu : Nat) (M : gz_M) (a0 : Nat) (a1 : Int32) (a2 : Int32) : Option (Int32 × gz_M) :=
  gz_gd M 9 a0 <|
  (f_X9_isSet fu M a0 a1 a2).bind fun x1 =>
  if x1 = 0 then
    gz_b2 (f_X9_refuse fu M a0 (-2 : Int32)) fun x2 M3 =>
    some (x2, M3)
  else
    (gz_gR M 9 3 a0).bind fun x4 =>
    (gz_gR M 8 0 x4).bind fun x5 =>
    (gz_aR M x5 a1).bind fun x6 =>
    lp_X9_out_32 (fun (x12 : Int32) => some (x12, M)) fu M a2 x6 fu (0 : Int32) (0 : Int32)
set_option maxHeartbeats 4000000 in
theorem w_X9_out_32 {C : gz_C} {y : Int32 × gz_M} {fu : Nat} {M : gz_M} {a2 : Int32} {x6 : Nat} {j67 : Int32 → Option (Int32 × gz_M)} (hC : gz_ok C cX9_out RX9 6) (hX : gz_cx C 5 124 0 0 (some .int) (some (.int y.1)) y.2 "out") (hj67 : ∀ (x12 : Int32), j67 x12 = some y → gz_go C 0 0 M [(4, .int x12)] 67 []) : ∀ (n : Nat) (x7 : Int32) (x8 : Int32), lp_X9_out_32 j67 fu M a2 x6 n x7 x8 = some y → gz_go C 0 0 M [(2, .int a2), (3, .ref x6), (4, .int x7), (5, .int x8)] 32 [] := by
  intro n
  induction n with
  | zero => intro x7 x8 hF; exact nomatch (show (none : Option (Int32 × gz_M)) = some y from hF)
  | succ n32 ih32 =>
    intro x7 x8 hF
    rw [lp_X9_out_32.eq_2] at hF
    refine gz_iload 32 hC 3 dX9_out_32 rfl ?_
    refine gz_aload_n 34 hC 1 dX9_out_34 rfl rfl ?_
    refine gz_getI 35 hC fl_X9_162 fk_7_4 dX9_out_35 hF (fun x9 hF => ?_)
    refine gz_icmp_ge 38 67 hC dX9_out_38 (by decide) hF (fun hF => ?_) (fun hF => ?_)
    · skip
      refine gz_sub [2] [(4, .int x7)] rfl ?_
      exact hj67 _ hF
    · skip
      refine gz_aload_n 41 hC 1 dX9_out_41 rfl rfl ?_
      refine gz_iload 42 hC 3 dX9_out_42 rfl ?_
      refine gz_iload_n 44 hC 0 dX9_out_44 rfl rfl ?_
      refine gz_cvP (st := []) 45 hC hX [.int x8, .int a2] Value.int yl_X7_ownLast yv_X7_ownLast q_779 ⟨Nat.le_of_ble_eq_true rfl, Nat.le_of_ble_eq_true rfl⟩ ⟨_, rfl⟩ (fun r h => ct_X7_ownLast _ _ fu M x6 x8 a2 r h) rfl rfl (Nat.le_of_ble_eq_true rfl) dX9_out_45 gz_00 hF (fun x10 hF => ?_)
      refine gz_iconst 48 hC (-1 : Int32) dX9_out_48 gz_km1 ?_
      refine gz_join (fun (j : Int32 → Option (Int32 × gz_M)) => ∀ (x11 : Int32), j x11 = some y → gz_go C 0 0 M [(2, .int a2), (3, .ref x6), (4, .int x11), (5, .int x8)] 61 []) hF (fun x11 hF => ?_) (fun j61 hj61 hF => ?_)
      · skip
        refine gz_iinc 61 hC (x8 + (1 : Int32)) 3 [(5, .int (x8 + (1 : Int32))), (2, .int a2), (3, .ref x6), (4, .int x11)] dX9_out_61 rfl rfl (by decide) rfl ?_
        refine gz_goto 64 32 hC dX9_out_64 (by decide) ?_
        refine gz_sub [1, 2, 3, 0] [(2, .int a2), (3, .ref x6), (4, .int x11), (5, .int (x8 + (1 : Int32)))] rfl ?_
        exact ih32 _ _ hF
      refine gz_icmp_ne 49 61 hC dX9_out_49 (by decide) hF (fun hF => ?_) (fun hF => ?_)
      · skip
        exact hj61 _ hF
      · skip
        refine gz_iload 52 hC 2 dX9_out_52 rfl ?_
        refine gz_iconst 54 hC (1 : Int32) dX9_out_54 gz_k1 ?_
        refine gz_iload 55 hC 3 dX9_out_55 rfl ?_
        refine gz_ishl 57 hC dX9_out_57 ?_
        refine gz_ior 58 hC dX9_out_58 ?_
        refine gz_istore 59 hC [(4, .int (x7 ||| ((1 : Int32) <<< (x8 &&& 31)))), (2, .int a2), (3, .ref x6), (5, .int x8)] dX9_out_59 (by decide) rfl ?_
        refine gz_sub [1, 2, 0, 3] [(2, .int a2), (3, .ref x6), (4, .int (x7 ||| ((1 : Int32) <<< (x8 &&& 31)))), (5, .int x8)] rfl ?_
        exact hj61 _ hF
set_option maxHeartbeats 4000000 in
theorem ct_X9_out (l : Launch) (G : gz_G) (fu : Nat) (M : gz_M) (a0 : Nat) (a1 : Int32) (a2 : Int32) (y : Int32 × gz_M) (hF : f_X9_out fu M a0 a1 a2 = some y) : gz_ct l yX9_out cX9_out 6 (some .int) 5 124 0 0 G [.ref a0, .int a1, .int a2] M (some (.int y.1)) y.2 := by
  refine gz_ct.of (by decide) (Nat.le_of_ble_eq_true rfl) (fun C hC hX => ?_)
  unfold f_X9_out at hF
  obtain ⟨-, hF⟩ := gz_gd_some hF
  show gz_go C 0 0 M [(0, .ref a0), (1, .int a1), (2, .int a2)] 0 []
  refine gz_aload_n 0 hC 0 dX9_out_0 rfl rfl ?_
  refine gz_iload_n 1 hC 1 dX9_out_1 rfl rfl ?_
  refine gz_iload_n 2 hC 2 dX9_out_2 rfl rfl ?_
  refine gz_cvP (st := []) 3 hC hX [.int a1, .int a2] Value.int yl_X9_isSet yv_X9_isSet q_771 ⟨Nat.le_of_ble_eq_true rfl, Nat.le_of_ble_eq_true rfl⟩ ⟨_, rfl⟩ (fun r h => ct_X9_isSet _ _ fu M a0 a1 a2 r h) rfl rfl (Nat.le_of_ble_eq_true rfl) dX9_out_3 gz_00 hF (fun x1 hF => ?_)
  refine gz_if_ne 6 16 hC dX9_out_6 (by decide) hF (fun hF => ?_) (fun hF => ?_)
  · skip
    refine gz_aload_n 16 hC 0 dX9_out_16 rfl rfl ?_
    refine gz_getR 17 hC fl_X9_34 fk_9_3 dX9_out_17 hF (fun x4 hF => ?_)
    refine gz_getR 20 hC fl_X9_147 fk_8_0 dX9_out_20 hF (fun x5 hF => ?_)
    refine gz_iload_n 23 hC 1 dX9_out_23 rfl rfl ?_
    refine gz_aald 24 hC dX9_out_24 hF (fun x6 hF => ?_)
    refine gz_astore_n 25 hC [(3, .ref x6), (0, .ref a0), (1, .int a1), (2, .int a2)] dX9_out_25 rfl (by decide) rfl ?_
    refine gz_iconst 26 hC (0 : Int32) dX9_out_26 gz_k0 ?_
    refine gz_istore 27 hC [(4, .int (0 : Int32)), (3, .ref x6), (0, .ref a0), (1, .int a1), (2, .int a2)] dX9_out_27 (by decide) rfl ?_
    refine gz_iconst 29 hC (0 : Int32) dX9_out_29 gz_k0 ?_
    refine gz_istore 30 hC [(5, .int (0 : Int32)), (4, .int (0 : Int32)), (3, .ref x6), (0, .ref a0), (1, .int a1), (2, .int a2)] dX9_out_30 (by decide) rfl ?_
    refine gz_sub [5, 2, 1, 0] [(2, .int a2), (3, .ref x6), (4, .int (0 : Int32)), (5, .int (0 : Int32))] rfl ?_
    refine w_X9_out_32 hC hX ?_ _ _ _ hF
    intro x12 hF
    refine gz_iload 67 hC 0 dX9_out_67 rfl ?_
    exact gz_iretM 69 hC hX dX9_out_69 hF
  · skip
    refine gz_aload_n 9 hC 0 dX9_out_9 rfl rfl ?_
    refine gz_bipush 10 hC (-2 : Int32) dX9_out_10 gz_bm2 ?_
    refine gz_cvM (st := []) 12 hC hX [.int (-2 : Int32)] Value.int yl_X9_refuse yv_X9_refuse q_417 ⟨Nat.le_of_ble_eq_true rfl, Nat.le_of_ble_eq_true rfl⟩ ⟨_, rfl⟩ (fun r h => ct_X9_refuse _ _ fu M a0 (-2 : Int32) r h) rfl rfl (Nat.le_of_ble_eq_true rfl) dX9_out_12 gz_00 hF (fun x2 M3 hF => ?_)
    exact gz_iretM 15 hC hX dX9_out_15 hF

theorem dX9_judge_0 : decode cX9_judge 0 = .ok (.aload_n 0, 1) := by decide +kernel
theorem dX9_judge_1 : decode cX9_judge 1 = .ok (.iload_n 1, 1) := by decide +kernel
theorem dX9_judge_2 : decode cX9_judge 2 = .ok (.iload_n 2, 1) := by decide +kernel
theorem dX9_judge_3 : decode cX9_judge 3 = .ok (.invokevirtual 232, 3) := by decide +kernel
theorem dX9_judge_6 : decode cX9_judge 6 = .ok (.ifCond .eq 10, 3) := by decide +kernel
theorem dX9_judge_9 : decode cX9_judge 9 = .ok (.iload_n 3, 1) := by decide +kernel
theorem dX9_judge_10 : decode cX9_judge 10 = .ok (.invokestatic 71, 3) := by decide +kernel
theorem dX9_judge_13 : decode cX9_judge 13 = .ok (.ifCond .ne 10, 3) := by decide +kernel
theorem dX9_judge_16 : decode cX9_judge 16 = .ok (.aload_n 0, 1) := by decide +kernel
theorem dX9_judge_17 : decode cX9_judge 17 = .ok (.bipush (-2), 2) := by decide +kernel
theorem dX9_judge_19 : decode cX9_judge 19 = .ok (.invokevirtual 79, 3) := by decide +kernel
theorem dX9_judge_22 : decode cX9_judge 22 = .ok (.ireturn, 1) := by decide +kernel
theorem dX9_judge_23 : decode cX9_judge 23 = .ok (.aload_n 0, 1) := by decide +kernel
theorem dX9_judge_24 : decode cX9_judge 24 = .ok (.getfield 27, 3) := by decide +kernel
theorem dX9_judge_27 : decode cX9_judge 27 = .ok (.iload_n 3, 1) := by decide +kernel
theorem dX9_judge_28 : decode cX9_judge 28 = .ok (.aaload, 1) := by decide +kernel
theorem dX9_judge_29 : decode cX9_judge 29 = .ok (.astore 4, 2) := by decide +kernel
theorem dX9_judge_31 : decode cX9_judge 31 = .ok (.aload 4, 2) := by decide +kernel
theorem dX9_judge_33 : decode cX9_judge 33 = .ok (.invokevirtual 87, 3) := by decide +kernel
theorem dX9_judge_36 : decode cX9_judge 36 = .ok (.ifCond .eq 13, 3) := by decide +kernel
theorem dX9_judge_39 : decode cX9_judge 39 = .ok (.aload_n 0, 1) := by decide +kernel
theorem dX9_judge_40 : decode cX9_judge 40 = .ok (.aload 4, 2) := by decide +kernel
theorem dX9_judge_42 : decode cX9_judge 42 = .ok (.invokevirtual 87, 3) := by decide +kernel
theorem dX9_judge_45 : decode cX9_judge 45 = .ok (.invokevirtual 79, 3) := by decide +kernel
theorem dX9_judge_48 : decode cX9_judge 48 = .ok (.ireturn, 1) := by decide +kernel
theorem dX9_judge_49 : decode cX9_judge 49 = .ok (.aload_n 0, 1) := by decide +kernel
theorem dX9_judge_50 : decode cX9_judge 50 = .ok (.getfield 34, 3) := by decide +kernel
theorem dX9_judge_53 : decode cX9_judge 53 = .ok (.getfield 147, 3) := by decide +kernel
theorem dX9_judge_56 : decode cX9_judge 56 = .ok (.iload_n 1, 1) := by decide +kernel
theorem dX9_judge_57 : decode cX9_judge 57 = .ok (.aaload, 1) := by decide +kernel
theorem dX9_judge_58 : decode cX9_judge 58 = .ok (.astore 5, 2) := by decide +kernel
theorem dX9_judge_60 : decode cX9_judge 60 = .ok (.iconst 0, 1) := by decide +kernel
theorem dX9_judge_61 : decode cX9_judge 61 = .ok (.istore 6, 2) := by decide +kernel
theorem dX9_judge_63 : decode cX9_judge 63 = .ok (.iload 6, 2) := by decide +kernel
theorem dX9_judge_65 : decode cX9_judge 65 = .ok (.aload 5, 2) := by decide +kernel
theorem dX9_judge_67 : decode cX9_judge 67 = .ok (.getfield 162, 3) := by decide +kernel
theorem dX9_judge_70 : decode cX9_judge 70 = .ok (.if_icmp .ge 35, 3) := by decide +kernel
theorem dX9_judge_73 : decode cX9_judge 73 = .ok (.aload 4, 2) := by decide +kernel
theorem dX9_judge_75 : decode cX9_judge 75 = .ok (.iload 6, 2) := by decide +kernel
theorem dX9_judge_77 : decode cX9_judge 77 = .ok (.aload 5, 2) := by decide +kernel
theorem dX9_judge_79 : decode cX9_judge 79 = .ok (.getfield 178, 3) := by decide +kernel
theorem dX9_judge_82 : decode cX9_judge 82 = .ok (.invokevirtual 248, 3) := by decide +kernel
theorem dX9_judge_85 : decode cX9_judge 85 = .ok (.aload 5, 2) := by decide +kernel
theorem dX9_judge_87 : decode cX9_judge 87 = .ok (.iload 6, 2) := by decide +kernel
theorem dX9_judge_89 : decode cX9_judge 89 = .ok (.iload_n 2, 1) := by decide +kernel
theorem dX9_judge_90 : decode cX9_judge 90 = .ok (.invokevirtual 235, 3) := by decide +kernel
theorem dX9_judge_93 : decode cX9_judge 93 = .ok (.if_icmp .eq 6, 3) := by decide +kernel
theorem dX9_judge_96 : decode cX9_judge 96 = .ok (.iload 6, 2) := by decide +kernel
theorem dX9_judge_98 : decode cX9_judge 98 = .ok (.ireturn, 1) := by decide +kernel
theorem dX9_judge_99 : decode cX9_judge 99 = .ok (.iinc 6 1, 3) := by decide +kernel
theorem dX9_judge_102 : decode cX9_judge 102 = .ok (.goto (-39), 3) := by decide +kernel
theorem dX9_judge_105 : decode cX9_judge 105 = .ok (.iconst (-1), 1) := by decide +kernel
theorem dX9_judge_106 : decode cX9_judge 106 = .ok (.ireturn, 1) := by decide +kernel
def lp_X9_judge_63 (j105 : Option (Int32 × gz_M)) (fu : Nat) (M : gz_M) (a2 : Int32) (x4 : Nat) (x11 : Nat) : Nat → Int32 → Option (Int32 × gz_M)
  | 0, _ => none
  | n63 + 1, x12 =>
    (gz_gI M 7 4 x11).bind fun x13 =>
    if x13 ≤ x12 then
      j105
    else
      (gz_gI M 7 5 x11).bind fun x14 =>
      (f_X4_toldLast fu M x4 x12 x14).bind fun x15 =>
      (f_X7_ownLast fu M x11 x12 a2).bind fun x16 =>
      if x15 = x16 then
        lp_X9_judge_63 j105 fu M a2 x4 x11 n63 (x12 + (1 : Int32))
      else
        some (x12, M)
def f_X9_judge (fu : Nat) (M : gz_M) (a0 : Nat) (a1 : Int32) (a2 : Int32) (a3 : Int32) : Option (Int32 × gz_M) :=
  gz_gd M 9 a0 <|
  (f_X9_isSet fu M a0 a1 a2).bind fun x1 =>
  gz_jn (gz_b2 (f_X9_refuse fu M a0 (-2 : Int32)) fun x17 M18 =>
    some (x17, M18)) fun j16 =>
  if x1 = 0 then
    j16
  else
    (f_X9_isShelf fu M a3).bind fun x2 =>
    if x2 = 0 then
      j16
    else
      (gz_gR M 9 2 a0).bind fun x3 =>
      (gz_aR M x3 a3).bind fun x4 =>
      (f_X4_rowRefusal fu M x4).bind fun x5 =>
      if x5 = 0 then
        (gz_gR M 9 3 a0).bind fun x9 =>
        (gz_gR M 8 0 x9).bind fun x10 =>
        (gz_aR M x10 a1).bind fun x11 =>
        lp_X9_judge_63 (some ((-1 : Int32), M)) fu M a2 x4 x11 fu (0 : Int32)
      else
        (f_X4_rowRefusal fu M x4).bind fun x6 =>
        gz_b2 (f_X9_refuse fu M a0 x6) fun x7 M8 =>
        some (x7, M8)
set_option maxHeartbeats 4000000 in
theorem w_X9_judge_63 {C : gz_C} {y : Int32 × gz_M} {fu : Nat} {M : gz_M} {a2 : Int32} {x4 : Nat} {x11 : Nat} {j105 : Option (Int32 × gz_M)} (hC : gz_ok C cX9_judge RX9 7) (hX : gz_cx C 5 124 0 0 (some .int) (some (.int y.1)) y.2 "judge") (hj105 : j105 = some y → gz_go C 0 0 M [] 105 []) : ∀ (n : Nat) (x12 : Int32), lp_X9_judge_63 j105 fu M a2 x4 x11 n x12 = some y → gz_go C 0 0 M [(2, .int a2), (4, .ref x4), (5, .ref x11), (6, .int x12)] 63 [] := by
  intro n
  induction n with
  | zero => intro x12 hF; exact nomatch (show (none : Option (Int32 × gz_M)) = some y from hF)
  | succ n63 ih63 =>
    intro x12 hF
    rw [lp_X9_judge_63.eq_2] at hF
    refine gz_iload 63 hC 3 dX9_judge_63 rfl ?_
    refine gz_aload 65 hC 2 dX9_judge_65 rfl ?_
    refine gz_getI 67 hC fl_X9_162 fk_7_4 dX9_judge_67 hF (fun x13 hF => ?_)
    refine gz_icmp_ge 70 105 hC dX9_judge_70 (by decide) hF (fun hF => ?_) (fun hF => ?_)
    · skip
      refine gz_sub [] [] rfl ?_
      exact hj105 hF
    · skip
      refine gz_aload 73 hC 1 dX9_judge_73 rfl ?_
      refine gz_iload 75 hC 3 dX9_judge_75 rfl ?_
      refine gz_aload 77 hC 2 dX9_judge_77 rfl ?_
      refine gz_getI 79 hC fl_X9_178 fk_7_5 dX9_judge_79 hF (fun x14 hF => ?_)
      refine gz_cvP (st := []) 82 hC hX [.int x12, .int x14] Value.int yl_X4_toldLast yv_X4_toldLast q_809 ⟨Nat.le_of_ble_eq_true rfl, Nat.le_of_ble_eq_true rfl⟩ ⟨_, rfl⟩ (fun r h => ct_X4_toldLast _ _ fu M x4 x12 x14 r h) rfl rfl (Nat.le_of_ble_eq_true rfl) dX9_judge_82 gz_00 hF (fun x15 hF => ?_)
      refine gz_aload 85 hC 2 dX9_judge_85 rfl ?_
      refine gz_iload 87 hC 3 dX9_judge_87 rfl ?_
      refine gz_iload_n 89 hC 0 dX9_judge_89 rfl rfl ?_
      refine gz_cvP (st := [.int x15]) 90 hC hX [.int x12, .int a2] Value.int yl_X7_ownLast yv_X7_ownLast q_779 ⟨Nat.le_of_ble_eq_true rfl, Nat.le_of_ble_eq_true rfl⟩ ⟨_, rfl⟩ (fun r h => ct_X7_ownLast _ _ fu M x11 x12 a2 r h) rfl rfl (Nat.le_of_ble_eq_true rfl) dX9_judge_90 gz_00 hF (fun x16 hF => ?_)
      refine gz_icmp_eq 93 99 hC dX9_judge_93 (by decide) hF (fun hF => ?_) (fun hF => ?_)
      · skip
        refine gz_iinc 99 hC (x12 + (1 : Int32)) 3 [(6, .int (x12 + (1 : Int32))), (2, .int a2), (4, .ref x4), (5, .ref x11)] dX9_judge_99 rfl rfl (by decide) rfl ?_
        refine gz_goto 102 63 hC dX9_judge_102 (by decide) ?_
        refine gz_sub [1, 2, 3, 0] [(2, .int a2), (4, .ref x4), (5, .ref x11), (6, .int (x12 + (1 : Int32)))] rfl ?_
        exact ih63 _ hF
      · skip
        refine gz_iload 96 hC 3 dX9_judge_96 rfl ?_
        exact gz_iretM 98 hC hX dX9_judge_98 hF
set_option maxHeartbeats 4000000 in
theorem ct_X9_judge (l : Launch) (G : gz_G) (fu : Nat) (M : gz_M) (a0 : Nat) (a1 : Int32) (a2 : Int32) (a3 : Int32) (y : Int32 × gz_M) (hF : f_X9_judge fu M a0 a1 a2 a3 = some y) : gz_ct l yX9_judge cX9_judge 7 (some .int) 5 124 0 0 G [.ref a0, .int a1, .int a2, .int a3] M (some (.int y.1)) y.2 := by
  refine gz_ct.of (by decide) (Nat.le_of_ble_eq_true rfl) (fun C hC hX => ?_)
  unfold f_X9_judge at hF
  obtain ⟨-, hF⟩ := gz_gd_some hF
  show gz_go C 0 0 M [(0, .ref a0), (1, .int a1), (2, .int a2), (3, .int a3)] 0 []
  refine gz_aload_n 0 hC 0 dX9_judge_0 rfl rfl ?_
  refine gz_iload_n 1 hC 1 dX9_judge_1 rfl rfl ?_
  refine gz_iload_n 2 hC 2 dX9_judge_2 rfl rfl ?_
  refine gz_cvP (st := []) 3 hC hX [.int a1, .int a2] Value.int yl_X9_isSet yv_X9_isSet q_771 ⟨Nat.le_of_ble_eq_true rfl, Nat.le_of_ble_eq_true rfl⟩ ⟨_, rfl⟩ (fun r h => ct_X9_isSet _ _ fu M a0 a1 a2 r h) rfl rfl (Nat.le_of_ble_eq_true rfl) dX9_judge_3 gz_00 hF (fun x1 hF => ?_)
  refine gz_join (fun (j : Option (Int32 × gz_M)) => j = some y → gz_go C 0 0 M [(0, .ref a0)] 16 []) hF (fun hF => ?_) (fun j16 hj16 hF => ?_)
  · skip
    refine gz_aload_n 16 hC 0 dX9_judge_16 rfl rfl ?_
    refine gz_bipush 17 hC (-2 : Int32) dX9_judge_17 gz_bm2 ?_
    refine gz_cvM (st := []) 19 hC hX [.int (-2 : Int32)] Value.int yl_X9_refuse yv_X9_refuse q_417 ⟨Nat.le_of_ble_eq_true rfl, Nat.le_of_ble_eq_true rfl⟩ ⟨_, rfl⟩ (fun r h => ct_X9_refuse _ _ fu M a0 (-2 : Int32) r h) rfl rfl (Nat.le_of_ble_eq_true rfl) dX9_judge_19 gz_00 hF (fun x17 M18 hF => ?_)
    exact gz_iretM 22 hC hX dX9_judge_22 hF
  refine gz_if_eq 6 16 hC dX9_judge_6 (by decide) hF (fun hF => ?_) (fun hF => ?_)
  · skip
    refine gz_sub [0] [(0, .ref a0)] rfl ?_
    exact hj16 hF
  · skip
    refine gz_iload_n 9 hC 3 dX9_judge_9 rfl rfl ?_
    refine gz_csP (st := []) 10 hC hX [.int a3] Value.int yl_X9_isShelf yv_X9_isShelf q_411 ⟨Nat.le_of_ble_eq_true rfl, Nat.le_of_ble_eq_true rfl⟩ (fun r h => ct_X9_isShelf _ _ fu M a3 r h) rfl rfl (Nat.le_of_ble_eq_true rfl) dX9_judge_10 gz_00 hF (fun x2 hF => ?_)
    refine gz_if_ne 13 23 hC dX9_judge_13 (by decide) hF (fun hF => ?_) (fun hF => ?_)
    · skip
      refine gz_aload_n 23 hC 0 dX9_judge_23 rfl rfl ?_
      refine gz_getR 24 hC fl_X9_27 fk_9_2 dX9_judge_24 hF (fun x3 hF => ?_)
      refine gz_iload_n 27 hC 3 dX9_judge_27 rfl rfl ?_
      refine gz_aald 28 hC dX9_judge_28 hF (fun x4 hF => ?_)
      refine gz_astore 29 hC [(4, .ref x4), (0, .ref a0), (1, .int a1), (2, .int a2), (3, .int a3)] dX9_judge_29 (by decide) rfl ?_
      refine gz_aload 31 hC 0 dX9_judge_31 rfl ?_
      refine gz_cvP (st := []) 33 hC hX [] Value.int yl_X4_rowRefusal yv_X4_rowRefusal q_432 ⟨Nat.le_of_ble_eq_true rfl, Nat.le_of_ble_eq_true rfl⟩ ⟨_, rfl⟩ (fun r h => ct_X4_rowRefusal _ _ fu M x4 r h) rfl rfl (Nat.le_of_ble_eq_true rfl) dX9_judge_33 gz_00 hF (fun x5 hF => ?_)
      refine gz_if_eq 36 49 hC dX9_judge_36 (by decide) hF (fun hF => ?_) (fun hF => ?_)
      · skip
        refine gz_aload_n 49 hC 1 dX9_judge_49 rfl rfl ?_
        refine gz_getR 50 hC fl_X9_34 fk_9_3 dX9_judge_50 hF (fun x9 hF => ?_)
        refine gz_getR 53 hC fl_X9_147 fk_8_0 dX9_judge_53 hF (fun x10 hF => ?_)
        refine gz_iload_n 56 hC 2 dX9_judge_56 rfl rfl ?_
        refine gz_aald 57 hC dX9_judge_57 hF (fun x11 hF => ?_)
        refine gz_astore 58 hC [(5, .ref x11), (4, .ref x4), (0, .ref a0), (1, .int a1), (2, .int a2), (3, .int a3)] dX9_judge_58 (by decide) rfl ?_
        refine gz_iconst 60 hC (0 : Int32) dX9_judge_60 gz_k0 ?_
        refine gz_istore 61 hC [(6, .int (0 : Int32)), (5, .ref x11), (4, .ref x4), (0, .ref a0), (1, .int a1), (2, .int a2), (3, .int a3)] dX9_judge_61 (by decide) rfl ?_
        refine gz_sub [5, 2, 1, 0] [(2, .int a2), (4, .ref x4), (5, .ref x11), (6, .int (0 : Int32))] rfl ?_
        refine w_X9_judge_63 hC hX ?_ _ _ hF
        intro hF
        refine gz_iconst 105 hC (-1 : Int32) dX9_judge_105 gz_km1 ?_
        exact gz_iretM 106 hC hX dX9_judge_106 hF
      · skip
        refine gz_aload_n 39 hC 1 dX9_judge_39 rfl rfl ?_
        refine gz_aload 40 hC 0 dX9_judge_40 rfl ?_
        refine gz_cvP (st := [.ref a0]) 42 hC hX [] Value.int yl_X4_rowRefusal yv_X4_rowRefusal q_432 ⟨Nat.le_of_ble_eq_true rfl, Nat.le_of_ble_eq_true rfl⟩ ⟨_, rfl⟩ (fun r h => ct_X4_rowRefusal _ _ fu M x4 r h) rfl rfl (Nat.le_of_ble_eq_true rfl) dX9_judge_42 gz_00 hF (fun x6 hF => ?_)
        refine gz_cvM (st := []) 45 hC hX [.int x6] Value.int yl_X9_refuse yv_X9_refuse q_417 ⟨Nat.le_of_ble_eq_true rfl, Nat.le_of_ble_eq_true rfl⟩ ⟨_, rfl⟩ (fun r h => ct_X9_refuse _ _ fu M a0 x6 r h) rfl rfl (Nat.le_of_ble_eq_true rfl) dX9_judge_45 gz_00 hF (fun x7 M8 hF => ?_)
        exact gz_iretM 48 hC hX dX9_judge_48 hF
    · skip
      refine gz_sub [0] [(0, .ref a0)] rfl ?_
      exact hj16 hF

theorem dX9_isCount_0 : decode cX9_isCount 0 = .ok (.iload_n 0, 1) := by decide +kernel
theorem dX9_isCount_1 : decode cX9_isCount 1 = .ok (.iconst 0, 1) := by decide +kernel
theorem dX9_isCount_2 : decode cX9_isCount 2 = .ok (.bipush 10, 2) := by decide +kernel
theorem dX9_isCount_4 : decode cX9_isCount 4 = .ok (.invokestatic 75, 3) := by decide +kernel
theorem dX9_isCount_7 : decode cX9_isCount 7 = .ok (.ireturn, 1) := by decide +kernel

def f_X9_isCount (fu : Nat) (M : gz_M) (a0 : Int32) : Option (Int32) :=
  (f_X9_isWithin fu M a0 (0 : Int32) (10 : Int32)).bind fun x1 =>
  gz_z x1 (some x1)

set_option maxHeartbeats 4000000 in
theorem ct_X9_isCount (l : Launch) (G : gz_G) (fu : Nat) (M : gz_M) (a0 : Int32) (y : Int32) (hF : f_X9_isCount fu M a0 = some y) : gz_ct l yX9_isCount cX9_isCount 1 (some .boolean) 1 22 0 0 G [.int a0] M (some (.int y)) M := by
  refine gz_ct.of (by decide) (Nat.le_of_ble_eq_true rfl) (fun C hC hX => ?_)
  unfold f_X9_isCount at hF
  show gz_go C 0 0 M [(0, .int a0)] 0 []
  refine gz_iload_n 0 hC 0 dX9_isCount_0 rfl rfl ?_
  refine gz_iconst 1 hC (0 : Int32) dX9_isCount_1 gz_k0 ?_
  refine gz_bipush 2 hC (10 : Int32) dX9_isCount_2 gz_b10 ?_
  refine gz_csP (st := []) 4 hC hX [.int a0, .int (0 : Int32), .int (10 : Int32)] Value.int yl_X9_isWithin yv_X9_isWithin q_414 ⟨Nat.le_of_ble_eq_true rfl, Nat.le_of_ble_eq_true rfl⟩ (fun r h => ct_X9_isWithin _ _ fu M a0 (0 : Int32) (10 : Int32) r h) rfl rfl (Nat.le_of_ble_eq_true rfl) dX9_isCount_4 gz_00 hF (fun x1 hF => ?_)
  exact gz_zretP 7 hC hX dX9_isCount_7 hF

theorem dX9_best_0 : decode cX9_best 0 = .ok (.aload_n 0, 1) := by decide +kernel
theorem dX9_best_1 : decode cX9_best 1 = .ok (.iload_n 1, 1) := by decide +kernel
theorem dX9_best_2 : decode cX9_best 2 = .ok (.invokevirtual 159, 3) := by decide +kernel
theorem dX9_best_5 : decode cX9_best 5 = .ok (.ifCond .eq 10, 3) := by decide +kernel
theorem dX9_best_8 : decode cX9_best 8 = .ok (.iload_n 2, 1) := by decide +kernel
theorem dX9_best_9 : decode cX9_best 9 = .ok (.invokestatic 251, 3) := by decide +kernel
theorem dX9_best_12 : decode cX9_best 12 = .ok (.ifCond .ne 10, 3) := by decide +kernel
theorem dX9_best_15 : decode cX9_best 15 = .ok (.aload_n 0, 1) := by decide +kernel
theorem dX9_best_16 : decode cX9_best 16 = .ok (.bipush (-2), 2) := by decide +kernel
theorem dX9_best_18 : decode cX9_best 18 = .ok (.invokevirtual 79, 3) := by decide +kernel
theorem dX9_best_21 : decode cX9_best 21 = .ok (.ireturn, 1) := by decide +kernel
theorem dX9_best_22 : decode cX9_best 22 = .ok (.aload_n 0, 1) := by decide +kernel
theorem dX9_best_23 : decode cX9_best 23 = .ok (.getfield 52, 3) := by decide +kernel
theorem dX9_best_26 : decode cX9_best 26 = .ok (.aload_n 0, 1) := by decide +kernel
theorem dX9_best_27 : decode cX9_best 27 = .ok (.getfield 34, 3) := by decide +kernel
theorem dX9_best_30 : decode cX9_best 30 = .ok (.getfield 147, 3) := by decide +kernel
theorem dX9_best_33 : decode cX9_best 33 = .ok (.iload_n 1, 1) := by decide +kernel
theorem dX9_best_34 : decode cX9_best 34 = .ok (.aaload, 1) := by decide +kernel
theorem dX9_best_35 : decode cX9_best 35 = .ok (.invokevirtual 254, 3) := by decide +kernel
theorem dX9_best_38 : decode cX9_best 38 = .ok (.aload_n 0, 1) := by decide +kernel
theorem dX9_best_39 : decode cX9_best 39 = .ok (.getfield 52, 3) := by decide +kernel
theorem dX9_best_42 : decode cX9_best 42 = .ok (.iload_n 2, 1) := by decide +kernel
theorem dX9_best_43 : decode cX9_best 43 = .ok (.invokevirtual 258, 3) := by decide +kernel
theorem dX9_best_46 : decode cX9_best 46 = .ok (.ireturn, 1) := by decide +kernel

def f_X9_best (fu : Nat) (M : gz_M) (a0 : Nat) (a1 : Int32) (a2 : Int32) : Option (Int32 × gz_M) :=
  gz_gd M 9 a0 <|
  (f_X9_isValley fu M a0 a1).bind fun x1 =>
  gz_jn (gz_b2 (f_X9_refuse fu M a0 (-2 : Int32)) fun x10 M11 =>
    some (x10, M11)) fun j15 =>
  if x1 = 0 then
    j15
  else
    (f_X9_isCount fu M a2).bind fun x2 =>
    if x2 = 0 then
      j15
    else
      (gz_gR M 9 7 a0).bind fun x3 =>
      (gz_gR M 9 3 a0).bind fun x4 =>
      (gz_gR M 8 0 x4).bind fun x5 =>
      (gz_aR M x5 a1).bind fun x6 =>
      (f_X3_fillFor fu M x3 x6).bind fun M7 =>
      (gz_gR M7 9 7 a0).bind fun x8 =>
      (f_X3_leastTotal fu M7 x8 a2).bind fun x9 =>
      some (x9, M7)

set_option maxHeartbeats 4000000 in
theorem ct_X9_best (l : Launch) (G : gz_G) (fu : Nat) (M : gz_M) (a0 : Nat) (a1 : Int32) (a2 : Int32) (y : Int32 × gz_M) (hF : f_X9_best fu M a0 a1 a2 = some y) : gz_ct l yX9_best cX9_best 3 (some .int) 6 147 0 0 G [.ref a0, .int a1, .int a2] M (some (.int y.1)) y.2 := by
  refine gz_ct.of (by decide) (Nat.le_of_ble_eq_true rfl) (fun C hC hX => ?_)
  unfold f_X9_best at hF
  obtain ⟨-, hF⟩ := gz_gd_some hF
  show gz_go C 0 0 M [(0, .ref a0), (1, .int a1), (2, .int a2)] 0 []
  refine gz_aload_n 0 hC 0 dX9_best_0 rfl rfl ?_
  refine gz_iload_n 1 hC 1 dX9_best_1 rfl rfl ?_
  refine gz_cvP (st := []) 2 hC hX [.int a1] Value.int yl_X9_isValley yv_X9_isValley q_509 ⟨Nat.le_of_ble_eq_true rfl, Nat.le_of_ble_eq_true rfl⟩ ⟨_, rfl⟩ (fun r h => ct_X9_isValley _ _ fu M a0 a1 r h) rfl rfl (Nat.le_of_ble_eq_true rfl) dX9_best_2 gz_00 hF (fun x1 hF => ?_)
  refine gz_join (fun (j : Option (Int32 × gz_M)) => j = some y → gz_go C 0 0 M [(0, .ref a0)] 15 []) hF (fun hF => ?_) (fun j15 hj15 hF => ?_)
  · skip
    refine gz_aload_n 15 hC 0 dX9_best_15 rfl rfl ?_
    refine gz_bipush 16 hC (-2 : Int32) dX9_best_16 gz_bm2 ?_
    refine gz_cvM (st := []) 18 hC hX [.int (-2 : Int32)] Value.int yl_X9_refuse yv_X9_refuse q_417 ⟨Nat.le_of_ble_eq_true rfl, Nat.le_of_ble_eq_true rfl⟩ ⟨_, rfl⟩ (fun r h => ct_X9_refuse _ _ fu M a0 (-2 : Int32) r h) rfl rfl (Nat.le_of_ble_eq_true rfl) dX9_best_18 gz_00 hF (fun x10 M11 hF => ?_)
    exact gz_iretM 21 hC hX dX9_best_21 hF
  refine gz_if_eq 5 15 hC dX9_best_5 (by decide) hF (fun hF => ?_) (fun hF => ?_)
  · skip
    refine gz_sub [0] [(0, .ref a0)] rfl ?_
    exact hj15 hF
  · skip
    refine gz_iload_n 8 hC 2 dX9_best_8 rfl rfl ?_
    refine gz_csP (st := []) 9 hC hX [.int a2] Value.int yl_X9_isCount yv_X9_isCount q_817 ⟨Nat.le_of_ble_eq_true rfl, Nat.le_of_ble_eq_true rfl⟩ (fun r h => ct_X9_isCount _ _ fu M a2 r h) rfl rfl (Nat.le_of_ble_eq_true rfl) dX9_best_9 gz_00 hF (fun x2 hF => ?_)
    refine gz_if_ne 12 22 hC dX9_best_12 (by decide) hF (fun hF => ?_) (fun hF => ?_)
    · skip
      refine gz_aload_n 22 hC 0 dX9_best_22 rfl rfl ?_
      refine gz_getR 23 hC fl_X9_52 fk_9_7 dX9_best_23 hF (fun x3 hF => ?_)
      refine gz_aload_n 26 hC 0 dX9_best_26 rfl rfl ?_
      refine gz_getR 27 hC fl_X9_34 fk_9_3 dX9_best_27 hF (fun x4 hF => ?_)
      refine gz_getR 30 hC fl_X9_147 fk_8_0 dX9_best_30 hF (fun x5 hF => ?_)
      refine gz_iload_n 33 hC 1 dX9_best_33 rfl rfl ?_
      refine gz_aald 34 hC dX9_best_34 hF (fun x6 hF => ?_)
      refine gz_cvV (st := []) 35 hC hX [.ref x6] yl_X3_fillFor yv_X3_fillFor q_820 ⟨Nat.le_of_ble_eq_true rfl, Nat.le_of_ble_eq_true rfl⟩ ⟨_, rfl⟩ (fun r h => ct_X3_fillFor _ _ fu M x3 x6 r h) rfl rfl (Nat.le_of_ble_eq_true rfl) dX9_best_35 gz_00 hF (fun M7 hF => ?_)
      refine gz_aload_n 38 hC 0 dX9_best_38 rfl rfl ?_
      refine gz_getR 39 hC fl_X9_52 fk_9_7 dX9_best_39 hF (fun x8 hF => ?_)
      refine gz_iload_n 42 hC 2 dX9_best_42 rfl rfl ?_
      refine gz_cvP (st := []) 43 hC hX [.int a2] Value.int yl_X3_leastTotal yv_X3_leastTotal q_851 ⟨Nat.le_of_ble_eq_true rfl, Nat.le_of_ble_eq_true rfl⟩ ⟨_, rfl⟩ (fun r h => ct_X3_leastTotal _ _ fu M7 x8 a2 r h) rfl rfl (Nat.le_of_ble_eq_true rfl) dX9_best_43 gz_00 hF (fun x9 hF => ?_)
      exact gz_iretM 46 hC hX dX9_best_46 hF
    · skip
      refine gz_sub [0] [(0, .ref a0)] rfl ?_
      exact hj15 hF

theorem dX9_more_0 : decode cX9_more 0 = .ok (.aload_n 0, 1) := by decide +kernel
theorem dX9_more_1 : decode cX9_more 1 = .ok (.iload_n 1, 1) := by decide +kernel
theorem dX9_more_2 : decode cX9_more 2 = .ok (.invokevirtual 159, 3) := by decide +kernel
theorem dX9_more_5 : decode cX9_more 5 = .ok (.ifCond .eq 13, 3) := by decide +kernel
theorem dX9_more_8 : decode cX9_more 8 = .ok (.iload_n 2, 1) := by decide +kernel
theorem dX9_more_9 : decode cX9_more 9 = .ok (.iconst 0, 1) := by decide +kernel
theorem dX9_more_10 : decode cX9_more 10 = .ok (.bipush 9, 2) := by decide +kernel
theorem dX9_more_12 : decode cX9_more 12 = .ok (.invokestatic 75, 3) := by decide +kernel
theorem dX9_more_15 : decode cX9_more 15 = .ok (.ifCond .ne 10, 3) := by decide +kernel
theorem dX9_more_18 : decode cX9_more 18 = .ok (.aload_n 0, 1) := by decide +kernel
theorem dX9_more_19 : decode cX9_more 19 = .ok (.bipush (-2), 2) := by decide +kernel
theorem dX9_more_21 : decode cX9_more 21 = .ok (.invokevirtual 79, 3) := by decide +kernel
theorem dX9_more_24 : decode cX9_more 24 = .ok (.ireturn, 1) := by decide +kernel
theorem dX9_more_25 : decode cX9_more 25 = .ok (.aload_n 0, 1) := by decide +kernel
theorem dX9_more_26 : decode cX9_more 26 = .ok (.getfield 52, 3) := by decide +kernel
theorem dX9_more_29 : decode cX9_more 29 = .ok (.aload_n 0, 1) := by decide +kernel
theorem dX9_more_30 : decode cX9_more 30 = .ok (.getfield 34, 3) := by decide +kernel
theorem dX9_more_33 : decode cX9_more 33 = .ok (.getfield 147, 3) := by decide +kernel
theorem dX9_more_36 : decode cX9_more 36 = .ok (.iload_n 1, 1) := by decide +kernel
theorem dX9_more_37 : decode cX9_more 37 = .ok (.aaload, 1) := by decide +kernel
theorem dX9_more_38 : decode cX9_more 38 = .ok (.invokevirtual 254, 3) := by decide +kernel
theorem dX9_more_41 : decode cX9_more 41 = .ok (.aload_n 0, 1) := by decide +kernel
theorem dX9_more_42 : decode cX9_more 42 = .ok (.getfield 52, 3) := by decide +kernel
theorem dX9_more_45 : decode cX9_more 45 = .ok (.getfield 261, 3) := by decide +kernel
theorem dX9_more_48 : decode cX9_more 48 = .ok (.aload_n 0, 1) := by decide +kernel
theorem dX9_more_49 : decode cX9_more 49 = .ok (.getfield 52, 3) := by decide +kernel
theorem dX9_more_52 : decode cX9_more 52 = .ok (.iload_n 2, 1) := by decide +kernel
theorem dX9_more_53 : decode cX9_more 53 = .ok (.invokevirtual 258, 3) := by decide +kernel
theorem dX9_more_56 : decode cX9_more 56 = .ok (.iaload, 1) := by decide +kernel
theorem dX9_more_57 : decode cX9_more 57 = .ok (.aload_n 0, 1) := by decide +kernel
theorem dX9_more_58 : decode cX9_more 58 = .ok (.getfield 52, 3) := by decide +kernel
theorem dX9_more_61 : decode cX9_more 61 = .ok (.getfield 261, 3) := by decide +kernel
theorem dX9_more_64 : decode cX9_more 64 = .ok (.aload_n 0, 1) := by decide +kernel
theorem dX9_more_65 : decode cX9_more 65 = .ok (.getfield 52, 3) := by decide +kernel
theorem dX9_more_68 : decode cX9_more 68 = .ok (.iload_n 2, 1) := by decide +kernel
theorem dX9_more_69 : decode cX9_more 69 = .ok (.iconst 1, 1) := by decide +kernel
theorem dX9_more_70 : decode cX9_more 70 = .ok (.iadd, 1) := by decide +kernel
theorem dX9_more_71 : decode cX9_more 71 = .ok (.invokevirtual 258, 3) := by decide +kernel
theorem dX9_more_74 : decode cX9_more 74 = .ok (.iaload, 1) := by decide +kernel
theorem dX9_more_75 : decode cX9_more 75 = .ok (.isub, 1) := by decide +kernel
theorem dX9_more_76 : decode cX9_more 76 = .ok (.ireturn, 1) := by decide +kernel

def f_X9_more (fu : Nat) (M : gz_M) (a0 : Nat) (a1 : Int32) (a2 : Int32) : Option (Int32 × gz_M) :=
  gz_gd M 9 a0 <|
  (f_X9_isValley fu M a0 a1).bind fun x1 =>
  gz_jn (gz_b2 (f_X9_refuse fu M a0 (-2 : Int32)) fun x18 M19 =>
    some (x18, M19)) fun j18 =>
  if x1 = 0 then
    j18
  else
    (f_X9_isWithin fu M a2 (0 : Int32) (9 : Int32)).bind fun x2 =>
    if x2 = 0 then
      j18
    else
      (gz_gR M 9 7 a0).bind fun x3 =>
      (gz_gR M 9 3 a0).bind fun x4 =>
      (gz_gR M 8 0 x4).bind fun x5 =>
      (gz_aR M x5 a1).bind fun x6 =>
      (f_X3_fillFor fu M x3 x6).bind fun M7 =>
      (gz_gR M7 9 7 a0).bind fun x8 =>
      (gz_gR M7 3 0 x8).bind fun x9 =>
      (gz_gR M7 9 7 a0).bind fun x10 =>
      (f_X3_leastTotal fu M7 x10 a2).bind fun x11 =>
      (gz_aI M7 x9 x11).bind fun x12 =>
      (gz_gR M7 9 7 a0).bind fun x13 =>
      (gz_gR M7 3 0 x13).bind fun x14 =>
      (gz_gR M7 9 7 a0).bind fun x15 =>
      (f_X3_leastTotal fu M7 x15 (a2 + (1 : Int32))).bind fun x16 =>
      (gz_aI M7 x14 x16).bind fun x17 =>
      some ((x12 - x17), M7)

set_option maxHeartbeats 4000000 in
theorem ct_X9_more (l : Launch) (G : gz_G) (fu : Nat) (M : gz_M) (a0 : Nat) (a1 : Int32) (a2 : Int32) (y : Int32 × gz_M) (hF : f_X9_more fu M a0 a1 a2 = some y) : gz_ct l yX9_more cX9_more 3 (some .int) 6 147 0 0 G [.ref a0, .int a1, .int a2] M (some (.int y.1)) y.2 := by
  refine gz_ct.of (by decide) (Nat.le_of_ble_eq_true rfl) (fun C hC hX => ?_)
  unfold f_X9_more at hF
  obtain ⟨-, hF⟩ := gz_gd_some hF
  show gz_go C 0 0 M [(0, .ref a0), (1, .int a1), (2, .int a2)] 0 []
  refine gz_aload_n 0 hC 0 dX9_more_0 rfl rfl ?_
  refine gz_iload_n 1 hC 1 dX9_more_1 rfl rfl ?_
  refine gz_cvP (st := []) 2 hC hX [.int a1] Value.int yl_X9_isValley yv_X9_isValley q_509 ⟨Nat.le_of_ble_eq_true rfl, Nat.le_of_ble_eq_true rfl⟩ ⟨_, rfl⟩ (fun r h => ct_X9_isValley _ _ fu M a0 a1 r h) rfl rfl (Nat.le_of_ble_eq_true rfl) dX9_more_2 gz_00 hF (fun x1 hF => ?_)
  refine gz_join (fun (j : Option (Int32 × gz_M)) => j = some y → gz_go C 0 0 M [(0, .ref a0)] 18 []) hF (fun hF => ?_) (fun j18 hj18 hF => ?_)
  · skip
    refine gz_aload_n 18 hC 0 dX9_more_18 rfl rfl ?_
    refine gz_bipush 19 hC (-2 : Int32) dX9_more_19 gz_bm2 ?_
    refine gz_cvM (st := []) 21 hC hX [.int (-2 : Int32)] Value.int yl_X9_refuse yv_X9_refuse q_417 ⟨Nat.le_of_ble_eq_true rfl, Nat.le_of_ble_eq_true rfl⟩ ⟨_, rfl⟩ (fun r h => ct_X9_refuse _ _ fu M a0 (-2 : Int32) r h) rfl rfl (Nat.le_of_ble_eq_true rfl) dX9_more_21 gz_00 hF (fun x18 M19 hF => ?_)
    exact gz_iretM 24 hC hX dX9_more_24 hF
  refine gz_if_eq 5 18 hC dX9_more_5 (by decide) hF (fun hF => ?_) (fun hF => ?_)
  · skip
    refine gz_sub [0] [(0, .ref a0)] rfl ?_
    exact hj18 hF
  · skip
    refine gz_iload_n 8 hC 2 dX9_more_8 rfl rfl ?_
    refine gz_iconst 9 hC (0 : Int32) dX9_more_9 gz_k0 ?_
    refine gz_bipush 10 hC (9 : Int32) dX9_more_10 gz_b9 ?_
    refine gz_csP (st := []) 12 hC hX [.int a2, .int (0 : Int32), .int (9 : Int32)] Value.int yl_X9_isWithin yv_X9_isWithin q_414 ⟨Nat.le_of_ble_eq_true rfl, Nat.le_of_ble_eq_true rfl⟩ (fun r h => ct_X9_isWithin _ _ fu M a2 (0 : Int32) (9 : Int32) r h) rfl rfl (Nat.le_of_ble_eq_true rfl) dX9_more_12 gz_00 hF (fun x2 hF => ?_)
    refine gz_if_ne 15 25 hC dX9_more_15 (by decide) hF (fun hF => ?_) (fun hF => ?_)
    · skip
      refine gz_aload_n 25 hC 0 dX9_more_25 rfl rfl ?_
      refine gz_getR 26 hC fl_X9_52 fk_9_7 dX9_more_26 hF (fun x3 hF => ?_)
      refine gz_aload_n 29 hC 0 dX9_more_29 rfl rfl ?_
      refine gz_getR 30 hC fl_X9_34 fk_9_3 dX9_more_30 hF (fun x4 hF => ?_)
      refine gz_getR 33 hC fl_X9_147 fk_8_0 dX9_more_33 hF (fun x5 hF => ?_)
      refine gz_iload_n 36 hC 1 dX9_more_36 rfl rfl ?_
      refine gz_aald 37 hC dX9_more_37 hF (fun x6 hF => ?_)
      refine gz_cvV (st := []) 38 hC hX [.ref x6] yl_X3_fillFor yv_X3_fillFor q_820 ⟨Nat.le_of_ble_eq_true rfl, Nat.le_of_ble_eq_true rfl⟩ ⟨_, rfl⟩ (fun r h => ct_X3_fillFor _ _ fu M x3 x6 r h) rfl rfl (Nat.le_of_ble_eq_true rfl) dX9_more_38 gz_00 hF (fun M7 hF => ?_)
      refine gz_aload_n 41 hC 0 dX9_more_41 rfl rfl ?_
      refine gz_getR 42 hC fl_X9_52 fk_9_7 dX9_more_42 hF (fun x8 hF => ?_)
      refine gz_getR 45 hC fl_X9_261 fk_3_0 dX9_more_45 hF (fun x9 hF => ?_)
      refine gz_aload_n 48 hC 0 dX9_more_48 rfl rfl ?_
      refine gz_getR 49 hC fl_X9_52 fk_9_7 dX9_more_49 hF (fun x10 hF => ?_)
      refine gz_iload_n 52 hC 2 dX9_more_52 rfl rfl ?_
      refine gz_cvP (st := [.ref x9]) 53 hC hX [.int a2] Value.int yl_X3_leastTotal yv_X3_leastTotal q_851 ⟨Nat.le_of_ble_eq_true rfl, Nat.le_of_ble_eq_true rfl⟩ ⟨_, rfl⟩ (fun r h => ct_X3_leastTotal _ _ fu M7 x10 a2 r h) rfl rfl (Nat.le_of_ble_eq_true rfl) dX9_more_53 gz_00 hF (fun x11 hF => ?_)
      refine gz_iald 56 hC dX9_more_56 hF (fun x12 hF => ?_)
      refine gz_aload_n 57 hC 0 dX9_more_57 rfl rfl ?_
      refine gz_getR 58 hC fl_X9_52 fk_9_7 dX9_more_58 hF (fun x13 hF => ?_)
      refine gz_getR 61 hC fl_X9_261 fk_3_0 dX9_more_61 hF (fun x14 hF => ?_)
      refine gz_aload_n 64 hC 0 dX9_more_64 rfl rfl ?_
      refine gz_getR 65 hC fl_X9_52 fk_9_7 dX9_more_65 hF (fun x15 hF => ?_)
      refine gz_iload_n 68 hC 2 dX9_more_68 rfl rfl ?_
      refine gz_iconst 69 hC (1 : Int32) dX9_more_69 gz_k1 ?_
      refine gz_iadd 70 hC dX9_more_70 ?_
      refine gz_cvP (st := [.ref x14, .int x12]) 71 hC hX [.int (a2 + (1 : Int32))] Value.int yl_X3_leastTotal yv_X3_leastTotal q_851 ⟨Nat.le_of_ble_eq_true rfl, Nat.le_of_ble_eq_true rfl⟩ ⟨_, rfl⟩ (fun r h => ct_X3_leastTotal _ _ fu M7 x15 (a2 + (1 : Int32)) r h) rfl rfl (Nat.le_of_ble_eq_true rfl) dX9_more_71 gz_00 hF (fun x16 hF => ?_)
      refine gz_iald 74 hC dX9_more_74 hF (fun x17 hF => ?_)
      refine gz_isub 75 hC dX9_more_75 ?_
      exact gz_iretM 76 hC hX dX9_more_76 hF
    · skip
      refine gz_sub [0] [(0, .ref a0)] rfl ?_
      exact hj18 hF

theorem dX9_enough_0 : decode cX9_enough 0 = .ok (.aload_n 0, 1) := by decide +kernel
theorem dX9_enough_1 : decode cX9_enough 1 = .ok (.iload_n 1, 1) := by decide +kernel
theorem dX9_enough_2 : decode cX9_enough 2 = .ok (.invokevirtual 159, 3) := by decide +kernel
theorem dX9_enough_5 : decode cX9_enough 5 = .ok (.ifCond .eq 7, 3) := by decide +kernel
theorem dX9_enough_8 : decode cX9_enough 8 = .ok (.iload_n 2, 1) := by decide +kernel
theorem dX9_enough_9 : decode cX9_enough 9 = .ok (.ifCond .ge 10, 3) := by decide +kernel
theorem dX9_enough_12 : decode cX9_enough 12 = .ok (.aload_n 0, 1) := by decide +kernel
theorem dX9_enough_13 : decode cX9_enough 13 = .ok (.bipush (-2), 2) := by decide +kernel
theorem dX9_enough_15 : decode cX9_enough 15 = .ok (.invokevirtual 79, 3) := by decide +kernel
theorem dX9_enough_18 : decode cX9_enough 18 = .ok (.ireturn, 1) := by decide +kernel
theorem dX9_enough_19 : decode cX9_enough 19 = .ok (.aload_n 0, 1) := by decide +kernel
theorem dX9_enough_20 : decode cX9_enough 20 = .ok (.getfield 52, 3) := by decide +kernel
theorem dX9_enough_23 : decode cX9_enough 23 = .ok (.aload_n 0, 1) := by decide +kernel
theorem dX9_enough_24 : decode cX9_enough 24 = .ok (.getfield 34, 3) := by decide +kernel
theorem dX9_enough_27 : decode cX9_enough 27 = .ok (.getfield 147, 3) := by decide +kernel
theorem dX9_enough_30 : decode cX9_enough 30 = .ok (.iload_n 1, 1) := by decide +kernel
theorem dX9_enough_31 : decode cX9_enough 31 = .ok (.aaload, 1) := by decide +kernel
theorem dX9_enough_32 : decode cX9_enough 32 = .ok (.invokevirtual 254, 3) := by decide +kernel
theorem dX9_enough_35 : decode cX9_enough 35 = .ok (.iconst 0, 1) := by decide +kernel
theorem dX9_enough_36 : decode cX9_enough 36 = .ok (.istore_n 3, 1) := by decide +kernel
theorem dX9_enough_37 : decode cX9_enough 37 = .ok (.iload_n 3, 1) := by decide +kernel
theorem dX9_enough_38 : decode cX9_enough 38 = .ok (.bipush 10, 2) := by decide +kernel
theorem dX9_enough_40 : decode cX9_enough 40 = .ok (.if_icmp .gt 31, 3) := by decide +kernel
theorem dX9_enough_43 : decode cX9_enough 43 = .ok (.aload_n 0, 1) := by decide +kernel
theorem dX9_enough_44 : decode cX9_enough 44 = .ok (.getfield 52, 3) := by decide +kernel
theorem dX9_enough_47 : decode cX9_enough 47 = .ok (.getfield 261, 3) := by decide +kernel
theorem dX9_enough_50 : decode cX9_enough 50 = .ok (.aload_n 0, 1) := by decide +kernel
theorem dX9_enough_51 : decode cX9_enough 51 = .ok (.getfield 52, 3) := by decide +kernel
theorem dX9_enough_54 : decode cX9_enough 54 = .ok (.iload_n 3, 1) := by decide +kernel
theorem dX9_enough_55 : decode cX9_enough 55 = .ok (.invokevirtual 258, 3) := by decide +kernel
theorem dX9_enough_58 : decode cX9_enough 58 = .ok (.iaload, 1) := by decide +kernel
theorem dX9_enough_59 : decode cX9_enough 59 = .ok (.iload_n 2, 1) := by decide +kernel
theorem dX9_enough_60 : decode cX9_enough 60 = .ok (.if_icmp .gt 5, 3) := by decide +kernel
theorem dX9_enough_63 : decode cX9_enough 63 = .ok (.iload_n 3, 1) := by decide +kernel
theorem dX9_enough_64 : decode cX9_enough 64 = .ok (.ireturn, 1) := by decide +kernel
theorem dX9_enough_65 : decode cX9_enough 65 = .ok (.iinc 3 1, 3) := by decide +kernel
theorem dX9_enough_68 : decode cX9_enough 68 = .ok (.goto (-31), 3) := by decide +kernel
theorem dX9_enough_71 : decode cX9_enough 71 = .ok (.iconst (-1), 1) := by decide +kernel
theorem dX9_enough_72 : decode cX9_enough 72 = .ok (.ireturn, 1) := by decide +kernel
def lp_X9_enough_37 (j71 : Option (Int32 × gz_M)) (fu : Nat) (M6 : gz_M) (a0 : Nat) (a2 : Int32) : Nat → Int32 → Option (Int32 × gz_M)
  | 0, _ => none
  | n37 + 1, x7 =>
    if (10 : Int32) < x7 then
      j71
    else
      (gz_gR M6 9 7 a0).bind fun x8 =>
      (gz_gR M6 3 0 x8).bind fun x9 =>
      (gz_gR M6 9 7 a0).bind fun x10 =>
      (f_X3_leastTotal fu M6 x10 x7).bind fun x11 =>
      (gz_aI M6 x9 x11).bind fun x12 =>
      if a2 < x12 then
        lp_X9_enough_37 j71 fu M6 a0 a2 n37 (x7 + (1 : Int32))
      else
        some (x7, M6)
def f_X9_enough (fu : Nat) (M : gz_M) (a0 : Nat) (a1 : Int32) (a2 : Int32) : Option (Int32 × gz_M) :=
  gz_gd M 9 a0 <|
  (f_X9_isValley fu M a0 a1).bind fun x1 =>
  gz_jn (gz_b2 (f_X9_refuse fu M a0 (-2 : Int32)) fun x13 M14 =>
    some (x13, M14)) fun j12 =>
  if x1 = 0 then
    j12
  else
    if 0 ≤ a2 then
      (gz_gR M 9 7 a0).bind fun x2 =>
      (gz_gR M 9 3 a0).bind fun x3 =>
      (gz_gR M 8 0 x3).bind fun x4 =>
      (gz_aR M x4 a1).bind fun x5 =>
      (f_X3_fillFor fu M x2 x5).bind fun M6 =>
      lp_X9_enough_37 (some ((-1 : Int32), M6)) fu M6 a0 a2 fu (0 : Int32)
    else
      j12
set_option maxHeartbeats 4000000 in
theorem w_X9_enough_37 {C : gz_C} {y : Int32 × gz_M} {fu : Nat} {M6 : gz_M} {a0 : Nat} {a2 : Int32} {j71 : Option (Int32 × gz_M)} (hC : gz_ok C cX9_enough RX9 4) (hX : gz_cx C 6 147 0 0 (some .int) (some (.int y.1)) y.2 "enough") (hj71 : j71 = some y → gz_go C 0 0 M6 [] 71 []) : ∀ (n : Nat) (x7 : Int32), lp_X9_enough_37 j71 fu M6 a0 a2 n x7 = some y → gz_go C 0 0 M6 [(0, .ref a0), (2, .int a2), (3, .int x7)] 37 [] := by
  intro n
  induction n with
  | zero => intro x7 hF; exact nomatch (show (none : Option (Int32 × gz_M)) = some y from hF)
  | succ n37 ih37 =>
    intro x7 hF
    rw [lp_X9_enough_37.eq_2] at hF
    refine gz_iload_n 37 hC 2 dX9_enough_37 rfl rfl ?_
    refine gz_bipush 38 hC (10 : Int32) dX9_enough_38 gz_b10 ?_
    refine gz_icmp_gt 40 71 hC dX9_enough_40 (by decide) hF (fun hF => ?_) (fun hF => ?_)
    · skip
      refine gz_sub [] [] rfl ?_
      exact hj71 hF
    · skip
      refine gz_aload_n 43 hC 0 dX9_enough_43 rfl rfl ?_
      refine gz_getR 44 hC fl_X9_52 fk_9_7 dX9_enough_44 hF (fun x8 hF => ?_)
      refine gz_getR 47 hC fl_X9_261 fk_3_0 dX9_enough_47 hF (fun x9 hF => ?_)
      refine gz_aload_n 50 hC 0 dX9_enough_50 rfl rfl ?_
      refine gz_getR 51 hC fl_X9_52 fk_9_7 dX9_enough_51 hF (fun x10 hF => ?_)
      refine gz_iload_n 54 hC 2 dX9_enough_54 rfl rfl ?_
      refine gz_cvP (st := [.ref x9]) 55 hC hX [.int x7] Value.int yl_X3_leastTotal yv_X3_leastTotal q_851 ⟨Nat.le_of_ble_eq_true rfl, Nat.le_of_ble_eq_true rfl⟩ ⟨_, rfl⟩ (fun r h => ct_X3_leastTotal _ _ fu M6 x10 x7 r h) rfl rfl (Nat.le_of_ble_eq_true rfl) dX9_enough_55 gz_00 hF (fun x11 hF => ?_)
      refine gz_iald 58 hC dX9_enough_58 hF (fun x12 hF => ?_)
      refine gz_iload_n 59 hC 1 dX9_enough_59 rfl rfl ?_
      refine gz_icmp_gt 60 65 hC dX9_enough_60 (by decide) hF (fun hF => ?_) (fun hF => ?_)
      · skip
        refine gz_iinc 65 hC (x7 + (1 : Int32)) 2 [(3, .int (x7 + (1 : Int32))), (0, .ref a0), (2, .int a2)] dX9_enough_65 rfl rfl (by decide) rfl ?_
        refine gz_goto 68 37 hC dX9_enough_68 (by decide) ?_
        refine gz_sub [1, 2, 0] [(0, .ref a0), (2, .int a2), (3, .int (x7 + (1 : Int32)))] rfl ?_
        exact ih37 _ hF
      · skip
        refine gz_iload_n 63 hC 2 dX9_enough_63 rfl rfl ?_
        exact gz_iretM 64 hC hX dX9_enough_64 hF
set_option maxHeartbeats 4000000 in
theorem ct_X9_enough (l : Launch) (G : gz_G) (fu : Nat) (M : gz_M) (a0 : Nat) (a1 : Int32) (a2 : Int32) (y : Int32 × gz_M) (hF : f_X9_enough fu M a0 a1 a2 = some y) : gz_ct l yX9_enough cX9_enough 4 (some .int) 6 147 0 0 G [.ref a0, .int a1, .int a2] M (some (.int y.1)) y.2 := by
  refine gz_ct.of (by decide) (Nat.le_of_ble_eq_true rfl) (fun C hC hX => ?_)
  unfold f_X9_enough at hF
  obtain ⟨-, hF⟩ := gz_gd_some hF
  show gz_go C 0 0 M [(0, .ref a0), (1, .int a1), (2, .int a2)] 0 []
  refine gz_aload_n 0 hC 0 dX9_enough_0 rfl rfl ?_
  refine gz_iload_n 1 hC 1 dX9_enough_1 rfl rfl ?_
  refine gz_cvP (st := []) 2 hC hX [.int a1] Value.int yl_X9_isValley yv_X9_isValley q_509 ⟨Nat.le_of_ble_eq_true rfl, Nat.le_of_ble_eq_true rfl⟩ ⟨_, rfl⟩ (fun r h => ct_X9_isValley _ _ fu M a0 a1 r h) rfl rfl (Nat.le_of_ble_eq_true rfl) dX9_enough_2 gz_00 hF (fun x1 hF => ?_)
  refine gz_join (fun (j : Option (Int32 × gz_M)) => j = some y → gz_go C 0 0 M [(0, .ref a0)] 12 []) hF (fun hF => ?_) (fun j12 hj12 hF => ?_)
  · skip
    refine gz_aload_n 12 hC 0 dX9_enough_12 rfl rfl ?_
    refine gz_bipush 13 hC (-2 : Int32) dX9_enough_13 gz_bm2 ?_
    refine gz_cvM (st := []) 15 hC hX [.int (-2 : Int32)] Value.int yl_X9_refuse yv_X9_refuse q_417 ⟨Nat.le_of_ble_eq_true rfl, Nat.le_of_ble_eq_true rfl⟩ ⟨_, rfl⟩ (fun r h => ct_X9_refuse _ _ fu M a0 (-2 : Int32) r h) rfl rfl (Nat.le_of_ble_eq_true rfl) dX9_enough_15 gz_00 hF (fun x13 M14 hF => ?_)
    exact gz_iretM 18 hC hX dX9_enough_18 hF
  refine gz_if_eq 5 12 hC dX9_enough_5 (by decide) hF (fun hF => ?_) (fun hF => ?_)
  · skip
    refine gz_sub [0] [(0, .ref a0)] rfl ?_
    exact hj12 hF
  · skip
    refine gz_iload_n 8 hC 2 dX9_enough_8 rfl rfl ?_
    refine gz_if_ge 9 19 hC dX9_enough_9 (by decide) hF (fun hF => ?_) (fun hF => ?_)
    · skip
      refine gz_aload_n 19 hC 0 dX9_enough_19 rfl rfl ?_
      refine gz_getR 20 hC fl_X9_52 fk_9_7 dX9_enough_20 hF (fun x2 hF => ?_)
      refine gz_aload_n 23 hC 0 dX9_enough_23 rfl rfl ?_
      refine gz_getR 24 hC fl_X9_34 fk_9_3 dX9_enough_24 hF (fun x3 hF => ?_)
      refine gz_getR 27 hC fl_X9_147 fk_8_0 dX9_enough_27 hF (fun x4 hF => ?_)
      refine gz_iload_n 30 hC 1 dX9_enough_30 rfl rfl ?_
      refine gz_aald 31 hC dX9_enough_31 hF (fun x5 hF => ?_)
      refine gz_cvV (st := []) 32 hC hX [.ref x5] yl_X3_fillFor yv_X3_fillFor q_820 ⟨Nat.le_of_ble_eq_true rfl, Nat.le_of_ble_eq_true rfl⟩ ⟨_, rfl⟩ (fun r h => ct_X3_fillFor _ _ fu M x2 x5 r h) rfl rfl (Nat.le_of_ble_eq_true rfl) dX9_enough_32 gz_00 hF (fun M6 hF => ?_)
      refine gz_iconst 35 hC (0 : Int32) dX9_enough_35 gz_k0 ?_
      refine gz_istore_n 36 hC [(3, .int (0 : Int32)), (0, .ref a0), (1, .int a1), (2, .int a2)] dX9_enough_36 rfl (by decide) rfl ?_
      refine gz_sub [1, 3, 0] [(0, .ref a0), (2, .int a2), (3, .int (0 : Int32))] rfl ?_
      refine w_X9_enough_37 hC hX ?_ _ _ hF
      intro hF
      refine gz_iconst 71 hC (-1 : Int32) dX9_enough_71 gz_km1 ?_
      exact gz_iretM 72 hC hX dX9_enough_72 hF
    · skip
      refine gz_sub [0] [(0, .ref a0)] rfl ?_
      exact hj12 hF

theorem dX9_changed_0 : decode cX9_changed 0 = .ok (.aload_n 0, 1) := by decide +kernel
theorem dX9_changed_1 : decode cX9_changed 1 = .ok (.iload_n 1, 1) := by decide +kernel
theorem dX9_changed_2 : decode cX9_changed 2 = .ok (.iload_n 2, 1) := by decide +kernel
theorem dX9_changed_3 : decode cX9_changed 3 = .ok (.invokevirtual 232, 3) := by decide +kernel
theorem dX9_changed_6 : decode cX9_changed 6 = .ok (.ifCond .ne 10, 3) := by decide +kernel
theorem dX9_changed_9 : decode cX9_changed 9 = .ok (.aload_n 0, 1) := by decide +kernel
theorem dX9_changed_10 : decode cX9_changed 10 = .ok (.bipush (-2), 2) := by decide +kernel
theorem dX9_changed_12 : decode cX9_changed 12 = .ok (.invokevirtual 79, 3) := by decide +kernel
theorem dX9_changed_15 : decode cX9_changed 15 = .ok (.ireturn, 1) := by decide +kernel
theorem dX9_changed_16 : decode cX9_changed 16 = .ok (.aload_n 0, 1) := by decide +kernel
theorem dX9_changed_17 : decode cX9_changed 17 = .ok (.getfield 52, 3) := by decide +kernel
theorem dX9_changed_20 : decode cX9_changed 20 = .ok (.aload_n 0, 1) := by decide +kernel
theorem dX9_changed_21 : decode cX9_changed 21 = .ok (.getfield 34, 3) := by decide +kernel
theorem dX9_changed_24 : decode cX9_changed 24 = .ok (.getfield 147, 3) := by decide +kernel
theorem dX9_changed_27 : decode cX9_changed 27 = .ok (.iload_n 1, 1) := by decide +kernel
theorem dX9_changed_28 : decode cX9_changed 28 = .ok (.aaload, 1) := by decide +kernel
theorem dX9_changed_29 : decode cX9_changed 29 = .ok (.invokevirtual 254, 3) := by decide +kernel
theorem dX9_changed_32 : decode cX9_changed 32 = .ok (.aload_n 0, 1) := by decide +kernel
theorem dX9_changed_33 : decode cX9_changed 33 = .ok (.getfield 52, 3) := by decide +kernel
theorem dX9_changed_36 : decode cX9_changed 36 = .ok (.iload_n 2, 1) := by decide +kernel
theorem dX9_changed_37 : decode cX9_changed 37 = .ok (.invokevirtual 264, 3) := by decide +kernel
theorem dX9_changed_40 : decode cX9_changed 40 = .ok (.ireturn, 1) := by decide +kernel

def f_X9_changed (fu : Nat) (M : gz_M) (a0 : Nat) (a1 : Int32) (a2 : Int32) : Option (Int32 × gz_M) :=
  gz_gd M 9 a0 <|
  (f_X9_isSet fu M a0 a1 a2).bind fun x1 =>
  if x1 = 0 then
    gz_b2 (f_X9_refuse fu M a0 (-2 : Int32)) fun x2 M3 =>
    some (x2, M3)
  else
    (gz_gR M 9 7 a0).bind fun x4 =>
    (gz_gR M 9 3 a0).bind fun x5 =>
    (gz_gR M 8 0 x5).bind fun x6 =>
    (gz_aR M x6 a1).bind fun x7 =>
    (f_X3_fillFor fu M x4 x7).bind fun M8 =>
    (gz_gR M8 9 7 a0).bind fun x9 =>
    (f_X3_changedFrom fu M8 x9 a2).bind fun x10 =>
    some (x10, M8)

set_option maxHeartbeats 4000000 in
theorem ct_X9_changed (l : Launch) (G : gz_G) (fu : Nat) (M : gz_M) (a0 : Nat) (a1 : Int32) (a2 : Int32) (y : Int32 × gz_M) (hF : f_X9_changed fu M a0 a1 a2 = some y) : gz_ct l yX9_changed cX9_changed 3 (some .int) 6 147 0 0 G [.ref a0, .int a1, .int a2] M (some (.int y.1)) y.2 := by
  refine gz_ct.of (by decide) (Nat.le_of_ble_eq_true rfl) (fun C hC hX => ?_)
  unfold f_X9_changed at hF
  obtain ⟨-, hF⟩ := gz_gd_some hF
  show gz_go C 0 0 M [(0, .ref a0), (1, .int a1), (2, .int a2)] 0 []
  refine gz_aload_n 0 hC 0 dX9_changed_0 rfl rfl ?_
  refine gz_iload_n 1 hC 1 dX9_changed_1 rfl rfl ?_
  refine gz_iload_n 2 hC 2 dX9_changed_2 rfl rfl ?_
  refine gz_cvP (st := []) 3 hC hX [.int a1, .int a2] Value.int yl_X9_isSet yv_X9_isSet q_771 ⟨Nat.le_of_ble_eq_true rfl, Nat.le_of_ble_eq_true rfl⟩ ⟨_, rfl⟩ (fun r h => ct_X9_isSet _ _ fu M a0 a1 a2 r h) rfl rfl (Nat.le_of_ble_eq_true rfl) dX9_changed_3 gz_00 hF (fun x1 hF => ?_)
  refine gz_if_ne 6 16 hC dX9_changed_6 (by decide) hF (fun hF => ?_) (fun hF => ?_)
  · skip
    refine gz_aload_n 16 hC 0 dX9_changed_16 rfl rfl ?_
    refine gz_getR 17 hC fl_X9_52 fk_9_7 dX9_changed_17 hF (fun x4 hF => ?_)
    refine gz_aload_n 20 hC 0 dX9_changed_20 rfl rfl ?_
    refine gz_getR 21 hC fl_X9_34 fk_9_3 dX9_changed_21 hF (fun x5 hF => ?_)
    refine gz_getR 24 hC fl_X9_147 fk_8_0 dX9_changed_24 hF (fun x6 hF => ?_)
    refine gz_iload_n 27 hC 1 dX9_changed_27 rfl rfl ?_
    refine gz_aald 28 hC dX9_changed_28 hF (fun x7 hF => ?_)
    refine gz_cvV (st := []) 29 hC hX [.ref x7] yl_X3_fillFor yv_X3_fillFor q_820 ⟨Nat.le_of_ble_eq_true rfl, Nat.le_of_ble_eq_true rfl⟩ ⟨_, rfl⟩ (fun r h => ct_X3_fillFor _ _ fu M x4 x7 r h) rfl rfl (Nat.le_of_ble_eq_true rfl) dX9_changed_29 gz_00 hF (fun M8 hF => ?_)
    refine gz_aload_n 32 hC 0 dX9_changed_32 rfl rfl ?_
    refine gz_getR 33 hC fl_X9_52 fk_9_7 dX9_changed_33 hF (fun x9 hF => ?_)
    refine gz_iload_n 36 hC 2 dX9_changed_36 rfl rfl ?_
    refine gz_cvP (st := []) 37 hC hX [.int a2] Value.int yl_X3_changedFrom yv_X3_changedFrom q_873 ⟨Nat.le_of_ble_eq_true rfl, Nat.le_of_ble_eq_true rfl⟩ ⟨_, rfl⟩ (fun r h => ct_X3_changedFrom _ _ fu M8 x9 a2 r h) rfl rfl (Nat.le_of_ble_eq_true rfl) dX9_changed_37 gz_00 hF (fun x10 hF => ?_)
    exact gz_iretM 40 hC hX dX9_changed_40 hF
  · skip
    refine gz_aload_n 9 hC 0 dX9_changed_9 rfl rfl ?_
    refine gz_bipush 10 hC (-2 : Int32) dX9_changed_10 gz_bm2 ?_
    refine gz_cvM (st := []) 12 hC hX [.int (-2 : Int32)] Value.int yl_X9_refuse yv_X9_refuse q_417 ⟨Nat.le_of_ble_eq_true rfl, Nat.le_of_ble_eq_true rfl⟩ ⟨_, rfl⟩ (fun r h => ct_X9_refuse _ _ fu M a0 (-2 : Int32) r h) rfl rfl (Nat.le_of_ble_eq_true rfl) dX9_changed_12 gz_00 hF (fun x2 M3 hF => ?_)
    exact gz_iretM 15 hC hX dX9_changed_15 hF

theorem dX9_bound_0 : decode cX9_bound 0 = .ok (.aload_n 0, 1) := by decide +kernel
theorem dX9_bound_1 : decode cX9_bound 1 = .ok (.iload_n 1, 1) := by decide +kernel
theorem dX9_bound_2 : decode cX9_bound 2 = .ok (.invokevirtual 159, 3) := by decide +kernel
theorem dX9_bound_5 : decode cX9_bound 5 = .ok (.ifCond .ne 10, 3) := by decide +kernel
theorem dX9_bound_8 : decode cX9_bound 8 = .ok (.aload_n 0, 1) := by decide +kernel
theorem dX9_bound_9 : decode cX9_bound 9 = .ok (.bipush (-2), 2) := by decide +kernel
theorem dX9_bound_11 : decode cX9_bound 11 = .ok (.invokevirtual 79, 3) := by decide +kernel
theorem dX9_bound_14 : decode cX9_bound 14 = .ok (.ireturn, 1) := by decide +kernel
theorem dX9_bound_15 : decode cX9_bound 15 = .ok (.aload_n 0, 1) := by decide +kernel
theorem dX9_bound_16 : decode cX9_bound 16 = .ok (.getfield 34, 3) := by decide +kernel
theorem dX9_bound_19 : decode cX9_bound 19 = .ok (.getfield 147, 3) := by decide +kernel
theorem dX9_bound_22 : decode cX9_bound 22 = .ok (.iload_n 1, 1) := by decide +kernel
theorem dX9_bound_23 : decode cX9_bound 23 = .ok (.aaload, 1) := by decide +kernel
theorem dX9_bound_24 : decode cX9_bound 24 = .ok (.astore_n 2, 1) := by decide +kernel
theorem dX9_bound_25 : decode cX9_bound 25 = .ok (.iconst 0, 1) := by decide +kernel
theorem dX9_bound_26 : decode cX9_bound 26 = .ok (.istore_n 3, 1) := by decide +kernel
theorem dX9_bound_27 : decode cX9_bound 27 = .ok (.iconst 0, 1) := by decide +kernel
theorem dX9_bound_28 : decode cX9_bound 28 = .ok (.istore 4, 2) := by decide +kernel
theorem dX9_bound_30 : decode cX9_bound 30 = .ok (.iload 4, 2) := by decide +kernel
theorem dX9_bound_32 : decode cX9_bound 32 = .ok (.aload_n 2, 1) := by decide +kernel
theorem dX9_bound_33 : decode cX9_bound 33 = .ok (.getfield 162, 3) := by decide +kernel
theorem dX9_bound_36 : decode cX9_bound 36 = .ok (.if_icmp .ge 42, 3) := by decide +kernel
theorem dX9_bound_39 : decode cX9_bound 39 = .ok (.aload_n 2, 1) := by decide +kernel
theorem dX9_bound_40 : decode cX9_bound 40 = .ok (.iload 4, 2) := by decide +kernel
theorem dX9_bound_42 : decode cX9_bound 42 = .ok (.aload_n 2, 1) := by decide +kernel
theorem dX9_bound_43 : decode cX9_bound 43 = .ok (.aload_n 2, 1) := by decide +kernel
theorem dX9_bound_44 : decode cX9_bound 44 = .ok (.invokevirtual 267, 3) := by decide +kernel
theorem dX9_bound_47 : decode cX9_bound 47 = .ok (.invokevirtual 241, 3) := by decide +kernel
theorem dX9_bound_50 : decode cX9_bound 50 = .ok (.istore 5, 2) := by decide +kernel
theorem dX9_bound_52 : decode cX9_bound 52 = .ok (.iload_n 3, 1) := by decide +kernel
theorem dX9_bound_53 : decode cX9_bound 53 = .ok (.aload_n 2, 1) := by decide +kernel
theorem dX9_bound_54 : decode cX9_bound 54 = .ok (.iload 4, 2) := by decide +kernel
theorem dX9_bound_56 : decode cX9_bound 56 = .ok (.iconst 3, 1) := by decide +kernel
theorem dX9_bound_57 : decode cX9_bound 57 = .ok (.invokevirtual 196, 3) := by decide +kernel
theorem dX9_bound_60 : decode cX9_bound 60 = .ok (.aload_n 2, 1) := by decide +kernel
theorem dX9_bound_61 : decode cX9_bound 61 = .ok (.getfield 184, 3) := by decide +kernel
theorem dX9_bound_64 : decode cX9_bound 64 = .ok (.iload 5, 2) := by decide +kernel
theorem dX9_bound_66 : decode cX9_bound 66 = .ok (.invokestatic 221, 3) := by decide +kernel
theorem dX9_bound_69 : decode cX9_bound 69 = .ok (.imul, 1) := by decide +kernel
theorem dX9_bound_70 : decode cX9_bound 70 = .ok (.iadd, 1) := by decide +kernel
theorem dX9_bound_71 : decode cX9_bound 71 = .ok (.istore_n 3, 1) := by decide +kernel
theorem dX9_bound_72 : decode cX9_bound 72 = .ok (.iinc 4 1, 3) := by decide +kernel
theorem dX9_bound_75 : decode cX9_bound 75 = .ok (.goto (-45), 3) := by decide +kernel
theorem dX9_bound_78 : decode cX9_bound 78 = .ok (.iload_n 3, 1) := by decide +kernel
theorem dX9_bound_79 : decode cX9_bound 79 = .ok (.ireturn, 1) := by decide +kernel
def lp_X9_bound_30 (j78 : Int32 → Option (Int32 × gz_M)) (fu : Nat) (M : gz_M) (x6 : Nat) : Nat → Int32 → Int32 → Option (Int32 × gz_M)
  | 0, _, _ => none
  | n30 + 1, x7, x8 =>
    (gz_gI M 7 4 x6).bind fun x9 =>
    if x9 ≤ x8 then
      j78 x7
    else
      (f_X7_allLasts fu M x6).bind fun x10 =>
      (f_X7_ownBadness fu M x6 x8 x6 x10).bind fun x11 =>
      (f_X7_footPart fu M x6 x8 (3 : Int32)).bind fun x12 =>
      (gz_gI M 7 6 x6).bind fun x13 =>
      lp_X9_bound_30 j78 fu M x6 n30 (x7 + (x12 * (if x11 < x13 then x11 else x13))) (x8 + (1 : Int32))
def f_X9_bound (fu : Nat) (M : gz_M) (a0 : Nat) (a1 : Int32) : Option (Int32 × gz_M) :=
  gz_gd M 9 a0 <|
  (f_X9_isValley fu M a0 a1).bind fun x1 =>
  if x1 = 0 then
    gz_b2 (f_X9_refuse fu M a0 (-2 : Int32)) fun x2 M3 =>
    some (x2, M3)
  else
    (gz_gR M 9 3 a0).bind fun x4 =>
    (gz_gR M 8 0 x4).bind fun x5 =>
    (gz_aR M x5 a1).bind fun x6 =>
    lp_X9_bound_30 (fun (x14 : Int32) => some (x14, M)) fu M x6 fu (0 : Int32) (0 : Int32)
set_option maxHeartbeats 4000000 in
theorem w_X9_bound_30 {C : gz_C} {y : Int32 × gz_M} {fu : Nat} {M : gz_M} {x6 : Nat} {j78 : Int32 → Option (Int32 × gz_M)} (hC : gz_ok C cX9_bound RX9 6) (hX : gz_cx C 4 102 0 0 (some .int) (some (.int y.1)) y.2 "bound") (hj78 : ∀ (x14 : Int32), j78 x14 = some y → gz_go C 0 0 M [(3, .int x14)] 78 []) : ∀ (n : Nat) (x7 : Int32) (x8 : Int32), lp_X9_bound_30 j78 fu M x6 n x7 x8 = some y → gz_go C 0 0 M [(2, .ref x6), (3, .int x7), (4, .int x8)] 30 [] := by
  intro n
  induction n with
  | zero => intro x7 x8 hF; exact nomatch (show (none : Option (Int32 × gz_M)) = some y from hF)
  | succ n30 ih30 =>
    intro x7 x8 hF
    rw [lp_X9_bound_30.eq_2] at hF
    refine gz_iload 30 hC 2 dX9_bound_30 rfl ?_
    refine gz_aload_n 32 hC 0 dX9_bound_32 rfl rfl ?_
    refine gz_getI 33 hC fl_X9_162 fk_7_4 dX9_bound_33 hF (fun x9 hF => ?_)
    refine gz_icmp_ge 36 78 hC dX9_bound_36 (by decide) hF (fun hF => ?_) (fun hF => ?_)
    · skip
      refine gz_sub [1] [(3, .int x7)] rfl ?_
      exact hj78 _ hF
    · skip
      refine gz_aload_n 39 hC 0 dX9_bound_39 rfl rfl ?_
      refine gz_iload 40 hC 2 dX9_bound_40 rfl ?_
      refine gz_aload_n 42 hC 0 dX9_bound_42 rfl rfl ?_
      refine gz_aload_n 43 hC 0 dX9_bound_43 rfl rfl ?_
      refine gz_cvP (st := [.ref x6, .int x8, .ref x6]) 44 hC hX [] Value.int yl_X7_allLasts yv_X7_allLasts q_775 ⟨Nat.le_of_ble_eq_true rfl, Nat.le_of_ble_eq_true rfl⟩ ⟨_, rfl⟩ (fun r h => ct_X7_allLasts _ _ fu M x6 r h) rfl rfl (Nat.le_of_ble_eq_true rfl) dX9_bound_44 gz_00 hF (fun x10 hF => ?_)
      refine gz_cvP (st := []) 47 hC hX [.int x8, .ref x6, .int x10] Value.int yl_X7_ownBadness yv_X7_ownBadness q_793 ⟨Nat.le_of_ble_eq_true rfl, Nat.le_of_ble_eq_true rfl⟩ ⟨_, rfl⟩ (fun r h => ct_X7_ownBadness _ _ fu M x6 x8 x6 x10 r h) rfl rfl (Nat.le_of_ble_eq_true rfl) dX9_bound_47 gz_00 hF (fun x11 hF => ?_)
      refine gz_istore 50 hC [(5, .int x11), (2, .ref x6), (3, .int x7), (4, .int x8)] dX9_bound_50 (by decide) rfl ?_
      refine gz_iload_n 52 hC 2 dX9_bound_52 rfl rfl ?_
      refine gz_aload_n 53 hC 1 dX9_bound_53 rfl rfl ?_
      refine gz_iload 54 hC 3 dX9_bound_54 rfl ?_
      refine gz_iconst 56 hC (3 : Int32) dX9_bound_56 gz_k3 ?_
      refine gz_cvP (st := [.int x7]) 57 hC hX [.int x8, .int (3 : Int32)] Value.int yl_X7_footPart yv_X7_footPart q_710 ⟨Nat.le_of_ble_eq_true rfl, Nat.le_of_ble_eq_true rfl⟩ ⟨_, rfl⟩ (fun r h => ct_X7_footPart _ _ fu M x6 x8 (3 : Int32) r h) rfl rfl (Nat.le_of_ble_eq_true rfl) dX9_bound_57 gz_00 hF (fun x12 hF => ?_)
      refine gz_aload_n 60 hC 1 dX9_bound_60 rfl rfl ?_
      refine gz_getI 61 hC fl_X9_184 fk_7_6 dX9_bound_61 hF (fun x13 hF => ?_)
      refine gz_iload 64 hC 0 dX9_bound_64 rfl ?_
      refine gz_mmin 66 hC hX q_746 ⟨Nat.le_of_ble_eq_true rfl, Nat.le_of_ble_eq_true rfl⟩ gz_00 dX9_bound_66 ?_
      refine gz_imul 69 hC dX9_bound_69 ?_
      refine gz_iadd 70 hC dX9_bound_70 ?_
      refine gz_istore_n 71 hC [(3, .int (x7 + (x12 * (if x11 < x13 then x11 else x13)))), (5, .int x11), (2, .ref x6), (4, .int x8)] dX9_bound_71 rfl (by decide) rfl ?_
      refine gz_iinc 72 hC (x8 + (1 : Int32)) 3 [(4, .int (x8 + (1 : Int32))), (3, .int (x7 + (x12 * (if x11 < x13 then x11 else x13)))), (5, .int x11), (2, .ref x6)] dX9_bound_72 rfl rfl (by decide) rfl ?_
      refine gz_goto 75 30 hC dX9_bound_75 (by decide) ?_
      refine gz_sub [3, 1, 0] [(2, .ref x6), (3, .int (x7 + (x12 * (if x11 < x13 then x11 else x13)))), (4, .int (x8 + (1 : Int32)))] rfl ?_
      exact ih30 _ _ hF
set_option maxHeartbeats 4000000 in
theorem ct_X9_bound (l : Launch) (G : gz_G) (fu : Nat) (M : gz_M) (a0 : Nat) (a1 : Int32) (y : Int32 × gz_M) (hF : f_X9_bound fu M a0 a1 = some y) : gz_ct l yX9_bound cX9_bound 6 (some .int) 4 102 0 0 G [.ref a0, .int a1] M (some (.int y.1)) y.2 := by
  refine gz_ct.of (by decide) (Nat.le_of_ble_eq_true rfl) (fun C hC hX => ?_)
  unfold f_X9_bound at hF
  obtain ⟨-, hF⟩ := gz_gd_some hF
  show gz_go C 0 0 M [(0, .ref a0), (1, .int a1)] 0 []
  refine gz_aload_n 0 hC 0 dX9_bound_0 rfl rfl ?_
  refine gz_iload_n 1 hC 1 dX9_bound_1 rfl rfl ?_
  refine gz_cvP (st := []) 2 hC hX [.int a1] Value.int yl_X9_isValley yv_X9_isValley q_509 ⟨Nat.le_of_ble_eq_true rfl, Nat.le_of_ble_eq_true rfl⟩ ⟨_, rfl⟩ (fun r h => ct_X9_isValley _ _ fu M a0 a1 r h) rfl rfl (Nat.le_of_ble_eq_true rfl) dX9_bound_2 gz_00 hF (fun x1 hF => ?_)
  refine gz_if_ne 5 15 hC dX9_bound_5 (by decide) hF (fun hF => ?_) (fun hF => ?_)
  · skip
    refine gz_aload_n 15 hC 0 dX9_bound_15 rfl rfl ?_
    refine gz_getR 16 hC fl_X9_34 fk_9_3 dX9_bound_16 hF (fun x4 hF => ?_)
    refine gz_getR 19 hC fl_X9_147 fk_8_0 dX9_bound_19 hF (fun x5 hF => ?_)
    refine gz_iload_n 22 hC 1 dX9_bound_22 rfl rfl ?_
    refine gz_aald 23 hC dX9_bound_23 hF (fun x6 hF => ?_)
    refine gz_astore_n 24 hC [(2, .ref x6), (0, .ref a0), (1, .int a1)] dX9_bound_24 rfl (by decide) rfl ?_
    refine gz_iconst 25 hC (0 : Int32) dX9_bound_25 gz_k0 ?_
    refine gz_istore_n 26 hC [(3, .int (0 : Int32)), (2, .ref x6), (0, .ref a0), (1, .int a1)] dX9_bound_26 rfl (by decide) rfl ?_
    refine gz_iconst 27 hC (0 : Int32) dX9_bound_27 gz_k0 ?_
    refine gz_istore 28 hC [(4, .int (0 : Int32)), (3, .int (0 : Int32)), (2, .ref x6), (0, .ref a0), (1, .int a1)] dX9_bound_28 (by decide) rfl ?_
    refine gz_sub [2, 1, 0] [(2, .ref x6), (3, .int (0 : Int32)), (4, .int (0 : Int32))] rfl ?_
    refine w_X9_bound_30 hC hX ?_ _ _ _ hF
    intro x14 hF
    refine gz_iload_n 78 hC 0 dX9_bound_78 rfl rfl ?_
    exact gz_iretM 79 hC hX dX9_bound_79 hF
  · skip
    refine gz_aload_n 8 hC 0 dX9_bound_8 rfl rfl ?_
    refine gz_bipush 9 hC (-2 : Int32) dX9_bound_9 gz_bm2 ?_
    refine gz_cvM (st := []) 11 hC hX [.int (-2 : Int32)] Value.int yl_X9_refuse yv_X9_refuse q_417 ⟨Nat.le_of_ble_eq_true rfl, Nat.le_of_ble_eq_true rfl⟩ ⟨_, rfl⟩ (fun r h => ct_X9_refuse _ _ fu M a0 (-2 : Int32) r h) rfl rfl (Nat.le_of_ble_eq_true rfl) dX9_bound_11 gz_00 hF (fun x2 M3 hF => ?_)
    exact gz_iretM 14 hC hX dX9_bound_14 hF

theorem dX9_fair_0 : decode cX9_fair 0 = .ok (.aload_n 0, 1) := by decide +kernel
theorem dX9_fair_1 : decode cX9_fair 1 = .ok (.iload_n 1, 1) := by decide +kernel
theorem dX9_fair_2 : decode cX9_fair 2 = .ok (.invokevirtual 159, 3) := by decide +kernel
theorem dX9_fair_5 : decode cX9_fair 5 = .ok (.ifCond .eq 10, 3) := by decide +kernel
theorem dX9_fair_8 : decode cX9_fair 8 = .ok (.iload_n 2, 1) := by decide +kernel
theorem dX9_fair_9 : decode cX9_fair 9 = .ok (.invokestatic 251, 3) := by decide +kernel
theorem dX9_fair_12 : decode cX9_fair 12 = .ok (.ifCond .ne 10, 3) := by decide +kernel
theorem dX9_fair_15 : decode cX9_fair 15 = .ok (.aload_n 0, 1) := by decide +kernel
theorem dX9_fair_16 : decode cX9_fair 16 = .ok (.bipush (-2), 2) := by decide +kernel
theorem dX9_fair_18 : decode cX9_fair 18 = .ok (.invokevirtual 79, 3) := by decide +kernel
theorem dX9_fair_21 : decode cX9_fair 21 = .ok (.ireturn, 1) := by decide +kernel
theorem dX9_fair_22 : decode cX9_fair 22 = .ok (.aload_n 0, 1) := by decide +kernel
theorem dX9_fair_23 : decode cX9_fair 23 = .ok (.getfield 52, 3) := by decide +kernel
theorem dX9_fair_26 : decode cX9_fair 26 = .ok (.aload_n 0, 1) := by decide +kernel
theorem dX9_fair_27 : decode cX9_fair 27 = .ok (.getfield 34, 3) := by decide +kernel
theorem dX9_fair_30 : decode cX9_fair 30 = .ok (.getfield 147, 3) := by decide +kernel
theorem dX9_fair_33 : decode cX9_fair 33 = .ok (.iload_n 1, 1) := by decide +kernel
theorem dX9_fair_34 : decode cX9_fair 34 = .ok (.aaload, 1) := by decide +kernel
theorem dX9_fair_35 : decode cX9_fair 35 = .ok (.invokevirtual 254, 3) := by decide +kernel
theorem dX9_fair_38 : decode cX9_fair 38 = .ok (.aload_n 0, 1) := by decide +kernel
theorem dX9_fair_39 : decode cX9_fair 39 = .ok (.getfield 52, 3) := by decide +kernel
theorem dX9_fair_42 : decode cX9_fair 42 = .ok (.iload_n 2, 1) := by decide +kernel
theorem dX9_fair_43 : decode cX9_fair 43 = .ok (.invokevirtual 270, 3) := by decide +kernel
theorem dX9_fair_46 : decode cX9_fair 46 = .ok (.ireturn, 1) := by decide +kernel

def f_X9_fair (fu : Nat) (M : gz_M) (a0 : Nat) (a1 : Int32) (a2 : Int32) : Option (Int32 × gz_M) :=
  gz_gd M 9 a0 <|
  (f_X9_isValley fu M a0 a1).bind fun x1 =>
  gz_jn (gz_b2 (f_X9_refuse fu M a0 (-2 : Int32)) fun x10 M11 =>
    some (x10, M11)) fun j15 =>
  if x1 = 0 then
    j15
  else
    (f_X9_isCount fu M a2).bind fun x2 =>
    if x2 = 0 then
      j15
    else
      (gz_gR M 9 7 a0).bind fun x3 =>
      (gz_gR M 9 3 a0).bind fun x4 =>
      (gz_gR M 8 0 x4).bind fun x5 =>
      (gz_aR M x5 a1).bind fun x6 =>
      (f_X3_fillFor fu M x3 x6).bind fun M7 =>
      (gz_gR M7 9 7 a0).bind fun x8 =>
      (f_X3_fairest fu M7 x8 a2).bind fun x9 =>
      some (x9, M7)

set_option maxHeartbeats 4000000 in
theorem ct_X9_fair (l : Launch) (G : gz_G) (fu : Nat) (M : gz_M) (a0 : Nat) (a1 : Int32) (a2 : Int32) (y : Int32 × gz_M) (hF : f_X9_fair fu M a0 a1 a2 = some y) : gz_ct l yX9_fair cX9_fair 3 (some .int) 6 147 0 0 G [.ref a0, .int a1, .int a2] M (some (.int y.1)) y.2 := by
  refine gz_ct.of (by decide) (Nat.le_of_ble_eq_true rfl) (fun C hC hX => ?_)
  unfold f_X9_fair at hF
  obtain ⟨-, hF⟩ := gz_gd_some hF
  show gz_go C 0 0 M [(0, .ref a0), (1, .int a1), (2, .int a2)] 0 []
  refine gz_aload_n 0 hC 0 dX9_fair_0 rfl rfl ?_
  refine gz_iload_n 1 hC 1 dX9_fair_1 rfl rfl ?_
  refine gz_cvP (st := []) 2 hC hX [.int a1] Value.int yl_X9_isValley yv_X9_isValley q_509 ⟨Nat.le_of_ble_eq_true rfl, Nat.le_of_ble_eq_true rfl⟩ ⟨_, rfl⟩ (fun r h => ct_X9_isValley _ _ fu M a0 a1 r h) rfl rfl (Nat.le_of_ble_eq_true rfl) dX9_fair_2 gz_00 hF (fun x1 hF => ?_)
  refine gz_join (fun (j : Option (Int32 × gz_M)) => j = some y → gz_go C 0 0 M [(0, .ref a0)] 15 []) hF (fun hF => ?_) (fun j15 hj15 hF => ?_)
  · skip
    refine gz_aload_n 15 hC 0 dX9_fair_15 rfl rfl ?_
    refine gz_bipush 16 hC (-2 : Int32) dX9_fair_16 gz_bm2 ?_
    refine gz_cvM (st := []) 18 hC hX [.int (-2 : Int32)] Value.int yl_X9_refuse yv_X9_refuse q_417 ⟨Nat.le_of_ble_eq_true rfl, Nat.le_of_ble_eq_true rfl⟩ ⟨_, rfl⟩ (fun r h => ct_X9_refuse _ _ fu M a0 (-2 : Int32) r h) rfl rfl (Nat.le_of_ble_eq_true rfl) dX9_fair_18 gz_00 hF (fun x10 M11 hF => ?_)
    exact gz_iretM 21 hC hX dX9_fair_21 hF
  refine gz_if_eq 5 15 hC dX9_fair_5 (by decide) hF (fun hF => ?_) (fun hF => ?_)
  · skip
    refine gz_sub [0] [(0, .ref a0)] rfl ?_
    exact hj15 hF
  · skip
    refine gz_iload_n 8 hC 2 dX9_fair_8 rfl rfl ?_
    refine gz_csP (st := []) 9 hC hX [.int a2] Value.int yl_X9_isCount yv_X9_isCount q_817 ⟨Nat.le_of_ble_eq_true rfl, Nat.le_of_ble_eq_true rfl⟩ (fun r h => ct_X9_isCount _ _ fu M a2 r h) rfl rfl (Nat.le_of_ble_eq_true rfl) dX9_fair_9 gz_00 hF (fun x2 hF => ?_)
    refine gz_if_ne 12 22 hC dX9_fair_12 (by decide) hF (fun hF => ?_) (fun hF => ?_)
    · skip
      refine gz_aload_n 22 hC 0 dX9_fair_22 rfl rfl ?_
      refine gz_getR 23 hC fl_X9_52 fk_9_7 dX9_fair_23 hF (fun x3 hF => ?_)
      refine gz_aload_n 26 hC 0 dX9_fair_26 rfl rfl ?_
      refine gz_getR 27 hC fl_X9_34 fk_9_3 dX9_fair_27 hF (fun x4 hF => ?_)
      refine gz_getR 30 hC fl_X9_147 fk_8_0 dX9_fair_30 hF (fun x5 hF => ?_)
      refine gz_iload_n 33 hC 1 dX9_fair_33 rfl rfl ?_
      refine gz_aald 34 hC dX9_fair_34 hF (fun x6 hF => ?_)
      refine gz_cvV (st := []) 35 hC hX [.ref x6] yl_X3_fillFor yv_X3_fillFor q_820 ⟨Nat.le_of_ble_eq_true rfl, Nat.le_of_ble_eq_true rfl⟩ ⟨_, rfl⟩ (fun r h => ct_X3_fillFor _ _ fu M x3 x6 r h) rfl rfl (Nat.le_of_ble_eq_true rfl) dX9_fair_35 gz_00 hF (fun M7 hF => ?_)
      refine gz_aload_n 38 hC 0 dX9_fair_38 rfl rfl ?_
      refine gz_getR 39 hC fl_X9_52 fk_9_7 dX9_fair_39 hF (fun x8 hF => ?_)
      refine gz_iload_n 42 hC 2 dX9_fair_42 rfl rfl ?_
      refine gz_cvP (st := []) 43 hC hX [.int a2] Value.int yl_X3_fairest yv_X3_fairest q_889 ⟨Nat.le_of_ble_eq_true rfl, Nat.le_of_ble_eq_true rfl⟩ ⟨_, rfl⟩ (fun r h => ct_X3_fairest _ _ fu M7 x8 a2 r h) rfl rfl (Nat.le_of_ble_eq_true rfl) dX9_fair_43 gz_00 hF (fun x9 hF => ?_)
      exact gz_iretM 46 hC hX dX9_fair_46 hF
    · skip
      refine gz_sub [0] [(0, .ref a0)] rfl ?_
      exact hj15 hF

theorem dX9_shod_0 : decode cX9_shod 0 = .ok (.aload_n 0, 1) := by decide +kernel
theorem dX9_shod_1 : decode cX9_shod 1 = .ok (.iload_n 1, 1) := by decide +kernel
theorem dX9_shod_2 : decode cX9_shod 2 = .ok (.invokevirtual 159, 3) := by decide +kernel
theorem dX9_shod_5 : decode cX9_shod 5 = .ok (.ifCond .eq 10, 3) := by decide +kernel
theorem dX9_shod_8 : decode cX9_shod 8 = .ok (.iload_n 2, 1) := by decide +kernel
theorem dX9_shod_9 : decode cX9_shod 9 = .ok (.invokestatic 251, 3) := by decide +kernel
theorem dX9_shod_12 : decode cX9_shod 12 = .ok (.ifCond .ne 10, 3) := by decide +kernel
theorem dX9_shod_15 : decode cX9_shod 15 = .ok (.aload_n 0, 1) := by decide +kernel
theorem dX9_shod_16 : decode cX9_shod 16 = .ok (.bipush (-2), 2) := by decide +kernel
theorem dX9_shod_18 : decode cX9_shod 18 = .ok (.invokevirtual 79, 3) := by decide +kernel
theorem dX9_shod_21 : decode cX9_shod 21 = .ok (.ireturn, 1) := by decide +kernel
theorem dX9_shod_22 : decode cX9_shod 22 = .ok (.aload_n 0, 1) := by decide +kernel
theorem dX9_shod_23 : decode cX9_shod 23 = .ok (.getfield 52, 3) := by decide +kernel
theorem dX9_shod_26 : decode cX9_shod 26 = .ok (.aload_n 0, 1) := by decide +kernel
theorem dX9_shod_27 : decode cX9_shod 27 = .ok (.getfield 34, 3) := by decide +kernel
theorem dX9_shod_30 : decode cX9_shod 30 = .ok (.getfield 147, 3) := by decide +kernel
theorem dX9_shod_33 : decode cX9_shod 33 = .ok (.iload_n 1, 1) := by decide +kernel
theorem dX9_shod_34 : decode cX9_shod 34 = .ok (.aaload, 1) := by decide +kernel
theorem dX9_shod_35 : decode cX9_shod 35 = .ok (.invokevirtual 254, 3) := by decide +kernel
theorem dX9_shod_38 : decode cX9_shod 38 = .ok (.aload_n 0, 1) := by decide +kernel
theorem dX9_shod_39 : decode cX9_shod 39 = .ok (.getfield 52, 3) := by decide +kernel
theorem dX9_shod_42 : decode cX9_shod 42 = .ok (.iload_n 2, 1) := by decide +kernel
theorem dX9_shod_43 : decode cX9_shod 43 = .ok (.invokevirtual 273, 3) := by decide +kernel
theorem dX9_shod_46 : decode cX9_shod 46 = .ok (.ireturn, 1) := by decide +kernel

def f_X9_shod (fu : Nat) (M : gz_M) (a0 : Nat) (a1 : Int32) (a2 : Int32) : Option (Int32 × gz_M) :=
  gz_gd M 9 a0 <|
  (f_X9_isValley fu M a0 a1).bind fun x1 =>
  gz_jn (gz_b2 (f_X9_refuse fu M a0 (-2 : Int32)) fun x10 M11 =>
    some (x10, M11)) fun j15 =>
  if x1 = 0 then
    j15
  else
    (f_X9_isCount fu M a2).bind fun x2 =>
    if x2 = 0 then
      j15
    else
      (gz_gR M 9 7 a0).bind fun x3 =>
      (gz_gR M 9 3 a0).bind fun x4 =>
      (gz_gR M 8 0 x4).bind fun x5 =>
      (gz_aR M x5 a1).bind fun x6 =>
      (f_X3_fillFor fu M x3 x6).bind fun M7 =>
      (gz_gR M7 9 7 a0).bind fun x8 =>
      (f_X3_mostShod fu M7 x8 a2).bind fun x9 =>
      some (x9, M7)

set_option maxHeartbeats 4000000 in
theorem ct_X9_shod (l : Launch) (G : gz_G) (fu : Nat) (M : gz_M) (a0 : Nat) (a1 : Int32) (a2 : Int32) (y : Int32 × gz_M) (hF : f_X9_shod fu M a0 a1 a2 = some y) : gz_ct l yX9_shod cX9_shod 3 (some .int) 6 147 0 0 G [.ref a0, .int a1, .int a2] M (some (.int y.1)) y.2 := by
  refine gz_ct.of (by decide) (Nat.le_of_ble_eq_true rfl) (fun C hC hX => ?_)
  unfold f_X9_shod at hF
  obtain ⟨-, hF⟩ := gz_gd_some hF
  show gz_go C 0 0 M [(0, .ref a0), (1, .int a1), (2, .int a2)] 0 []
  refine gz_aload_n 0 hC 0 dX9_shod_0 rfl rfl ?_
  refine gz_iload_n 1 hC 1 dX9_shod_1 rfl rfl ?_
  refine gz_cvP (st := []) 2 hC hX [.int a1] Value.int yl_X9_isValley yv_X9_isValley q_509 ⟨Nat.le_of_ble_eq_true rfl, Nat.le_of_ble_eq_true rfl⟩ ⟨_, rfl⟩ (fun r h => ct_X9_isValley _ _ fu M a0 a1 r h) rfl rfl (Nat.le_of_ble_eq_true rfl) dX9_shod_2 gz_00 hF (fun x1 hF => ?_)
  refine gz_join (fun (j : Option (Int32 × gz_M)) => j = some y → gz_go C 0 0 M [(0, .ref a0)] 15 []) hF (fun hF => ?_) (fun j15 hj15 hF => ?_)
  · skip
    refine gz_aload_n 15 hC 0 dX9_shod_15 rfl rfl ?_
    refine gz_bipush 16 hC (-2 : Int32) dX9_shod_16 gz_bm2 ?_
    refine gz_cvM (st := []) 18 hC hX [.int (-2 : Int32)] Value.int yl_X9_refuse yv_X9_refuse q_417 ⟨Nat.le_of_ble_eq_true rfl, Nat.le_of_ble_eq_true rfl⟩ ⟨_, rfl⟩ (fun r h => ct_X9_refuse _ _ fu M a0 (-2 : Int32) r h) rfl rfl (Nat.le_of_ble_eq_true rfl) dX9_shod_18 gz_00 hF (fun x10 M11 hF => ?_)
    exact gz_iretM 21 hC hX dX9_shod_21 hF
  refine gz_if_eq 5 15 hC dX9_shod_5 (by decide) hF (fun hF => ?_) (fun hF => ?_)
  · skip
    refine gz_sub [0] [(0, .ref a0)] rfl ?_
    exact hj15 hF
  · skip
    refine gz_iload_n 8 hC 2 dX9_shod_8 rfl rfl ?_
    refine gz_csP (st := []) 9 hC hX [.int a2] Value.int yl_X9_isCount yv_X9_isCount q_817 ⟨Nat.le_of_ble_eq_true rfl, Nat.le_of_ble_eq_true rfl⟩ (fun r h => ct_X9_isCount _ _ fu M a2 r h) rfl rfl (Nat.le_of_ble_eq_true rfl) dX9_shod_9 gz_00 hF (fun x2 hF => ?_)
    refine gz_if_ne 12 22 hC dX9_shod_12 (by decide) hF (fun hF => ?_) (fun hF => ?_)
    · skip
      refine gz_aload_n 22 hC 0 dX9_shod_22 rfl rfl ?_
      refine gz_getR 23 hC fl_X9_52 fk_9_7 dX9_shod_23 hF (fun x3 hF => ?_)
      refine gz_aload_n 26 hC 0 dX9_shod_26 rfl rfl ?_
      refine gz_getR 27 hC fl_X9_34 fk_9_3 dX9_shod_27 hF (fun x4 hF => ?_)
      refine gz_getR 30 hC fl_X9_147 fk_8_0 dX9_shod_30 hF (fun x5 hF => ?_)
      refine gz_iload_n 33 hC 1 dX9_shod_33 rfl rfl ?_
      refine gz_aald 34 hC dX9_shod_34 hF (fun x6 hF => ?_)
      refine gz_cvV (st := []) 35 hC hX [.ref x6] yl_X3_fillFor yv_X3_fillFor q_820 ⟨Nat.le_of_ble_eq_true rfl, Nat.le_of_ble_eq_true rfl⟩ ⟨_, rfl⟩ (fun r h => ct_X3_fillFor _ _ fu M x3 x6 r h) rfl rfl (Nat.le_of_ble_eq_true rfl) dX9_shod_35 gz_00 hF (fun M7 hF => ?_)
      refine gz_aload_n 38 hC 0 dX9_shod_38 rfl rfl ?_
      refine gz_getR 39 hC fl_X9_52 fk_9_7 dX9_shod_39 hF (fun x8 hF => ?_)
      refine gz_iload_n 42 hC 2 dX9_shod_42 rfl rfl ?_
      refine gz_cvP (st := []) 43 hC hX [.int a2] Value.int yl_X3_mostShod yv_X3_mostShod q_901 ⟨Nat.le_of_ble_eq_true rfl, Nat.le_of_ble_eq_true rfl⟩ ⟨_, rfl⟩ (fun r h => ct_X3_mostShod _ _ fu M7 x8 a2 r h) rfl rfl (Nat.le_of_ble_eq_true rfl) dX9_shod_43 gz_00 hF (fun x9 hF => ?_)
      exact gz_iretM 46 hC hX dX9_shod_46 hF
    · skip
      refine gz_sub [0] [(0, .ref a0)] rfl ?_
      exact hj15 hF
