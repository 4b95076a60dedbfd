theorem dX6_init_0 : decode cX6_init 0 = .ok (.aload_n 0, 1) := by decide +kernel
theorem dX6_init_1 : decode cX6_init 1 = .ok (.invokespecial 3, 3) := by decide +kernel
theorem dX6_init_4 : decode cX6_init 4 = .ok (.aload_n 0, 1) := by decide +kernel
theorem dX6_init_5 : decode cX6_init 5 = .ok (.sipush 250, 3) := by decide +kernel
theorem dX6_init_8 : decode cX6_init 8 = .ok (.newarray .int, 2) := by decide +kernel
theorem dX6_init_10 : decode cX6_init 10 = .ok (.putfield 9, 3) := by decide +kernel
theorem dX6_init_13 : decode cX6_init 13 = .ok (.aload_n 0, 1) := by decide +kernel
theorem dX6_init_14 : decode cX6_init 14 = .ok (.iconst 0, 1) := by decide +kernel
theorem dX6_init_15 : decode cX6_init 15 = .ok (.putfield 15, 3) := by decide +kernel
theorem dX6_init_18 : decode cX6_init 18 = .ok (.return_, 1) := by decide +kernel
def f_X6_init (fu : Nat) (M : gz_M) (a0 : Nat) : Option (gz_M) :=
  gz_gd M 6 a0 <|
  gz_jn (gz_na M 0 ((250 : Int32)).toNatClampNeg) fun M1 =>
  (gz_pR M1 6 0 a0 M.1).bind fun M2 =>
  (gz_pI M2 6 1 a0 (0 : Int32)).bind fun M3 =>
  some M3
set_option maxHeartbeats 4000000 in
theorem ct_X6_init (l : Launch) (G : gz_G) (fu : Nat) (M : gz_M) (a0 : Nat) (y : gz_M) (hF : f_X6_init fu M a0 = some y) : gz_ct l yX6_init cX6_init 1 none 1 20 1 250 G [.ref a0] M none y := by
  refine gz_ct.of (by decide) (Nat.le_of_ble_eq_true rfl) (fun C hC hX => ?_)
  unfold f_X6_init at hF
  obtain ⟨-, hF⟩ := gz_gd_some hF
  show gz_go C 0 0 M [(0, .ref a0)] 0 []
  refine gz_aload_n 0 hC 0 dX6_init_0 rfl rfl ?_
  refine gz_oin 1 hC hX q_102 ⟨Nat.le_of_ble_eq_true rfl, Nat.le_of_ble_eq_true rfl⟩ dX6_init_1 ?_
  refine gz_aload_n 4 hC 0 dX6_init_4 rfl rfl ?_
  refine gz_sipush 5 hC (250 : Int32) dX6_init_5 gz_s250 ?_
  refine gz_newaX 8 hC hX 1 250 0 (atype := .int) q_112 rfl (gz_hzI _) rfl (by decide) (by decide) (by decide) ⟨Nat.le_of_ble_eq_true rfl, Nat.le_of_ble_eq_true rfl⟩ dX6_init_8 hF (fun M1 _ hF => ?_)
  refine gz_putR 10 hC fl_X6_9 fk_6_0 (Or.inr ⟨hX.2.2.2, _, rfl, rfl⟩) rfl rfl dX6_init_10 hF (fun M2 hF => ?_)
  refine gz_aload_n 13 hC 0 dX6_init_13 rfl rfl ?_
  refine gz_iconst 14 hC (0 : Int32) dX6_init_14 gz_k0 ?_
  refine gz_putI 15 hC fl_X6_15 fk_6_1 dX6_init_15 hF (fun M3 hF => ?_)
  exact gz_vretM 18 hC hX dX6_init_18 hF

theorem dX2_init_0 : decode cX2_init 0 = .ok (.aload_n 0, 1) := by decide +kernel
theorem dX2_init_1 : decode cX2_init 1 = .ok (.invokespecial 3, 3) := by decide +kernel
theorem dX2_init_4 : decode cX2_init 4 = .ok (.aload_n 0, 1) := by decide +kernel
theorem dX2_init_5 : decode cX2_init 5 = .ok (.iconst 0, 1) := by decide +kernel
theorem dX2_init_6 : decode cX2_init 6 = .ok (.putfield 11, 3) := by decide +kernel
theorem dX2_init_9 : decode cX2_init 9 = .ok (.aload_n 0, 1) := by decide +kernel
theorem dX2_init_10 : decode cX2_init 10 = .ok (.iconst 0, 1) := by decide +kernel
theorem dX2_init_11 : decode cX2_init 11 = .ok (.putfield 15, 3) := by decide +kernel
theorem dX2_init_14 : decode cX2_init 14 = .ok (.aload_n 0, 1) := by decide +kernel
theorem dX2_init_15 : decode cX2_init 15 = .ok (.iconst 0, 1) := by decide +kernel
theorem dX2_init_16 : decode cX2_init 16 = .ok (.putfield 18, 3) := by decide +kernel
theorem dX2_init_19 : decode cX2_init 19 = .ok (.aload_n 0, 1) := by decide +kernel
theorem dX2_init_20 : decode cX2_init 20 = .ok (.iconst (-1), 1) := by decide +kernel
theorem dX2_init_21 : decode cX2_init 21 = .ok (.putfield 21, 3) := by decide +kernel
theorem dX2_init_24 : decode cX2_init 24 = .ok (.aload_n 0, 1) := by decide +kernel
theorem dX2_init_25 : decode cX2_init 25 = .ok (.aload_n 1, 1) := by decide +kernel
theorem dX2_init_26 : decode cX2_init 26 = .ok (.putfield 24, 3) := by decide +kernel
theorem dX2_init_29 : decode cX2_init 29 = .ok (.return_, 1) := by decide +kernel
def f_X2_init (fu : Nat) (M : gz_M) (a0 : Nat) (a1 : Nat) : Option (gz_M) :=
  gz_gd M 2 a0 <|
  (gz_pI M 2 1 a0 (0 : Int32)).bind fun M1 =>
  (gz_pI M1 2 2 a0 (0 : Int32)).bind fun M2 =>
  (gz_pI M2 2 3 a0 (0 : Int32)).bind fun M3 =>
  (gz_pI M3 2 4 a0 (-1 : Int32)).bind fun M4 =>
  (gz_pR M4 2 0 a0 a1).bind fun M5 =>
  some M5
set_option maxHeartbeats 4000000 in
theorem ct_X2_init (l : Launch) (G : gz_G) (fu : Nat) (M : gz_M) (a0 : Nat) (a1 : Nat) (y : gz_M) (hF : f_X2_init fu M a0 a1 = some y) : gz_ct l yX2_init cX2_init 2 none 1 20 0 0 G [.ref a0, .ref a1] M none y := by
  refine gz_ct.of (by decide) (Nat.le_of_ble_eq_true rfl) (fun C hC hX => ?_)
  unfold f_X2_init at hF
  obtain ⟨-, hF⟩ := gz_gd_some hF
  show gz_go C 0 0 M [(0, .ref a0), (1, .ref a1)] 0 []
  refine gz_aload_n 0 hC 0 dX2_init_0 rfl rfl ?_
  refine gz_oin 1 hC hX q_118 ⟨Nat.le_of_ble_eq_true rfl, Nat.le_of_ble_eq_true rfl⟩ dX2_init_1 ?_
  refine gz_aload_n 4 hC 0 dX2_init_4 rfl rfl ?_
  refine gz_iconst 5 hC (0 : Int32) dX2_init_5 gz_k0 ?_
  refine gz_putI 6 hC fl_X2_11 fk_2_1 dX2_init_6 hF (fun M1 hF => ?_)
  refine gz_aload_n 9 hC 0 dX2_init_9 rfl rfl ?_
  refine gz_iconst 10 hC (0 : Int32) dX2_init_10 gz_k0 ?_
  refine gz_putI 11 hC fl_X2_15 fk_2_2 dX2_init_11 hF (fun M2 hF => ?_)
  refine gz_aload_n 14 hC 0 dX2_init_14 rfl rfl ?_
  refine gz_iconst 15 hC (0 : Int32) dX2_init_15 gz_k0 ?_
  refine gz_putI 16 hC fl_X2_18 fk_2_3 dX2_init_16 hF (fun M3 hF => ?_)
  refine gz_aload_n 19 hC 0 dX2_init_19 rfl rfl ?_
  refine gz_iconst 20 hC (-1 : Int32) dX2_init_20 gz_km1 ?_
  refine gz_putI 21 hC fl_X2_21 fk_2_4 dX2_init_21 hF (fun M4 hF => ?_)
  refine gz_aload_n 24 hC 0 dX2_init_24 rfl rfl ?_
  refine gz_aload_n 25 hC 1 dX2_init_25 rfl rfl ?_
  refine gz_putR 26 hC fl_X2_24 fk_2_0 (Or.inr ⟨hX.2.2.2, _, rfl, rfl⟩) rfl rfl dX2_init_26 hF (fun M5 hF => ?_)
  exact gz_vretM 29 hC hX dX2_init_29 hF

theorem dX4_init_0 : decode cX4_init 0 = .ok (.aload_n 0, 1) := by decide +kernel
theorem dX4_init_1 : decode cX4_init 1 = .ok (.invokespecial 3, 3) := by decide +kernel
theorem dX4_init_4 : decode cX4_init 4 = .ok (.aload_n 0, 1) := by decide +kernel
theorem dX4_init_5 : decode cX4_init 5 = .ok (.bipush 40, 2) := by decide +kernel
theorem dX4_init_7 : decode cX4_init 7 = .ok (.newarray .long, 2) := by decide +kernel
theorem dX4_init_9 : decode cX4_init 9 = .ok (.putfield 9, 3) := by decide +kernel
theorem dX4_init_12 : decode cX4_init 12 = .ok (.aload_n 0, 1) := by decide +kernel
theorem dX4_init_13 : decode cX4_init 13 = .ok (.iconst (-1), 1) := by decide +kernel
theorem dX4_init_14 : decode cX4_init 14 = .ok (.putfield 15, 3) := by decide +kernel
theorem dX4_init_17 : decode cX4_init 17 = .ok (.aload_n 0, 1) := by decide +kernel
theorem dX4_init_18 : decode cX4_init 18 = .ok (.iconst 0, 1) := by decide +kernel
theorem dX4_init_19 : decode cX4_init 19 = .ok (.putfield 19, 3) := by decide +kernel
theorem dX4_init_22 : decode cX4_init 22 = .ok (.aload_n 0, 1) := by decide +kernel
theorem dX4_init_23 : decode cX4_init 23 = .ok (.iconst 0, 1) := by decide +kernel
theorem dX4_init_24 : decode cX4_init 24 = .ok (.putfield 22, 3) := by decide +kernel
theorem dX4_init_27 : decode cX4_init 27 = .ok (.aload_n 0, 1) := by decide +kernel
theorem dX4_init_28 : decode cX4_init 28 = .ok (.iconst 0, 1) := by decide +kernel
theorem dX4_init_29 : decode cX4_init 29 = .ok (.putfield 25, 3) := by decide +kernel
theorem dX4_init_32 : decode cX4_init 32 = .ok (.return_, 1) := by decide +kernel
def f_X4_init (fu : Nat) (M : gz_M) (a0 : Nat) : Option (gz_M) :=
  gz_gd M 4 a0 <|
  gz_jn (gz_na M 1 ((40 : Int32)).toNatClampNeg) fun M1 =>
  (gz_pR M1 4 0 a0 M.1).bind fun M2 =>
  (gz_pI M2 4 1 a0 (-1 : Int32)).bind fun M3 =>
  (gz_pI M3 4 2 a0 (0 : Int32)).bind fun M4 =>
  (gz_pI M4 4 3 a0 (0 : Int32)).bind fun M5 =>
  (gz_pI M5 4 4 a0 (0 : Int32)).bind fun M6 =>
  some M6
set_option maxHeartbeats 4000000 in
theorem ct_X4_init (l : Launch) (G : gz_G) (fu : Nat) (M : gz_M) (a0 : Nat) (y : gz_M) (hF : f_X4_init fu M a0 = some y) : gz_ct l yX4_init cX4_init 1 none 1 20 1 40 G [.ref a0] M none y := by
  refine gz_ct.of (by decide) (Nat.le_of_ble_eq_true rfl) (fun C hC hX => ?_)
  unfold f_X4_init at hF
  obtain ⟨-, hF⟩ := gz_gd_some hF
  show gz_go C 0 0 M [(0, .ref a0)] 0 []
  refine gz_aload_n 0 hC 0 dX4_init_0 rfl rfl ?_
  refine gz_oin 1 hC hX q_355 ⟨Nat.le_of_ble_eq_true rfl, Nat.le_of_ble_eq_true rfl⟩ dX4_init_1 ?_
  refine gz_aload_n 4 hC 0 dX4_init_4 rfl rfl ?_
  refine gz_bipush 5 hC (40 : Int32) dX4_init_5 gz_b40 ?_
  refine gz_newaX 7 hC hX 1 40 1 (atype := .long) q_375 rfl (gz_hzL _) rfl (by decide) (by decide) (by decide) ⟨Nat.le_of_ble_eq_true rfl, Nat.le_of_ble_eq_true rfl⟩ dX4_init_7 hF (fun M1 _ hF => ?_)
  refine gz_putR 9 hC fl_X4_9 fk_4_0 (Or.inr ⟨hX.2.2.2, _, rfl, rfl⟩) rfl rfl dX4_init_9 hF (fun M2 hF => ?_)
  refine gz_aload_n 12 hC 0 dX4_init_12 rfl rfl ?_
  refine gz_iconst 13 hC (-1 : Int32) dX4_init_13 gz_km1 ?_
  refine gz_putI 14 hC fl_X4_15 fk_4_1 dX4_init_14 hF (fun M3 hF => ?_)
  refine gz_aload_n 17 hC 0 dX4_init_17 rfl rfl ?_
  refine gz_iconst 18 hC (0 : Int32) dX4_init_18 gz_k0 ?_
  refine gz_putI 19 hC fl_X4_19 fk_4_2 dX4_init_19 hF (fun M4 hF => ?_)
  refine gz_aload_n 22 hC 0 dX4_init_22 rfl rfl ?_
  refine gz_iconst 23 hC (0 : Int32) dX4_init_23 gz_k0 ?_
  refine gz_putI 24 hC fl_X4_22 fk_4_3 dX4_init_24 hF (fun M5 hF => ?_)
  refine gz_aload_n 27 hC 0 dX4_init_27 rfl rfl ?_
  refine gz_iconst 28 hC (0 : Int32) dX4_init_28 gz_k0 ?_
  refine gz_putI 29 hC fl_X4_25 fk_4_4 dX4_init_29 hF (fun M6 hF => ?_)
  exact gz_vretM 32 hC hX dX4_init_32 hF

theorem dX7_init_0 : decode cX7_init 0 = .ok (.aload_n 0, 1) := by decide +kernel
theorem dX7_init_1 : decode cX7_init 1 = .ok (.invokespecial 3, 3) := by decide +kernel
theorem dX7_init_4 : decode cX7_init 4 = .ok (.aload_n 0, 1) := by decide +kernel
theorem dX7_init_5 : decode cX7_init 5 = .ok (.bipush 60, 2) := by decide +kernel
theorem dX7_init_7 : decode cX7_init 7 = .ok (.newarray .int, 2) := by decide +kernel
theorem dX7_init_9 : decode cX7_init 9 = .ok (.putfield 9, 3) := by decide +kernel
theorem dX7_init_12 : decode cX7_init 12 = .ok (.aload_n 0, 1) := by decide +kernel
theorem dX7_init_13 : decode cX7_init 13 = .ok (.bipush 40, 2) := by decide +kernel
theorem dX7_init_15 : decode cX7_init 15 = .ok (.newarray .int, 2) := by decide +kernel
theorem dX7_init_17 : decode cX7_init 17 = .ok (.putfield 15, 3) := by decide +kernel
theorem dX7_init_20 : decode cX7_init 20 = .ok (.aload_n 0, 1) := by decide +kernel
theorem dX7_init_21 : decode cX7_init 21 = .ok (.iconst 3, 1) := by decide +kernel
theorem dX7_init_22 : decode cX7_init 22 = .ok (.newarray .int, 2) := by decide +kernel
theorem dX7_init_24 : decode cX7_init 24 = .ok (.putfield 18, 3) := by decide +kernel
theorem dX7_init_27 : decode cX7_init 27 = .ok (.aload_n 0, 1) := by decide +kernel
theorem dX7_init_28 : decode cX7_init 28 = .ok (.iconst 3, 1) := by decide +kernel
theorem dX7_init_29 : decode cX7_init 29 = .ok (.newarray .int, 2) := by decide +kernel
theorem dX7_init_31 : decode cX7_init 31 = .ok (.putfield 21, 3) := by decide +kernel
theorem dX7_init_34 : decode cX7_init 34 = .ok (.aload_n 0, 1) := by decide +kernel
theorem dX7_init_35 : decode cX7_init 35 = .ok (.iconst 0, 1) := by decide +kernel
theorem dX7_init_36 : decode cX7_init 36 = .ok (.putfield 24, 3) := by decide +kernel
theorem dX7_init_39 : decode cX7_init 39 = .ok (.aload_n 0, 1) := by decide +kernel
theorem dX7_init_40 : decode cX7_init 40 = .ok (.iconst 0, 1) := by decide +kernel
theorem dX7_init_41 : decode cX7_init 41 = .ok (.putfield 28, 3) := by decide +kernel
theorem dX7_init_44 : decode cX7_init 44 = .ok (.aload_n 0, 1) := by decide +kernel
theorem dX7_init_45 : decode cX7_init 45 = .ok (.bipush 50, 2) := by decide +kernel
theorem dX7_init_47 : decode cX7_init 47 = .ok (.putfield 31, 3) := by decide +kernel
theorem dX7_init_50 : decode cX7_init 50 = .ok (.aload_n 0, 1) := by decide +kernel
theorem dX7_init_51 : decode cX7_init 51 = .ok (.iconst 1, 1) := by decide +kernel
theorem dX7_init_52 : decode cX7_init 52 = .ok (.putfield 34, 3) := by decide +kernel
theorem dX7_init_55 : decode cX7_init 55 = .ok (.return_, 1) := by decide +kernel
def f_X7_init (fu : Nat) (M : gz_M) (a0 : Nat) : Option (gz_M) :=
  gz_gd M 7 a0 <|
  gz_jn (gz_na M 0 ((60 : Int32)).toNatClampNeg) fun M1 =>
  (gz_pR M1 7 0 a0 M.1).bind fun M2 =>
  gz_jn (gz_na M2 0 ((40 : Int32)).toNatClampNeg) fun M3 =>
  (gz_pR M3 7 1 a0 M2.1).bind fun M4 =>
  gz_jn (gz_na M4 0 ((3 : Int32)).toNatClampNeg) fun M5 =>
  (gz_pR M5 7 2 a0 M4.1).bind fun M6 =>
  gz_jn (gz_na M6 0 ((3 : Int32)).toNatClampNeg) fun M7 =>
  (gz_pR M7 7 3 a0 M6.1).bind fun M8 =>
  (gz_pI M8 7 4 a0 (0 : Int32)).bind fun M9 =>
  (gz_pI M9 7 5 a0 (0 : Int32)).bind fun M10 =>
  (gz_pI M10 7 6 a0 (50 : Int32)).bind fun M11 =>
  (gz_pI M11 7 7 a0 (1 : Int32)).bind fun M12 =>
  some M12
set_option maxHeartbeats 4000000 in
theorem ct_X7_init (l : Launch) (G : gz_G) (fu : Nat) (M : gz_M) (a0 : Nat) (y : gz_M) (hF : f_X7_init fu M a0 = some y) : gz_ct l yX7_init cX7_init 1 none 1 20 4 106 G [.ref a0] M none y := by
  refine gz_ct.of (by decide) (Nat.le_of_ble_eq_true rfl) (fun C hC hX => ?_)
  unfold f_X7_init at hF
  obtain ⟨-, hF⟩ := gz_gd_some hF
  show gz_go C 0 0 M [(0, .ref a0)] 0 []
  refine gz_aload_n 0 hC 0 dX7_init_0 rfl rfl ?_
  refine gz_oin 1 hC hX q_156 ⟨Nat.le_of_ble_eq_true rfl, Nat.le_of_ble_eq_true rfl⟩ dX7_init_1 ?_
  refine gz_aload_n 4 hC 0 dX7_init_4 rfl rfl ?_
  refine gz_bipush 5 hC (60 : Int32) dX7_init_5 gz_b60 ?_
  refine gz_newaX 7 hC hX 1 60 0 (atype := .int) q_112 rfl (gz_hzI _) rfl (by decide) (by decide) (by decide) ⟨Nat.le_of_ble_eq_true rfl, Nat.le_of_ble_eq_true rfl⟩ dX7_init_7 hF (fun M1 _ hF => ?_)
  refine gz_putR 9 hC fl_X7_9 fk_7_0 (Or.inr ⟨hX.2.2.2, _, rfl, rfl⟩) rfl rfl dX7_init_9 hF (fun M2 hF => ?_)
  refine gz_aload_n 12 hC 0 dX7_init_12 rfl rfl ?_
  refine gz_bipush 13 hC (40 : Int32) dX7_init_13 gz_b40 ?_
  refine gz_newaX 15 hC hX 2 100 0 (atype := .int) q_112 rfl (gz_hzI _) rfl (by decide) (by decide) (by decide) ⟨Nat.le_of_ble_eq_true rfl, Nat.le_of_ble_eq_true rfl⟩ dX7_init_15 hF (fun M3 _ hF => ?_)
  refine gz_putR 17 hC fl_X7_15 fk_7_1 (Or.inr ⟨hX.2.2.2, _, rfl, rfl⟩) rfl rfl dX7_init_17 hF (fun M4 hF => ?_)
  refine gz_aload_n 20 hC 0 dX7_init_20 rfl rfl ?_
  refine gz_iconst 21 hC (3 : Int32) dX7_init_21 gz_k3 ?_
  refine gz_newaX 22 hC hX 3 103 0 (atype := .int) q_112 rfl (gz_hzI _) rfl (by decide) (by decide) (by decide) ⟨Nat.le_of_ble_eq_true rfl, Nat.le_of_ble_eq_true rfl⟩ dX7_init_22 hF (fun M5 _ hF => ?_)
  refine gz_putR 24 hC fl_X7_18 fk_7_2 (Or.inr ⟨hX.2.2.2, _, rfl, rfl⟩) rfl rfl dX7_init_24 hF (fun M6 hF => ?_)
  refine gz_aload_n 27 hC 0 dX7_init_27 rfl rfl ?_
  refine gz_iconst 28 hC (3 : Int32) dX7_init_28 gz_k3 ?_
  refine gz_newaX 29 hC hX 4 106 0 (atype := .int) q_112 rfl (gz_hzI _) rfl (by decide) (by decide) (by decide) ⟨Nat.le_of_ble_eq_true rfl, Nat.le_of_ble_eq_true rfl⟩ dX7_init_29 hF (fun M7 _ hF => ?_)
  refine gz_putR 31 hC fl_X7_21 fk_7_3 (Or.inr ⟨hX.2.2.2, _, rfl, rfl⟩) rfl rfl dX7_init_31 hF (fun M8 hF => ?_)
  refine gz_aload_n 34 hC 0 dX7_init_34 rfl rfl ?_
  refine gz_iconst 35 hC (0 : Int32) dX7_init_35 gz_k0 ?_
  refine gz_putI 36 hC fl_X7_24 fk_7_4 dX7_init_36 hF (fun M9 hF => ?_)
  refine gz_aload_n 39 hC 0 dX7_init_39 rfl rfl ?_
  refine gz_iconst 40 hC (0 : Int32) dX7_init_40 gz_k0 ?_
  refine gz_putI 41 hC fl_X7_28 fk_7_5 dX7_init_41 hF (fun M10 hF => ?_)
  refine gz_aload_n 44 hC 0 dX7_init_44 rfl rfl ?_
  refine gz_bipush 45 hC (50 : Int32) dX7_init_45 gz_b50 ?_
  refine gz_putI 47 hC fl_X7_31 fk_7_6 dX7_init_47 hF (fun M11 hF => ?_)
  refine gz_aload_n 50 hC 0 dX7_init_50 rfl rfl ?_
  refine gz_iconst 51 hC (1 : Int32) dX7_init_51 gz_k1 ?_
  refine gz_putI 52 hC fl_X7_34 fk_7_7 dX7_init_52 hF (fun M12 hF => ?_)
  exact gz_vretM 55 hC hX dX7_init_55 hF

theorem dX1_init_0 : decode cX1_init 0 = .ok (.aload_n 0, 1) := by decide +kernel
theorem dX1_init_1 : decode cX1_init 1 = .ok (.invokespecial 3, 3) := by decide +kernel
theorem dX1_init_4 : decode cX1_init 4 = .ok (.aload_n 0, 1) := by decide +kernel
theorem dX1_init_5 : decode cX1_init 5 = .ok (.new 9, 3) := by decide +kernel
theorem dX1_init_8 : decode cX1_init 8 = .ok (.dup, 1) := by decide +kernel
theorem dX1_init_9 : decode cX1_init 9 = .ok (.invokespecial 11, 3) := by decide +kernel
theorem dX1_init_12 : decode cX1_init 12 = .ok (.putfield 12, 3) := by decide +kernel
theorem dX1_init_15 : decode cX1_init 15 = .ok (.aload_n 0, 1) := by decide +kernel
theorem dX1_init_16 : decode cX1_init 16 = .ok (.iconst 0, 1) := by decide +kernel
theorem dX1_init_17 : decode cX1_init 17 = .ok (.putfield 18, 3) := by decide +kernel
theorem dX1_init_20 : decode cX1_init 20 = .ok (.aload_n 0, 1) := by decide +kernel
theorem dX1_init_21 : decode cX1_init 21 = .ok (.iconst (-1), 1) := by decide +kernel
theorem dX1_init_22 : decode cX1_init 22 = .ok (.putfield 22, 3) := by decide +kernel
theorem dX1_init_25 : decode cX1_init 25 = .ok (.aload_n 0, 1) := by decide +kernel
theorem dX1_init_26 : decode cX1_init 26 = .ok (.iconst 0, 1) := by decide +kernel
theorem dX1_init_27 : decode cX1_init 27 = .ok (.putfield 26, 3) := by decide +kernel
theorem dX1_init_30 : decode cX1_init 30 = .ok (.aload_n 0, 1) := by decide +kernel
theorem dX1_init_31 : decode cX1_init 31 = .ok (.iconst 0, 1) := by decide +kernel
theorem dX1_init_32 : decode cX1_init 32 = .ok (.putfield 29, 3) := by decide +kernel
theorem dX1_init_35 : decode cX1_init 35 = .ok (.aload_n 0, 1) := by decide +kernel
theorem dX1_init_36 : decode cX1_init 36 = .ok (.iconst (-1), 1) := by decide +kernel
theorem dX1_init_37 : decode cX1_init 37 = .ok (.putfield 32, 3) := by decide +kernel
theorem dX1_init_40 : decode cX1_init 40 = .ok (.aload_n 0, 1) := by decide +kernel
theorem dX1_init_41 : decode cX1_init 41 = .ok (.iconst (-1), 1) := by decide +kernel
theorem dX1_init_42 : decode cX1_init 42 = .ok (.putfield 35, 3) := by decide +kernel
theorem dX1_init_45 : decode cX1_init 45 = .ok (.return_, 1) := by decide +kernel
def f_X1_init (fu : Nat) (M : gz_M) (a0 : Nat) : Option (gz_M) :=
  gz_gd M 1 a0 <|
  gz_jn (gz_nw M 7) fun M1 =>
  (f_X7_init fu M1 M.1).bind fun M2 =>
  (gz_pR M2 1 0 a0 M.1).bind fun M3 =>
  (gz_pZ M3 1 1 a0 (0 : Int32)).bind fun M4 =>
  (gz_pI M4 1 2 a0 (-1 : Int32)).bind fun M5 =>
  (gz_pI M5 1 3 a0 (0 : Int32)).bind fun M6 =>
  (gz_pI M6 1 4 a0 (0 : Int32)).bind fun M7 =>
  (gz_pI M7 1 5 a0 (-1 : Int32)).bind fun M8 =>
  (gz_pI M8 1 6 a0 (-1 : Int32)).bind fun M9 =>
  some M9
set_option maxHeartbeats 4000000 in
theorem ct_X1_init (l : Launch) (G : gz_G) (fu : Nat) (M : gz_M) (a0 : Nat) (y : gz_M) (hF : f_X1_init fu M a0 = some y) : gz_ct l yX1_init cX1_init 1 none 2 40 5 114 G [.ref a0] M none y := by
  refine gz_ct.of (by decide) (Nat.le_of_ble_eq_true rfl) (fun C hC hX => ?_)
  unfold f_X1_init at hF
  obtain ⟨-, hF⟩ := gz_gd_some hF
  show gz_go C 0 0 M [(0, .ref a0)] 0 []
  refine gz_aload_n 0 hC 0 dX1_init_0 rfl rfl ?_
  refine gz_oin 1 hC hX q_150 ⟨Nat.le_of_ble_eq_true rfl, Nat.le_of_ble_eq_true rfl⟩ dX1_init_1 ?_
  refine gz_aload_n 4 hC 0 dX1_init_4 rfl rfl ?_
  refine gz_new 5 hC hX 1 8 (ci := 7) rfl q_151 q_152 q_75 rfl rfl ⟨Nat.le_of_ble_eq_true rfl, Nat.le_of_ble_eq_true rfl⟩ dX1_init_5 hF (fun M1 _ hF => ?_)
  refine gz_dup 8 hC dX1_init_8 rfl ?_
  refine gz_cn (st := [.ref M.1, .ref a0]) 9 hC hX 5 114 [] yl_X7_init yi_X7_init q_153 ⟨Nat.le_of_ble_eq_true rfl, Nat.le_of_ble_eq_true rfl⟩ (fun r h => ct_X7_init _ _ fu M1 M.1 r h) rfl rfl (Nat.le_of_ble_eq_true rfl) dX1_init_9 rfl rfl ⟨Nat.le_of_ble_eq_true rfl, Nat.le_of_ble_eq_true rfl⟩ hF (fun M2 hF => ?_)
  refine gz_putR 12 hC fl_X1_12 fk_1_0 (Or.inr ⟨hX.2.2.2, _, rfl, rfl⟩) rfl rfl dX1_init_12 hF (fun M3 hF => ?_)
  refine gz_aload_n 15 hC 0 dX1_init_15 rfl rfl ?_
  refine gz_iconst 16 hC (0 : Int32) dX1_init_16 gz_k0 ?_
  refine gz_putZ 17 hC fl_X1_18 fk_1_1 dX1_init_17 hF (fun M4 hF => ?_)
  refine gz_aload_n 20 hC 0 dX1_init_20 rfl rfl ?_
  refine gz_iconst 21 hC (-1 : Int32) dX1_init_21 gz_km1 ?_
  refine gz_putI 22 hC fl_X1_22 fk_1_2 dX1_init_22 hF (fun M5 hF => ?_)
  refine gz_aload_n 25 hC 0 dX1_init_25 rfl rfl ?_
  refine gz_iconst 26 hC (0 : Int32) dX1_init_26 gz_k0 ?_
  refine gz_putI 27 hC fl_X1_26 fk_1_3 dX1_init_27 hF (fun M6 hF => ?_)
  refine gz_aload_n 30 hC 0 dX1_init_30 rfl rfl ?_
  refine gz_iconst 31 hC (0 : Int32) dX1_init_31 gz_k0 ?_
  refine gz_putI 32 hC fl_X1_29 fk_1_4 dX1_init_32 hF (fun M7 hF => ?_)
  refine gz_aload_n 35 hC 0 dX1_init_35 rfl rfl ?_
  refine gz_iconst 36 hC (-1 : Int32) dX1_init_36 gz_km1 ?_
  refine gz_putI 37 hC fl_X1_32 fk_1_5 dX1_init_37 hF (fun M8 hF => ?_)
  refine gz_aload_n 40 hC 0 dX1_init_40 rfl rfl ?_
  refine gz_iconst 41 hC (-1 : Int32) dX1_init_41 gz_km1 ?_
  refine gz_putI 42 hC fl_X1_35 fk_1_6 dX1_init_42 hF (fun M9 hF => ?_)
  exact gz_vretM 45 hC hX dX1_init_45 hF

theorem dX8_init_0 : decode cX8_init 0 = .ok (.aload_n 0, 1) := by decide +kernel
theorem dX8_init_1 : decode cX8_init 1 = .ok (.invokespecial 3, 3) := by decide +kernel
theorem dX8_init_4 : decode cX8_init 4 = .ok (.aload_n 0, 1) := by decide +kernel
theorem dX8_init_5 : decode cX8_init 5 = .ok (.iconst 4, 1) := by decide +kernel
theorem dX8_init_6 : decode cX8_init 6 = .ok (.anewarray 9, 3) := by decide +kernel
theorem dX8_init_9 : decode cX8_init 9 = .ok (.putfield 11, 3) := by decide +kernel
theorem dX8_init_12 : decode cX8_init 12 = .ok (.aload_n 0, 1) := by decide +kernel
theorem dX8_init_13 : decode cX8_init 13 = .ok (.new 17, 3) := by decide +kernel
theorem dX8_init_16 : decode cX8_init 16 = .ok (.dup, 1) := by decide +kernel
theorem dX8_init_17 : decode cX8_init 17 = .ok (.invokespecial 19, 3) := by decide +kernel
theorem dX8_init_20 : decode cX8_init 20 = .ok (.putfield 20, 3) := by decide +kernel
theorem dX8_init_23 : decode cX8_init 23 = .ok (.aload_n 0, 1) := by decide +kernel
theorem dX8_init_24 : decode cX8_init 24 = .ok (.iconst 0, 1) := by decide +kernel
theorem dX8_init_25 : decode cX8_init 25 = .ok (.putfield 24, 3) := by decide +kernel
theorem dX8_init_28 : decode cX8_init 28 = .ok (.iconst 0, 1) := by decide +kernel
theorem dX8_init_29 : decode cX8_init 29 = .ok (.istore_n 1, 1) := by decide +kernel
theorem dX8_init_30 : decode cX8_init 30 = .ok (.iload_n 1, 1) := by decide +kernel
theorem dX8_init_31 : decode cX8_init 31 = .ok (.iconst 4, 1) := by decide +kernel
theorem dX8_init_32 : decode cX8_init 32 = .ok (.if_icmp .ge 22, 3) := by decide +kernel
theorem dX8_init_35 : decode cX8_init 35 = .ok (.aload_n 0, 1) := by decide +kernel
theorem dX8_init_36 : decode cX8_init 36 = .ok (.getfield 11, 3) := by decide +kernel
theorem dX8_init_39 : decode cX8_init 39 = .ok (.iload_n 1, 1) := by decide +kernel
theorem dX8_init_40 : decode cX8_init 40 = .ok (.new 9, 3) := by decide +kernel
theorem dX8_init_43 : decode cX8_init 43 = .ok (.dup, 1) := by decide +kernel
theorem dX8_init_44 : decode cX8_init 44 = .ok (.invokespecial 28, 3) := by decide +kernel
theorem dX8_init_47 : decode cX8_init 47 = .ok (.aastore, 1) := by decide +kernel
theorem dX8_init_48 : decode cX8_init 48 = .ok (.iinc 1 1, 3) := by decide +kernel
theorem dX8_init_51 : decode cX8_init 51 = .ok (.goto (-21), 3) := by decide +kernel
theorem dX8_init_54 : decode cX8_init 54 = .ok (.return_, 1) := by decide +kernel
def f_X8_init (fu : Nat) (M : gz_M) (a0 : Nat) : Option (gz_M) :=
  gz_gd M 8 a0 <|
  gz_jn (gz_na M 3 ((4 : Int32)).toNatClampNeg) fun M1 =>
  (gz_pR M1 8 0 a0 M.1).bind fun M2 =>
  gz_jn (gz_nw M2 1) fun M3 =>
  (f_X1_init fu M3 M2.1).bind fun M4 =>
  (gz_pR M4 8 1 a0 M2.1).bind fun M5 =>
  (gz_pI M5 8 2 a0 (0 : Int32)).bind fun M6 =>
  (gz_gR M6 8 0 a0).bind fun x7 =>
  gz_jn (gz_nw M6 7) fun M8 =>
  (f_X7_init fu M8 M6.1).bind fun M9 =>
  (gz_tR M9 x7 (0 : Int32) M6.1).bind fun M10 =>
  (gz_gR M10 8 0 a0).bind fun x11 =>
  gz_jn (gz_nw M10 7) fun M12 =>
  (f_X7_init fu M12 M10.1).bind fun M13 =>
  (gz_tR M13 x11 (1 : Int32) M10.1).bind fun M14 =>
  (gz_gR M14 8 0 a0).bind fun x15 =>
  gz_jn (gz_nw M14 7) fun M16 =>
  (f_X7_init fu M16 M14.1).bind fun M17 =>
  (gz_tR M17 x15 (2 : Int32) M14.1).bind fun M18 =>
  (gz_gR M18 8 0 a0).bind fun x19 =>
  gz_jn (gz_nw M18 7) fun M20 =>
  (f_X7_init fu M20 M18.1).bind fun M21 =>
  (gz_tR M21 x19 (3 : Int32) M18.1).bind fun M22 =>
  some M22
set_option maxHeartbeats 4000000 in
theorem ct_X8_init (l : Launch) (G : gz_G) (fu : Nat) (M : gz_M) (a0 : Nat) (y : gz_M) (hF : f_X8_init fu M a0 = some y) : gz_ct l yX8_init cX8_init 2 none 3 60 27 581 G [.ref a0] M none y := by
  refine gz_ct.of (by decide) (Nat.le_of_ble_eq_true rfl) (fun C hC hX => ?_)
  unfold f_X8_init at hF
  obtain ⟨-, hF⟩ := gz_gd_some hF
  show gz_go C 0 0 M [(0, .ref a0)] 0 []
  refine gz_aload_n 0 hC 0 dX8_init_0 rfl rfl ?_
  refine gz_oin 1 hC hX q_142 ⟨Nat.le_of_ble_eq_true rfl, Nat.le_of_ble_eq_true rfl⟩ dX8_init_1 ?_
  refine gz_aload_n 4 hC 0 dX8_init_4 rfl rfl ?_
  refine gz_iconst 5 hC (4 : Int32) dX8_init_5 gz_k4 ?_
  refine gz_anew 6 hC hX 1 4 3 q_143 q_144 rfl (by decide) rfl (by decide) (by decide) (by decide) ⟨Nat.le_of_ble_eq_true rfl, Nat.le_of_ble_eq_true rfl⟩ dX8_init_6 hF (fun M1 _ hF => ?_)
  refine gz_putR 9 hC fl_X8_11 fk_8_0 (Or.inr ⟨hX.2.2.2, _, rfl, rfl⟩) rfl rfl dX8_init_9 hF (fun M2 hF => ?_)
  refine gz_aload_n 12 hC 0 dX8_init_12 rfl rfl ?_
  refine gz_new 13 hC hX 2 11 (ci := 1) rfl q_145 q_146 q_74 rfl rfl ⟨Nat.le_of_ble_eq_true rfl, Nat.le_of_ble_eq_true rfl⟩ dX8_init_13 hF (fun M3 _ hF => ?_)
  refine gz_dup 16 hC dX8_init_16 rfl ?_
  refine gz_cn (st := [.ref M2.1, .ref a0]) 17 hC hX 7 125 [] yl_X1_init yi_X1_init q_147 ⟨Nat.le_of_ble_eq_true rfl, Nat.le_of_ble_eq_true rfl⟩ (fun r h => ct_X1_init _ _ fu M3 M2.1 r h) rfl rfl (Nat.le_of_ble_eq_true rfl) dX8_init_17 rfl rfl ⟨Nat.le_of_ble_eq_true rfl, Nat.le_of_ble_eq_true rfl⟩ hF (fun M4 hF => ?_)
  refine gz_putR 20 hC fl_X8_20 fk_8_1 (Or.inr ⟨hX.2.2.2, _, rfl, rfl⟩) rfl rfl dX8_init_20 hF (fun M5 hF => ?_)
  refine gz_aload_n 23 hC 0 dX8_init_23 rfl rfl ?_
  refine gz_iconst 24 hC (0 : Int32) dX8_init_24 gz_k0 ?_
  refine gz_putI 25 hC fl_X8_24 fk_8_2 dX8_init_25 hF (fun M6 hF => ?_)
  refine gz_iconst 28 hC (0 : Int32) dX8_init_28 gz_k0 ?_
  refine gz_istore_n 29 hC [(1, .int (0 : Int32)), (0, .ref a0)] dX8_init_29 rfl (by decide) rfl ?_
  refine gz_iload_n 30 hC 0 dX8_init_30 rfl rfl ?_
  refine gz_iconst 31 hC (4 : Int32) dX8_init_31 gz_k4 ?_
  refine gz_icmp_ge 32 54 hC (A := none) (B := some ()) (y := ()) dX8_init_32 (by decide) (by decide) (fun h => nomatch h) (fun _ => ?_)
  refine gz_aload_n 35 hC 1 dX8_init_35 rfl rfl ?_
  refine gz_getR 36 hC fl_X8_11 fk_8_0 dX8_init_36 hF (fun x7 hF => ?_)
  refine gz_iload_n 39 hC 0 dX8_init_39 rfl rfl ?_
  refine gz_new 40 hC hX 8 133 (ci := 7) rfl q_143 q_152 q_75 rfl rfl ⟨Nat.le_of_ble_eq_true rfl, Nat.le_of_ble_eq_true rfl⟩ dX8_init_40 hF (fun M8 _ hF => ?_)
  refine gz_dup 43 hC dX8_init_43 rfl ?_
  refine gz_cn (st := [.ref M6.1, .int (0 : Int32), .ref x7]) 44 hC hX 12 239 [] yl_X7_init yi_X7_init q_232 ⟨Nat.le_of_ble_eq_true rfl, Nat.le_of_ble_eq_true rfl⟩ (fun r h => ct_X7_init _ _ fu M8 M6.1 r h) rfl rfl (Nat.le_of_ble_eq_true rfl) dX8_init_44 rfl rfl ⟨Nat.le_of_ble_eq_true rfl, Nat.le_of_ble_eq_true rfl⟩ hF (fun M9 hF => ?_)
  refine gz_aast 47 hC dX8_init_47 hF (fun M10 hF => ?_)
  refine gz_iinc 48 hC (1 : Int32) 0 [(1, .int (1 : Int32)), (0, .ref a0)] dX8_init_48 rfl (by decide) (by decide) rfl ?_
  refine gz_goto 51 30 hC dX8_init_51 (by decide) ?_
  refine gz_iload_n 30 hC 0 dX8_init_30 rfl rfl ?_
  refine gz_iconst 31 hC (4 : Int32) dX8_init_31 gz_k4 ?_
  refine gz_icmp_ge 32 54 hC (A := none) (B := some ()) (y := ()) dX8_init_32 (by decide) (by decide) (fun h => nomatch h) (fun _ => ?_)
  refine gz_aload_n 35 hC 1 dX8_init_35 rfl rfl ?_
  refine gz_getR 36 hC fl_X8_11 fk_8_0 dX8_init_36 hF (fun x11 hF => ?_)
  refine gz_iload_n 39 hC 0 dX8_init_39 rfl rfl ?_
  refine gz_new 40 hC hX 13 247 (ci := 7) rfl q_143 q_152 q_75 rfl rfl ⟨Nat.le_of_ble_eq_true rfl, Nat.le_of_ble_eq_true rfl⟩ dX8_init_40 hF (fun M12 _ hF => ?_)
  refine gz_dup 43 hC dX8_init_43 rfl ?_
  refine gz_cn (st := [.ref M10.1, .int (1 : Int32), .ref x11]) 44 hC hX 17 353 [] yl_X7_init yi_X7_init q_232 ⟨Nat.le_of_ble_eq_true rfl, Nat.le_of_ble_eq_true rfl⟩ (fun r h => ct_X7_init _ _ fu M12 M10.1 r h) rfl rfl (Nat.le_of_ble_eq_true rfl) dX8_init_44 rfl rfl ⟨Nat.le_of_ble_eq_true rfl, Nat.le_of_ble_eq_true rfl⟩ hF (fun M13 hF => ?_)
  refine gz_aast 47 hC dX8_init_47 hF (fun M14 hF => ?_)
  refine gz_iinc 48 hC (2 : Int32) 0 [(1, .int (2 : Int32)), (0, .ref a0)] dX8_init_48 rfl (by decide) (by decide) rfl ?_
  refine gz_goto 51 30 hC dX8_init_51 (by decide) ?_
  refine gz_iload_n 30 hC 0 dX8_init_30 rfl rfl ?_
  refine gz_iconst 31 hC (4 : Int32) dX8_init_31 gz_k4 ?_
  refine gz_icmp_ge 32 54 hC (A := none) (B := some ()) (y := ()) dX8_init_32 (by decide) (by decide) (fun h => nomatch h) (fun _ => ?_)
  refine gz_aload_n 35 hC 1 dX8_init_35 rfl rfl ?_
  refine gz_getR 36 hC fl_X8_11 fk_8_0 dX8_init_36 hF (fun x15 hF => ?_)
  refine gz_iload_n 39 hC 0 dX8_init_39 rfl rfl ?_
  refine gz_new 40 hC hX 18 361 (ci := 7) rfl q_143 q_152 q_75 rfl rfl ⟨Nat.le_of_ble_eq_true rfl, Nat.le_of_ble_eq_true rfl⟩ dX8_init_40 hF (fun M16 _ hF => ?_)
  refine gz_dup 43 hC dX8_init_43 rfl ?_
  refine gz_cn (st := [.ref M14.1, .int (2 : Int32), .ref x15]) 44 hC hX 22 467 [] yl_X7_init yi_X7_init q_232 ⟨Nat.le_of_ble_eq_true rfl, Nat.le_of_ble_eq_true rfl⟩ (fun r h => ct_X7_init _ _ fu M16 M14.1 r h) rfl rfl (Nat.le_of_ble_eq_true rfl) dX8_init_44 rfl rfl ⟨Nat.le_of_ble_eq_true rfl, Nat.le_of_ble_eq_true rfl⟩ hF (fun M17 hF => ?_)
  refine gz_aast 47 hC dX8_init_47 hF (fun M18 hF => ?_)
  refine gz_iinc 48 hC (3 : Int32) 0 [(1, .int (3 : Int32)), (0, .ref a0)] dX8_init_48 rfl (by decide) (by decide) rfl ?_
  refine gz_goto 51 30 hC dX8_init_51 (by decide) ?_
  refine gz_iload_n 30 hC 0 dX8_init_30 rfl rfl ?_
  refine gz_iconst 31 hC (4 : Int32) dX8_init_31 gz_k4 ?_
  refine gz_icmp_ge 32 54 hC (A := none) (B := some ()) (y := ()) dX8_init_32 (by decide) (by decide) (fun h => nomatch h) (fun _ => ?_)
  refine gz_aload_n 35 hC 1 dX8_init_35 rfl rfl ?_
  refine gz_getR 36 hC fl_X8_11 fk_8_0 dX8_init_36 hF (fun x19 hF => ?_)
  refine gz_iload_n 39 hC 0 dX8_init_39 rfl rfl ?_
  refine gz_new 40 hC hX 23 475 (ci := 7) rfl q_143 q_152 q_75 rfl rfl ⟨Nat.le_of_ble_eq_true rfl, Nat.le_of_ble_eq_true rfl⟩ dX8_init_40 hF (fun M20 _ hF => ?_)
  refine gz_dup 43 hC dX8_init_43 rfl ?_
  refine gz_cn (st := [.ref M18.1, .int (3 : Int32), .ref x19]) 44 hC hX 27 581 [] yl_X7_init yi_X7_init q_232 ⟨Nat.le_of_ble_eq_true rfl, Nat.le_of_ble_eq_true rfl⟩ (fun r h => ct_X7_init _ _ fu M20 M18.1 r h) rfl rfl (Nat.le_of_ble_eq_true rfl) dX8_init_44 rfl rfl ⟨Nat.le_of_ble_eq_true rfl, Nat.le_of_ble_eq_true rfl⟩ hF (fun M21 hF => ?_)
  refine gz_aast 47 hC dX8_init_47 hF (fun M22 hF => ?_)
  refine gz_iinc 48 hC (4 : Int32) 0 [(1, .int (4 : Int32)), (0, .ref a0)] dX8_init_48 rfl (by decide) (by decide) rfl ?_
  refine gz_goto 51 30 hC dX8_init_51 (by decide) ?_
  refine gz_iload_n 30 hC 0 dX8_init_30 rfl rfl ?_
  refine gz_iconst 31 hC (4 : Int32) dX8_init_31 gz_k4 ?_
  refine gz_icmp_ge 32 54 hC (A := some ()) (B := none) (y := ()) dX8_init_32 (by decide) (by decide) (fun _ => ?_) (fun h => nomatch h)
  exact gz_vretM 54 hC hX dX8_init_54 hF

theorem dX3_init_0 : decode cX3_init 0 = .ok (.aload_n 0, 1) := by decide +kernel
theorem dX3_init_1 : decode cX3_init 1 = .ok (.invokespecial 3, 3) := by decide +kernel
theorem dX3_init_4 : decode cX3_init 4 = .ok (.aload_n 0, 1) := by decide +kernel
theorem dX3_init_5 : decode cX3_init 5 = .ok (.sipush 1024, 3) := by decide +kernel
theorem dX3_init_8 : decode cX3_init 8 = .ok (.newarray .int, 2) := by decide +kernel
theorem dX3_init_10 : decode cX3_init 10 = .ok (.putfield 9, 3) := by decide +kernel
theorem dX3_init_13 : decode cX3_init 13 = .ok (.aload_n 0, 1) := by decide +kernel
theorem dX3_init_14 : decode cX3_init 14 = .ok (.sipush 1024, 3) := by decide +kernel
theorem dX3_init_17 : decode cX3_init 17 = .ok (.newarray .int, 2) := by decide +kernel
theorem dX3_init_19 : decode cX3_init 19 = .ok (.putfield 15, 3) := by decide +kernel
theorem dX3_init_22 : decode cX3_init 22 = .ok (.aload_n 0, 1) := by decide +kernel
theorem dX3_init_23 : decode cX3_init 23 = .ok (.sipush 1024, 3) := by decide +kernel
theorem dX3_init_26 : decode cX3_init 26 = .ok (.newarray .int, 2) := by decide +kernel
theorem dX3_init_28 : decode cX3_init 28 = .ok (.putfield 18, 3) := by decide +kernel
theorem dX3_init_31 : decode cX3_init 31 = .ok (.aload_n 0, 1) := by decide +kernel
theorem dX3_init_32 : decode cX3_init 32 = .ok (.sipush 1024, 3) := by decide +kernel
theorem dX3_init_35 : decode cX3_init 35 = .ok (.newarray .int, 2) := by decide +kernel
theorem dX3_init_37 : decode cX3_init 37 = .ok (.putfield 21, 3) := by decide +kernel
theorem dX3_init_40 : decode cX3_init 40 = .ok (.aload_n 0, 1) := by decide +kernel
theorem dX3_init_41 : decode cX3_init 41 = .ok (.iconst 1, 1) := by decide +kernel
theorem dX3_init_42 : decode cX3_init 42 = .ok (.putfield 24, 3) := by decide +kernel
theorem dX3_init_45 : decode cX3_init 45 = .ok (.return_, 1) := by decide +kernel
def f_X3_init (fu : Nat) (M : gz_M) (a0 : Nat) : Option (gz_M) :=
  gz_gd M 3 a0 <|
  gz_jn (gz_na M 0 ((1024 : Int32)).toNatClampNeg) fun M1 =>
  (gz_pR M1 3 0 a0 M.1).bind fun M2 =>
  gz_jn (gz_na M2 0 ((1024 : Int32)).toNatClampNeg) fun M3 =>
  (gz_pR M3 3 1 a0 M2.1).bind fun M4 =>
  gz_jn (gz_na M4 0 ((1024 : Int32)).toNatClampNeg) fun M5 =>
  (gz_pR M5 3 2 a0 M4.1).bind fun M6 =>
  gz_jn (gz_na M6 0 ((1024 : Int32)).toNatClampNeg) fun M7 =>
  (gz_pR M7 3 3 a0 M6.1).bind fun M8 =>
  (gz_pI M8 3 4 a0 (1 : Int32)).bind fun M9 =>
  some M9
set_option maxHeartbeats 4000000 in
theorem ct_X3_init (l : Launch) (G : gz_G) (fu : Nat) (M : gz_M) (a0 : Nat) (y : gz_M) (hF : f_X3_init fu M a0 = some y) : gz_ct l yX3_init cX3_init 1 none 1 20 4 4096 G [.ref a0] M none y := by
  refine gz_ct.of (by decide) (Nat.le_of_ble_eq_true rfl) (fun C hC hX => ?_)
  unfold f_X3_init at hF
  obtain ⟨-, hF⟩ := gz_gd_some hF
  show gz_go C 0 0 M [(0, .ref a0)] 0 []
  refine gz_aload_n 0 hC 0 dX3_init_0 rfl rfl ?_
  refine gz_oin 1 hC hX q_251 ⟨Nat.le_of_ble_eq_true rfl, Nat.le_of_ble_eq_true rfl⟩ dX3_init_1 ?_
  refine gz_aload_n 4 hC 0 dX3_init_4 rfl rfl ?_
  refine gz_sipush 5 hC (1024 : Int32) dX3_init_5 gz_s1024 ?_
  refine gz_newaX 8 hC hX 1 1024 0 (atype := .int) q_112 rfl (gz_hzI _) rfl (by decide) (by decide) (by decide) ⟨Nat.le_of_ble_eq_true rfl, Nat.le_of_ble_eq_true rfl⟩ dX3_init_8 hF (fun M1 _ hF => ?_)
  refine gz_putR 10 hC fl_X3_9 fk_3_0 (Or.inr ⟨hX.2.2.2, _, rfl, rfl⟩) rfl rfl dX3_init_10 hF (fun M2 hF => ?_)
  refine gz_aload_n 13 hC 0 dX3_init_13 rfl rfl ?_
  refine gz_sipush 14 hC (1024 : Int32) dX3_init_14 gz_s1024 ?_
  refine gz_newaX 17 hC hX 2 2048 0 (atype := .int) q_112 rfl (gz_hzI _) rfl (by decide) (by decide) (by decide) ⟨Nat.le_of_ble_eq_true rfl, Nat.le_of_ble_eq_true rfl⟩ dX3_init_17 hF (fun M3 _ hF => ?_)
  refine gz_putR 19 hC fl_X3_15 fk_3_1 (Or.inr ⟨hX.2.2.2, _, rfl, rfl⟩) rfl rfl dX3_init_19 hF (fun M4 hF => ?_)
  refine gz_aload_n 22 hC 0 dX3_init_22 rfl rfl ?_
  refine gz_sipush 23 hC (1024 : Int32) dX3_init_23 gz_s1024 ?_
  refine gz_newaX 26 hC hX 3 3072 0 (atype := .int) q_112 rfl (gz_hzI _) rfl (by decide) (by decide) (by decide) ⟨Nat.le_of_ble_eq_true rfl, Nat.le_of_ble_eq_true rfl⟩ dX3_init_26 hF (fun M5 _ hF => ?_)
  refine gz_putR 28 hC fl_X3_18 fk_3_2 (Or.inr ⟨hX.2.2.2, _, rfl, rfl⟩) rfl rfl dX3_init_28 hF (fun M6 hF => ?_)
  refine gz_aload_n 31 hC 0 dX3_init_31 rfl rfl ?_
  refine gz_sipush 32 hC (1024 : Int32) dX3_init_32 gz_s1024 ?_
  refine gz_newaX 35 hC hX 4 4096 0 (atype := .int) q_112 rfl (gz_hzI _) rfl (by decide) (by decide) (by decide) ⟨Nat.le_of_ble_eq_true rfl, Nat.le_of_ble_eq_true rfl⟩ dX3_init_35 hF (fun M7 _ hF => ?_)
  refine gz_putR 37 hC fl_X3_21 fk_3_3 (Or.inr ⟨hX.2.2.2, _, rfl, rfl⟩) rfl rfl dX3_init_37 hF (fun M8 hF => ?_)
  refine gz_aload_n 40 hC 0 dX3_init_40 rfl rfl ?_
  refine gz_iconst 41 hC (1 : Int32) dX3_init_41 gz_k1 ?_
  refine gz_putI 42 hC fl_X3_24 fk_3_4 dX3_init_42 hF (fun M9 hF => ?_)
  exact gz_vretM 45 hC hX dX3_init_45 hF

theorem dX5_init_0 : decode cX5_init 0 = .ok (.aload_n 0, 1) := by decide +kernel
theorem dX5_init_1 : decode cX5_init 1 = .ok (.invokespecial 3, 3) := by decide +kernel
theorem dX5_init_4 : decode cX5_init 4 = .ok (.aload_n 0, 1) := by decide +kernel
theorem dX5_init_5 : decode cX5_init 5 = .ok (.bipush 6, 2) := by decide +kernel
theorem dX5_init_7 : decode cX5_init 7 = .ok (.newarray .int, 2) := by decide +kernel
theorem dX5_init_9 : decode cX5_init 9 = .ok (.putfield 9, 3) := by decide +kernel
theorem dX5_init_12 : decode cX5_init 12 = .ok (.aload_n 0, 1) := by decide +kernel
theorem dX5_init_13 : decode cX5_init 13 = .ok (.iconst 0, 1) := by decide +kernel
theorem dX5_init_14 : decode cX5_init 14 = .ok (.putfield 15, 3) := by decide +kernel
theorem dX5_init_17 : decode cX5_init 17 = .ok (.aload_n 0, 1) := by decide +kernel
theorem dX5_init_18 : decode cX5_init 18 = .ok (.iconst 0, 1) := by decide +kernel
theorem dX5_init_19 : decode cX5_init 19 = .ok (.putfield 19, 3) := by decide +kernel
theorem dX5_init_22 : decode cX5_init 22 = .ok (.aload_n 0, 1) := by decide +kernel
theorem dX5_init_23 : decode cX5_init 23 = .ok (.bipush 12, 2) := by decide +kernel
theorem dX5_init_25 : decode cX5_init 25 = .ok (.newarray .int, 2) := by decide +kernel
theorem dX5_init_27 : decode cX5_init 27 = .ok (.putfield 22, 3) := by decide +kernel
theorem dX5_init_30 : decode cX5_init 30 = .ok (.aload_n 0, 1) := by decide +kernel
theorem dX5_init_31 : decode cX5_init 31 = .ok (.bipush 12, 2) := by decide +kernel
theorem dX5_init_33 : decode cX5_init 33 = .ok (.newarray .int, 2) := by decide +kernel
theorem dX5_init_35 : decode cX5_init 35 = .ok (.putfield 25, 3) := by decide +kernel
theorem dX5_init_38 : decode cX5_init 38 = .ok (.aload_n 0, 1) := by decide +kernel
theorem dX5_init_39 : decode cX5_init 39 = .ok (.bipush 7, 2) := by decide +kernel
theorem dX5_init_41 : decode cX5_init 41 = .ok (.bipush 13, 2) := by decide +kernel
theorem dX5_init_43 : decode cX5_init 43 = .ok (.multianewarray 28 2, 4) := by decide +kernel
theorem dX5_init_47 : decode cX5_init 47 = .ok (.putfield 30, 3) := by decide +kernel
theorem dX5_init_50 : decode cX5_init 50 = .ok (.aload_n 0, 1) := by decide +kernel
theorem dX5_init_51 : decode cX5_init 51 = .ok (.iconst 0, 1) := by decide +kernel
theorem dX5_init_52 : decode cX5_init 52 = .ok (.putfield 33, 3) := by decide +kernel
theorem dX5_init_55 : decode cX5_init 55 = .ok (.return_, 1) := by decide +kernel
def f_X5_init (fu : Nat) (M : gz_M) (a0 : Nat) : Option (gz_M) :=
  gz_gd M 5 a0 <|
  gz_jn (gz_na M 0 ((6 : Int32)).toNatClampNeg) fun M1 =>
  (gz_pR M1 5 0 a0 M.1).bind fun M2 =>
  (gz_pI M2 5 1 a0 (0 : Int32)).bind fun M3 =>
  (gz_pI M3 5 2 a0 (0 : Int32)).bind fun M4 =>
  gz_jn (gz_na M4 0 ((12 : Int32)).toNatClampNeg) fun M5 =>
  (gz_pR M5 5 3 a0 M4.1).bind fun M6 =>
  gz_jn (gz_na M6 0 ((12 : Int32)).toNatClampNeg) fun M7 =>
  (gz_pR M7 5 4 a0 M6.1).bind fun M8 =>
  gz_jn (gz_mn M8 4 7 13) fun M9 =>
  (gz_pR M9 5 5 a0 M8.1).bind fun M10 =>
  (gz_pI M10 5 6 a0 (0 : Int32)).bind fun M11 =>
  some M11
set_option maxHeartbeats 4000000 in
theorem ct_X5_init (l : Launch) (G : gz_G) (fu : Nat) (M : gz_M) (a0 : Nat) (y : gz_M) (hF : f_X5_init fu M a0 = some y) : gz_ct l yX5_init cX5_init 1 none 1 20 11 128 G [.ref a0] M none y := by
  refine gz_ct.of (by decide) (Nat.le_of_ble_eq_true rfl) (fun C hC hX => ?_)
  unfold f_X5_init at hF
  obtain ⟨-, hF⟩ := gz_gd_some hF
  show gz_go C 0 0 M [(0, .ref a0)] 0 []
  refine gz_aload_n 0 hC 0 dX5_init_0 rfl rfl ?_
  refine gz_oin 1 hC hX q_275 ⟨Nat.le_of_ble_eq_true rfl, Nat.le_of_ble_eq_true rfl⟩ dX5_init_1 ?_
  refine gz_aload_n 4 hC 0 dX5_init_4 rfl rfl ?_
  refine gz_bipush 5 hC (6 : Int32) dX5_init_5 gz_b6 ?_
  refine gz_newaX 7 hC hX 1 6 0 (atype := .int) q_112 rfl (gz_hzI _) rfl (by decide) (by decide) (by decide) ⟨Nat.le_of_ble_eq_true rfl, Nat.le_of_ble_eq_true rfl⟩ dX5_init_7 hF (fun M1 _ hF => ?_)
  refine gz_putR 9 hC fl_X5_9 fk_5_0 (Or.inr ⟨hX.2.2.2, _, rfl, rfl⟩) rfl rfl dX5_init_9 hF (fun M2 hF => ?_)
  refine gz_aload_n 12 hC 0 dX5_init_12 rfl rfl ?_
  refine gz_iconst 13 hC (0 : Int32) dX5_init_13 gz_k0 ?_
  refine gz_putI 14 hC fl_X5_15 fk_5_1 dX5_init_14 hF (fun M3 hF => ?_)
  refine gz_aload_n 17 hC 0 dX5_init_17 rfl rfl ?_
  refine gz_iconst 18 hC (0 : Int32) dX5_init_18 gz_k0 ?_
  refine gz_putI 19 hC fl_X5_19 fk_5_2 dX5_init_19 hF (fun M4 hF => ?_)
  refine gz_aload_n 22 hC 0 dX5_init_22 rfl rfl ?_
  refine gz_bipush 23 hC (12 : Int32) dX5_init_23 gz_b12 ?_
  refine gz_newaX 25 hC hX 2 18 0 (atype := .int) q_112 rfl (gz_hzI _) rfl (by decide) (by decide) (by decide) ⟨Nat.le_of_ble_eq_true rfl, Nat.le_of_ble_eq_true rfl⟩ dX5_init_25 hF (fun M5 _ hF => ?_)
  refine gz_putR 27 hC fl_X5_22 fk_5_3 (Or.inr ⟨hX.2.2.2, _, rfl, rfl⟩) rfl rfl dX5_init_27 hF (fun M6 hF => ?_)
  refine gz_aload_n 30 hC 0 dX5_init_30 rfl rfl ?_
  refine gz_bipush 31 hC (12 : Int32) dX5_init_31 gz_b12 ?_
  refine gz_newaX 33 hC hX 3 30 0 (atype := .int) q_112 rfl (gz_hzI _) rfl (by decide) (by decide) (by decide) ⟨Nat.le_of_ble_eq_true rfl, Nat.le_of_ble_eq_true rfl⟩ dX5_init_33 hF (fun M7 _ hF => ?_)
  refine gz_putR 35 hC fl_X5_25 fk_5_4 (Or.inr ⟨hX.2.2.2, _, rfl, rfl⟩) rfl rfl dX5_init_35 hF (fun M8 hF => ?_)
  refine gz_aload_n 38 hC 0 dX5_init_38 rfl rfl ?_
  refine gz_bipush 39 hC (7 : Int32) dX5_init_39 gz_b7 ?_
  refine gz_bipush 41 hC (13 : Int32) dX5_init_41 gz_b13 ?_
  refine gz_mnew 43 hC hX 11 128 4 .int 7 13 q_276 (by decide) q_277 q_112 (by decide) (by decide) (by decide) rfl rfl (by decide) (by decide) (by decide) ⟨Nat.le_of_ble_eq_true rfl, Nat.le_of_ble_eq_true rfl⟩ dX5_init_43 hF (fun M9 _ hF => ?_)
  refine gz_putR 47 hC fl_X5_30 fk_5_5 (Or.inr ⟨hX.2.2.2, _, rfl, rfl⟩) rfl rfl dX5_init_47 hF (fun M10 hF => ?_)
  refine gz_aload_n 50 hC 0 dX5_init_50 rfl rfl ?_
  refine gz_iconst 51 hC (0 : Int32) dX5_init_51 gz_k0 ?_
  refine gz_putI 52 hC fl_X5_33 fk_5_6 dX5_init_52 hF (fun M11 hF => ?_)
  exact gz_vretM 55 hC hX dX5_init_55 hF

theorem dX0_init_0 : decode cX0_init 0 = .ok (.aload_n 0, 1) := by decide +kernel
theorem dX0_init_1 : decode cX0_init 1 = .ok (.invokespecial 3, 3) := by decide +kernel
theorem dX0_init_4 : decode cX0_init 4 = .ok (.aload_n 0, 1) := by decide +kernel
theorem dX0_init_5 : decode cX0_init 5 = .ok (.iconst 3, 1) := by decide +kernel
theorem dX0_init_6 : decode cX0_init 6 = .ok (.newarray .int, 2) := by decide +kernel
theorem dX0_init_8 : decode cX0_init 8 = .ok (.putfield 9, 3) := by decide +kernel
theorem dX0_init_11 : decode cX0_init 11 = .ok (.aload_n 0, 1) := by decide +kernel
theorem dX0_init_12 : decode cX0_init 12 = .ok (.iconst (-1), 1) := by decide +kernel
theorem dX0_init_13 : decode cX0_init 13 = .ok (.putfield 15, 3) := by decide +kernel
theorem dX0_init_16 : decode cX0_init 16 = .ok (.aload_n 0, 1) := by decide +kernel
theorem dX0_init_17 : decode cX0_init 17 = .ok (.ldc 19, 2) := by decide +kernel
theorem dX0_init_19 : decode cX0_init 19 = .ok (.putfield 20, 3) := by decide +kernel
theorem dX0_init_22 : decode cX0_init 22 = .ok (.aload_n 0, 1) := by decide +kernel
theorem dX0_init_23 : decode cX0_init 23 = .ok (.iconst 3, 1) := by decide +kernel
theorem dX0_init_24 : decode cX0_init 24 = .ok (.bipush 12, 2) := by decide +kernel
theorem dX0_init_26 : decode cX0_init 26 = .ok (.multianewarray 23 2, 4) := by decide +kernel
theorem dX0_init_30 : decode cX0_init 30 = .ok (.putfield 25, 3) := by decide +kernel
theorem dX0_init_33 : decode cX0_init 33 = .ok (.aload_n 0, 1) := by decide +kernel
theorem dX0_init_34 : decode cX0_init 34 = .ok (.iconst 3, 1) := by decide +kernel
theorem dX0_init_35 : decode cX0_init 35 = .ok (.sipush 144, 3) := by decide +kernel
theorem dX0_init_38 : decode cX0_init 38 = .ok (.multianewarray 23 2, 4) := by decide +kernel
theorem dX0_init_42 : decode cX0_init 42 = .ok (.putfield 28, 3) := by decide +kernel
theorem dX0_init_45 : decode cX0_init 45 = .ok (.aload_n 0, 1) := by decide +kernel
theorem dX0_init_46 : decode cX0_init 46 = .ok (.iconst 3, 1) := by decide +kernel
theorem dX0_init_47 : decode cX0_init 47 = .ok (.newarray .int, 2) := by decide +kernel
theorem dX0_init_49 : decode cX0_init 49 = .ok (.putfield 31, 3) := by decide +kernel
theorem dX0_init_52 : decode cX0_init 52 = .ok (.aload_n 0, 1) := by decide +kernel
theorem dX0_init_53 : decode cX0_init 53 = .ok (.bipush 12, 2) := by decide +kernel
theorem dX0_init_55 : decode cX0_init 55 = .ok (.newarray .int, 2) := by decide +kernel
theorem dX0_init_57 : decode cX0_init 57 = .ok (.putfield 34, 3) := by decide +kernel
theorem dX0_init_60 : decode cX0_init 60 = .ok (.aload_n 0, 1) := by decide +kernel
theorem dX0_init_61 : decode cX0_init 61 = .ok (.bipush 12, 2) := by decide +kernel
theorem dX0_init_63 : decode cX0_init 63 = .ok (.newarray .int, 2) := by decide +kernel
theorem dX0_init_65 : decode cX0_init 65 = .ok (.putfield 37, 3) := by decide +kernel
theorem dX0_init_68 : decode cX0_init 68 = .ok (.aload_n 0, 1) := by decide +kernel
theorem dX0_init_69 : decode cX0_init 69 = .ok (.bipush 12, 2) := by decide +kernel
theorem dX0_init_71 : decode cX0_init 71 = .ok (.newarray .int, 2) := by decide +kernel
theorem dX0_init_73 : decode cX0_init 73 = .ok (.putfield 40, 3) := by decide +kernel
theorem dX0_init_76 : decode cX0_init 76 = .ok (.aload_n 0, 1) := by decide +kernel
theorem dX0_init_77 : decode cX0_init 77 = .ok (.bipush 12, 2) := by decide +kernel
theorem dX0_init_79 : decode cX0_init 79 = .ok (.newarray .int, 2) := by decide +kernel
theorem dX0_init_81 : decode cX0_init 81 = .ok (.putfield 43, 3) := by decide +kernel
theorem dX0_init_84 : decode cX0_init 84 = .ok (.aload_n 0, 1) := by decide +kernel
theorem dX0_init_85 : decode cX0_init 85 = .ok (.iconst 0, 1) := by decide +kernel
theorem dX0_init_86 : decode cX0_init 86 = .ok (.putfield 46, 3) := by decide +kernel
theorem dX0_init_89 : decode cX0_init 89 = .ok (.aload_n 0, 1) := by decide +kernel
theorem dX0_init_90 : decode cX0_init 90 = .ok (.iconst 0, 1) := by decide +kernel
theorem dX0_init_91 : decode cX0_init 91 = .ok (.putfield 49, 3) := by decide +kernel
theorem dX0_init_94 : decode cX0_init 94 = .ok (.return_, 1) := by decide +kernel
def f_X0_init (fu : Nat) (M : gz_M) (a0 : Nat) : Option (gz_M) :=
  gz_gd M 0 a0 <|
  gz_jn (gz_na M 0 ((3 : Int32)).toNatClampNeg) fun M1 =>
  (gz_pR M1 0 0 a0 M.1).bind fun M2 =>
  (gz_pI M2 0 1 a0 (-1 : Int32)).bind fun M3 =>
  (gz_pI M3 0 2 a0 (2147483647 : Int32)).bind fun M4 =>
  gz_jn (gz_mn M4 4 3 12) fun M5 =>
  (gz_pR M5 0 3 a0 M4.1).bind fun M6 =>
  gz_jn (gz_mn M6 4 3 144) fun M7 =>
  (gz_pR M7 0 4 a0 M6.1).bind fun M8 =>
  gz_jn (gz_na M8 0 ((3 : Int32)).toNatClampNeg) fun M9 =>
  (gz_pR M9 0 5 a0 M8.1).bind fun M10 =>
  gz_jn (gz_na M10 0 ((12 : Int32)).toNatClampNeg) fun M11 =>
  (gz_pR M11 0 6 a0 M10.1).bind fun M12 =>
  gz_jn (gz_na M12 0 ((12 : Int32)).toNatClampNeg) fun M13 =>
  (gz_pR M13 0 7 a0 M12.1).bind fun M14 =>
  gz_jn (gz_na M14 0 ((12 : Int32)).toNatClampNeg) fun M15 =>
  (gz_pR M15 0 8 a0 M14.1).bind fun M16 =>
  gz_jn (gz_na M16 0 ((12 : Int32)).toNatClampNeg) fun M17 =>
  (gz_pR M17 0 9 a0 M16.1).bind fun M18 =>
  (gz_pI M18 0 10 a0 (0 : Int32)).bind fun M19 =>
  (gz_pI M19 0 11 a0 (0 : Int32)).bind fun M20 =>
  some M20
set_option maxHeartbeats 4000000 in
theorem ct_X0_init (l : Launch) (G : gz_G) (fu : Nat) (M : gz_M) (a0 : Nat) (y : gz_M) (hF : f_X0_init fu M a0 = some y) : gz_ct l yX0_init cX0_init 1 none 1 20 14 528 G [.ref a0] M none y := by
  refine gz_ct.of (by decide) (Nat.le_of_ble_eq_true rfl) (fun C hC hX => ?_)
  unfold f_X0_init at hF
  obtain ⟨-, hF⟩ := gz_gd_some hF
  show gz_go C 0 0 M [(0, .ref a0)] 0 []
  refine gz_aload_n 0 hC 0 dX0_init_0 rfl rfl ?_
  refine gz_oin 1 hC hX q_308 ⟨Nat.le_of_ble_eq_true rfl, Nat.le_of_ble_eq_true rfl⟩ dX0_init_1 ?_
  refine gz_aload_n 4 hC 0 dX0_init_4 rfl rfl ?_
  refine gz_iconst 5 hC (3 : Int32) dX0_init_5 gz_k3 ?_
  refine gz_newaX 6 hC hX 1 3 0 (atype := .int) q_112 rfl (gz_hzI _) rfl (by decide) (by decide) (by decide) ⟨Nat.le_of_ble_eq_true rfl, Nat.le_of_ble_eq_true rfl⟩ dX0_init_6 hF (fun M1 _ hF => ?_)
  refine gz_putR 8 hC fl_X0_9 fk_0_0 (Or.inr ⟨hX.2.2.2, _, rfl, rfl⟩) rfl rfl dX0_init_8 hF (fun M2 hF => ?_)
  refine gz_aload_n 11 hC 0 dX0_init_11 rfl rfl ?_
  refine gz_iconst 12 hC (-1 : Int32) dX0_init_12 gz_km1 ?_
  refine gz_putI 13 hC fl_X0_15 fk_0_1 dX0_init_13 hF (fun M3 hF => ?_)
  refine gz_aload_n 16 hC 0 dX0_init_16 rfl rfl ?_
  refine gz_ldc 17 hC dX0_init_17 q_309 ?_
  refine gz_putI 19 hC fl_X0_20 fk_0_2 dX0_init_19 hF (fun M4 hF => ?_)
  refine gz_aload_n 22 hC 0 dX0_init_22 rfl rfl ?_
  refine gz_iconst 23 hC (3 : Int32) dX0_init_23 gz_k3 ?_
  refine gz_bipush 24 hC (12 : Int32) dX0_init_24 gz_b12 ?_
  refine gz_mnew 26 hC hX 5 42 4 .int 3 12 q_310 (by decide) q_277 q_112 (by decide) (by decide) (by decide) rfl rfl (by decide) (by decide) (by decide) ⟨Nat.le_of_ble_eq_true rfl, Nat.le_of_ble_eq_true rfl⟩ dX0_init_26 hF (fun M5 _ hF => ?_)
  refine gz_putR 30 hC fl_X0_25 fk_0_3 (Or.inr ⟨hX.2.2.2, _, rfl, rfl⟩) rfl rfl dX0_init_30 hF (fun M6 hF => ?_)
  refine gz_aload_n 33 hC 0 dX0_init_33 rfl rfl ?_
  refine gz_iconst 34 hC (3 : Int32) dX0_init_34 gz_k3 ?_
  refine gz_sipush 35 hC (144 : Int32) dX0_init_35 gz_s144 ?_
  refine gz_mnew 38 hC hX 9 477 4 .int 3 144 q_310 (by decide) q_277 q_112 (by decide) (by decide) (by decide) rfl rfl (by decide) (by decide) (by decide) ⟨Nat.le_of_ble_eq_true rfl, Nat.le_of_ble_eq_true rfl⟩ dX0_init_38 hF (fun M7 _ hF => ?_)
  refine gz_putR 42 hC fl_X0_28 fk_0_4 (Or.inr ⟨hX.2.2.2, _, rfl, rfl⟩) rfl rfl dX0_init_42 hF (fun M8 hF => ?_)
  refine gz_aload_n 45 hC 0 dX0_init_45 rfl rfl ?_
  refine gz_iconst 46 hC (3 : Int32) dX0_init_46 gz_k3 ?_
  refine gz_newaX 47 hC hX 10 480 0 (atype := .int) q_112 rfl (gz_hzI _) rfl (by decide) (by decide) (by decide) ⟨Nat.le_of_ble_eq_true rfl, Nat.le_of_ble_eq_true rfl⟩ dX0_init_47 hF (fun M9 _ hF => ?_)
  refine gz_putR 49 hC fl_X0_31 fk_0_5 (Or.inr ⟨hX.2.2.2, _, rfl, rfl⟩) rfl rfl dX0_init_49 hF (fun M10 hF => ?_)
  refine gz_aload_n 52 hC 0 dX0_init_52 rfl rfl ?_
  refine gz_bipush 53 hC (12 : Int32) dX0_init_53 gz_b12 ?_
  refine gz_newaX 55 hC hX 11 492 0 (atype := .int) q_112 rfl (gz_hzI _) rfl (by decide) (by decide) (by decide) ⟨Nat.le_of_ble_eq_true rfl, Nat.le_of_ble_eq_true rfl⟩ dX0_init_55 hF (fun M11 _ hF => ?_)
  refine gz_putR 57 hC fl_X0_34 fk_0_6 (Or.inr ⟨hX.2.2.2, _, rfl, rfl⟩) rfl rfl dX0_init_57 hF (fun M12 hF => ?_)
  refine gz_aload_n 60 hC 0 dX0_init_60 rfl rfl ?_
  refine gz_bipush 61 hC (12 : Int32) dX0_init_61 gz_b12 ?_
  refine gz_newaX 63 hC hX 12 504 0 (atype := .int) q_112 rfl (gz_hzI _) rfl (by decide) (by decide) (by decide) ⟨Nat.le_of_ble_eq_true rfl, Nat.le_of_ble_eq_true rfl⟩ dX0_init_63 hF (fun M13 _ hF => ?_)
  refine gz_putR 65 hC fl_X0_37 fk_0_7 (Or.inr ⟨hX.2.2.2, _, rfl, rfl⟩) rfl rfl dX0_init_65 hF (fun M14 hF => ?_)
  refine gz_aload_n 68 hC 0 dX0_init_68 rfl rfl ?_
  refine gz_bipush 69 hC (12 : Int32) dX0_init_69 gz_b12 ?_
  refine gz_newaX 71 hC hX 13 516 0 (atype := .int) q_112 rfl (gz_hzI _) rfl (by decide) (by decide) (by decide) ⟨Nat.le_of_ble_eq_true rfl, Nat.le_of_ble_eq_true rfl⟩ dX0_init_71 hF (fun M15 _ hF => ?_)
  refine gz_putR 73 hC fl_X0_40 fk_0_8 (Or.inr ⟨hX.2.2.2, _, rfl, rfl⟩) rfl rfl dX0_init_73 hF (fun M16 hF => ?_)
  refine gz_aload_n 76 hC 0 dX0_init_76 rfl rfl ?_
  refine gz_bipush 77 hC (12 : Int32) dX0_init_77 gz_b12 ?_
  refine gz_newaX 79 hC hX 14 528 0 (atype := .int) q_112 rfl (gz_hzI _) rfl (by decide) (by decide) (by decide) ⟨Nat.le_of_ble_eq_true rfl, Nat.le_of_ble_eq_true rfl⟩ dX0_init_79 hF (fun M17 _ hF => ?_)
  refine gz_putR 81 hC fl_X0_43 fk_0_9 (Or.inr ⟨hX.2.2.2, _, rfl, rfl⟩) rfl rfl dX0_init_81 hF (fun M18 hF => ?_)
  refine gz_aload_n 84 hC 0 dX0_init_84 rfl rfl ?_
  refine gz_iconst 85 hC (0 : Int32) dX0_init_85 gz_k0 ?_
  refine gz_putI 86 hC fl_X0_46 fk_0_10 dX0_init_86 hF (fun M19 hF => ?_)
  refine gz_aload_n 89 hC 0 dX0_init_89 rfl rfl ?_
  refine gz_iconst 90 hC (0 : Int32) dX0_init_90 gz_k0 ?_
  refine gz_putI 91 hC fl_X0_49 fk_0_11 dX0_init_91 hF (fun M20 hF => ?_)
  exact gz_vretM 94 hC hX dX0_init_94 hF

theorem dX9_init_0 : decode cX9_init 0 = .ok (.aload_n 0, 1) := by decide +kernel
theorem dX9_init_1 : decode cX9_init 1 = .ok (.invokespecial 3, 3) := by decide +kernel
theorem dX9_init_4 : decode cX9_init 4 = .ok (.aload_n 0, 1) := by decide +kernel
theorem dX9_init_5 : decode cX9_init 5 = .ok (.new 9, 3) := by decide +kernel
theorem dX9_init_8 : decode cX9_init 8 = .ok (.dup, 1) := by decide +kernel
theorem dX9_init_9 : decode cX9_init 9 = .ok (.invokespecial 11, 3) := by decide +kernel
theorem dX9_init_12 : decode cX9_init 12 = .ok (.putfield 12, 3) := by decide +kernel
theorem dX9_init_15 : decode cX9_init 15 = .ok (.aload_n 0, 1) := by decide +kernel
theorem dX9_init_16 : decode cX9_init 16 = .ok (.new 16, 3) := by decide +kernel
theorem dX9_init_19 : decode cX9_init 19 = .ok (.dup, 1) := by decide +kernel
theorem dX9_init_20 : decode cX9_init 20 = .ok (.aload_n 0, 1) := by decide +kernel
theorem dX9_init_21 : decode cX9_init 21 = .ok (.getfield 12, 3) := by decide +kernel
theorem dX9_init_24 : decode cX9_init 24 = .ok (.invokespecial 18, 3) := by decide +kernel
theorem dX9_init_27 : decode cX9_init 27 = .ok (.putfield 21, 3) := by decide +kernel
theorem dX9_init_30 : decode cX9_init 30 = .ok (.aload_n 0, 1) := by decide +kernel
theorem dX9_init_31 : decode cX9_init 31 = .ok (.bipush 8, 2) := by decide +kernel
theorem dX9_init_33 : decode cX9_init 33 = .ok (.anewarray 25, 3) := by decide +kernel
theorem dX9_init_36 : decode cX9_init 36 = .ok (.putfield 27, 3) := by decide +kernel
theorem dX9_init_39 : decode cX9_init 39 = .ok (.aload_n 0, 1) := by decide +kernel
theorem dX9_init_40 : decode cX9_init 40 = .ok (.new 31, 3) := by decide +kernel
theorem dX9_init_43 : decode cX9_init 43 = .ok (.dup, 1) := by decide +kernel
theorem dX9_init_44 : decode cX9_init 44 = .ok (.invokespecial 33, 3) := by decide +kernel
theorem dX9_init_47 : decode cX9_init 47 = .ok (.putfield 34, 3) := by decide +kernel
theorem dX9_init_50 : decode cX9_init 50 = .ok (.aload_n 0, 1) := by decide +kernel
theorem dX9_init_51 : decode cX9_init 51 = .ok (.new 31, 3) := by decide +kernel
theorem dX9_init_54 : decode cX9_init 54 = .ok (.dup, 1) := by decide +kernel
theorem dX9_init_55 : decode cX9_init 55 = .ok (.invokespecial 33, 3) := by decide +kernel
theorem dX9_init_58 : decode cX9_init 58 = .ok (.putfield 38, 3) := by decide +kernel
theorem dX9_init_61 : decode cX9_init 61 = .ok (.aload_n 0, 1) := by decide +kernel
theorem dX9_init_62 : decode cX9_init 62 = .ok (.iconst 0, 1) := by decide +kernel
theorem dX9_init_63 : decode cX9_init 63 = .ok (.putfield 41, 3) := by decide +kernel
theorem dX9_init_66 : decode cX9_init 66 = .ok (.aload_n 0, 1) := by decide +kernel
theorem dX9_init_67 : decode cX9_init 67 = .ok (.iconst 5, 1) := by decide +kernel
theorem dX9_init_68 : decode cX9_init 68 = .ok (.newarray .int, 2) := by decide +kernel
theorem dX9_init_70 : decode cX9_init 70 = .ok (.putfield 45, 3) := by decide +kernel
theorem dX9_init_73 : decode cX9_init 73 = .ok (.aload_n 0, 1) := by decide +kernel
theorem dX9_init_74 : decode cX9_init 74 = .ok (.new 49, 3) := by decide +kernel
theorem dX9_init_77 : decode cX9_init 77 = .ok (.dup, 1) := by decide +kernel
theorem dX9_init_78 : decode cX9_init 78 = .ok (.invokespecial 51, 3) := by decide +kernel
theorem dX9_init_81 : decode cX9_init 81 = .ok (.putfield 52, 3) := by decide +kernel
theorem dX9_init_84 : decode cX9_init 84 = .ok (.aload_n 0, 1) := by decide +kernel
theorem dX9_init_85 : decode cX9_init 85 = .ok (.new 56, 3) := by decide +kernel
theorem dX9_init_88 : decode cX9_init 88 = .ok (.dup, 1) := by decide +kernel
theorem dX9_init_89 : decode cX9_init 89 = .ok (.invokespecial 58, 3) := by decide +kernel
theorem dX9_init_92 : decode cX9_init 92 = .ok (.putfield 59, 3) := by decide +kernel
theorem dX9_init_95 : decode cX9_init 95 = .ok (.aload_n 0, 1) := by decide +kernel
theorem dX9_init_96 : decode cX9_init 96 = .ok (.new 63, 3) := by decide +kernel
theorem dX9_init_99 : decode cX9_init 99 = .ok (.dup, 1) := by decide +kernel
theorem dX9_init_100 : decode cX9_init 100 = .ok (.invokespecial 65, 3) := by decide +kernel
theorem dX9_init_103 : decode cX9_init 103 = .ok (.putfield 66, 3) := by decide +kernel
theorem dX9_init_106 : decode cX9_init 106 = .ok (.iconst 0, 1) := by decide +kernel
theorem dX9_init_107 : decode cX9_init 107 = .ok (.istore_n 1, 1) := by decide +kernel
theorem dX9_init_108 : decode cX9_init 108 = .ok (.iload_n 1, 1) := by decide +kernel
theorem dX9_init_109 : decode cX9_init 109 = .ok (.bipush 8, 2) := by decide +kernel
theorem dX9_init_111 : decode cX9_init 111 = .ok (.if_icmp .ge 22, 3) := by decide +kernel
theorem dX9_init_114 : decode cX9_init 114 = .ok (.aload_n 0, 1) := by decide +kernel
theorem dX9_init_115 : decode cX9_init 115 = .ok (.getfield 27, 3) := by decide +kernel
theorem dX9_init_118 : decode cX9_init 118 = .ok (.iload_n 1, 1) := by decide +kernel
theorem dX9_init_119 : decode cX9_init 119 = .ok (.new 25, 3) := by decide +kernel
theorem dX9_init_122 : decode cX9_init 122 = .ok (.dup, 1) := by decide +kernel
theorem dX9_init_123 : decode cX9_init 123 = .ok (.invokespecial 70, 3) := by decide +kernel
theorem dX9_init_126 : decode cX9_init 126 = .ok (.aastore, 1) := by decide +kernel
theorem dX9_init_127 : decode cX9_init 127 = .ok (.iinc 1 1, 3) := by decide +kernel
theorem dX9_init_130 : decode cX9_init 130 = .ok (.goto (-22), 3) := by decide +kernel
theorem dX9_init_133 : decode cX9_init 133 = .ok (.return_, 1) := by decide +kernel
def f_X9_init (fu : Nat) (M : gz_M) (a0 : Nat) : Option (gz_M) :=
  gz_gd M 9 a0 <|
  gz_jn (gz_nw M 6) fun M1 =>
  (f_X6_init fu M1 M.1).bind fun M2 =>
  (gz_pR M2 9 0 a0 M.1).bind fun M3 =>
  gz_jn (gz_nw M3 2) fun M4 =>
  (gz_gR M4 9 0 a0).bind fun x5 =>
  (f_X2_init fu M4 M3.1 x5).bind fun M6 =>
  (gz_pR M6 9 1 a0 M3.1).bind fun M7 =>
  gz_jn (gz_na M7 2 ((8 : Int32)).toNatClampNeg) fun M8 =>
  (gz_pR M8 9 2 a0 M7.1).bind fun M9 =>
  gz_jn (gz_nw M9 8) fun M10 =>
  (f_X8_init fu M10 M9.1).bind fun M11 =>
  (gz_pR M11 9 3 a0 M9.1).bind fun M12 =>
  gz_jn (gz_nw M12 8) fun M13 =>
  (f_X8_init fu M13 M12.1).bind fun M14 =>
  (gz_pR M14 9 4 a0 M12.1).bind fun M15 =>
  (gz_pZ M15 9 5 a0 (0 : Int32)).bind fun M16 =>
  gz_jn (gz_na M16 0 ((5 : Int32)).toNatClampNeg) fun M17 =>
  (gz_pR M17 9 6 a0 M16.1).bind fun M18 =>
  gz_jn (gz_nw M18 3) fun M19 =>
  (f_X3_init fu M19 M18.1).bind fun M20 =>
  (gz_pR M20 9 7 a0 M18.1).bind fun M21 =>
  gz_jn (gz_nw M21 5) fun M22 =>
  (f_X5_init fu M22 M21.1).bind fun M23 =>
  (gz_pR M23 9 8 a0 M21.1).bind fun M24 =>
  gz_jn (gz_nw M24 0) fun M25 =>
  (f_X0_init fu M25 M24.1).bind fun M26 =>
  (gz_pR M26 9 9 a0 M24.1).bind fun M27 =>
  (gz_gR M27 9 2 a0).bind fun x28 =>
  gz_jn (gz_nw M27 4) fun M29 =>
  (f_X4_init fu M29 M27.1).bind fun M30 =>
  (gz_tR M30 x28 (0 : Int32) M27.1).bind fun M31 =>
  (gz_gR M31 9 2 a0).bind fun x32 =>
  gz_jn (gz_nw M31 4) fun M33 =>
  (f_X4_init fu M33 M31.1).bind fun M34 =>
  (gz_tR M34 x32 (1 : Int32) M31.1).bind fun M35 =>
  (gz_gR M35 9 2 a0).bind fun x36 =>
  gz_jn (gz_nw M35 4) fun M37 =>
  (f_X4_init fu M37 M35.1).bind fun M38 =>
  (gz_tR M38 x36 (2 : Int32) M35.1).bind fun M39 =>
  (gz_gR M39 9 2 a0).bind fun x40 =>
  gz_jn (gz_nw M39 4) fun M41 =>
  (f_X4_init fu M41 M39.1).bind fun M42 =>
  (gz_tR M42 x40 (3 : Int32) M39.1).bind fun M43 =>
  (gz_gR M43 9 2 a0).bind fun x44 =>
  gz_jn (gz_nw M43 4) fun M45 =>
  (f_X4_init fu M45 M43.1).bind fun M46 =>
  (gz_tR M46 x44 (4 : Int32) M43.1).bind fun M47 =>
  (gz_gR M47 9 2 a0).bind fun x48 =>
  gz_jn (gz_nw M47 4) fun M49 =>
  (f_X4_init fu M49 M47.1).bind fun M50 =>
  (gz_tR M50 x48 (5 : Int32) M47.1).bind fun M51 =>
  (gz_gR M51 9 2 a0).bind fun x52 =>
  gz_jn (gz_nw M51 4) fun M53 =>
  (f_X4_init fu M53 M51.1).bind fun M54 =>
  (gz_tR M54 x52 (6 : Int32) M51.1).bind fun M55 =>
  (gz_gR M55 9 2 a0).bind fun x56 =>
  gz_jn (gz_nw M55 4) fun M57 =>
  (f_X4_init fu M57 M55.1).bind fun M58 =>
  (gz_tR M58 x56 (7 : Int32) M55.1).bind fun M59 =>
  some M59
set_option maxHeartbeats 4000000 in
theorem ct_X9_init (l : Launch) (G : gz_G) (fu : Nat) (M : gz_M) (a0 : Nat) (y : gz_M) (hF : f_X9_init fu M a0 = some y) : gz_ct l yX9_init cX9_init 2 none 4 81 109 6574 G [.ref a0] M none y := by
  refine gz_ct.of (by decide) (Nat.le_of_ble_eq_true rfl) (fun C hC hX => ?_)
  unfold f_X9_init at hF
  obtain ⟨-, hF⟩ := gz_gd_some hF
  show gz_go C 0 0 M [(0, .ref a0)] 0 []
  refine gz_aload_n 0 hC 0 dX9_init_0 rfl rfl ?_
  refine gz_oin 1 hC hX q_94 ⟨Nat.le_of_ble_eq_true rfl, Nat.le_of_ble_eq_true rfl⟩ dX9_init_1 ?_
  refine gz_aload_n 4 hC 0 dX9_init_4 rfl rfl ?_
  refine gz_new 5 hC hX 1 2 (ci := 6) rfl q_97 q_98 q_71 rfl rfl ⟨Nat.le_of_ble_eq_true rfl, Nat.le_of_ble_eq_true rfl⟩ dX9_init_5 hF (fun M1 _ hF => ?_)
  refine gz_dup 8 hC dX9_init_8 rfl ?_
  refine gz_cn (st := [.ref M.1, .ref a0]) 9 hC hX 2 252 [] yl_X6_init yi_X6_init q_99 ⟨Nat.le_of_ble_eq_true rfl, Nat.le_of_ble_eq_true rfl⟩ (fun r h => ct_X6_init _ _ fu M1 M.1 r h) rfl rfl (Nat.le_of_ble_eq_true rfl) dX9_init_9 rfl rfl ⟨Nat.le_of_ble_eq_true rfl, Nat.le_of_ble_eq_true rfl⟩ hF (fun M2 hF => ?_)
  refine gz_putR 12 hC fl_X9_12 fk_9_0 (Or.inr ⟨hX.2.2.2, _, rfl, rfl⟩) rfl rfl dX9_init_12 hF (fun M3 hF => ?_)
  refine gz_aload_n 15 hC 0 dX9_init_15 rfl rfl ?_
  refine gz_new 16 hC hX 3 257 (ci := 2) rfl q_113 q_114 q_72 rfl rfl ⟨Nat.le_of_ble_eq_true rfl, Nat.le_of_ble_eq_true rfl⟩ dX9_init_16 hF (fun M4 _ hF => ?_)
  refine gz_dup 19 hC dX9_init_19 rfl ?_
  refine gz_aload_n 20 hC 0 dX9_init_20 rfl rfl ?_
  refine gz_getR 21 hC fl_X9_12 fk_9_0 dX9_init_21 hF (fun x5 hF => ?_)
  refine gz_ci (st := [.ref M3.1, .ref a0]) 24 hC hX 3 257 [.ref x5] yl_X2_init yi_X2_init q_115 ⟨Nat.le_of_ble_eq_true rfl, Nat.le_of_ble_eq_true rfl⟩ (fun r h => ct_X2_init _ _ fu M4 M3.1 x5 r h) rfl rfl (Nat.le_of_ble_eq_true rfl) dX9_init_24 rfl rfl ⟨Nat.le_of_ble_eq_true rfl, Nat.le_of_ble_eq_true rfl⟩ hF (fun M6 hF => ?_)
  refine gz_putR 27 hC fl_X9_21 fk_9_1 (Or.inr ⟨hX.2.2.2, _, rfl, rfl⟩) rfl rfl dX9_init_27 hF (fun M7 hF => ?_)
  refine gz_aload_n 30 hC 0 dX9_init_30 rfl rfl ?_
  refine gz_bipush 31 hC (8 : Int32) dX9_init_31 gz_b8 ?_
  refine gz_anew 33 hC hX 4 265 2 q_135 q_136 rfl (by decide) rfl (by decide) (by decide) (by decide) ⟨Nat.le_of_ble_eq_true rfl, Nat.le_of_ble_eq_true rfl⟩ dX9_init_33 hF (fun M8 _ hF => ?_)
  refine gz_putR 36 hC fl_X9_27 fk_9_2 (Or.inr ⟨hX.2.2.2, _, rfl, rfl⟩) rfl rfl dX9_init_36 hF (fun M9 hF => ?_)
  refine gz_aload_n 39 hC 0 dX9_init_39 rfl rfl ?_
  refine gz_new 40 hC hX 5 268 (ci := 8) rfl q_137 q_138 q_73 rfl rfl ⟨Nat.le_of_ble_eq_true rfl, Nat.le_of_ble_eq_true rfl⟩ dX9_init_40 hF (fun M10 _ hF => ?_)
  refine gz_dup 43 hC dX9_init_43 rfl ?_
  refine gz_ci (st := [.ref M9.1, .ref a0]) 44 hC hX 32 849 [] yl_X8_init yi_X8_init q_139 ⟨Nat.le_of_ble_eq_true rfl, Nat.le_of_ble_eq_true rfl⟩ (fun r h => ct_X8_init _ _ fu M10 M9.1 r h) rfl rfl (Nat.le_of_ble_eq_true rfl) dX9_init_44 rfl rfl ⟨Nat.le_of_ble_eq_true rfl, Nat.le_of_ble_eq_true rfl⟩ hF (fun M11 hF => ?_)
  refine gz_putR 47 hC fl_X9_34 fk_9_3 (Or.inr ⟨hX.2.2.2, _, rfl, rfl⟩) rfl rfl dX9_init_47 hF (fun M12 hF => ?_)
  refine gz_aload_n 50 hC 0 dX9_init_50 rfl rfl ?_
  refine gz_new 51 hC hX 33 852 (ci := 8) rfl q_137 q_138 q_73 rfl rfl ⟨Nat.le_of_ble_eq_true rfl, Nat.le_of_ble_eq_true rfl⟩ dX9_init_51 hF (fun M13 _ hF => ?_)
  refine gz_dup 54 hC dX9_init_54 rfl ?_
  refine gz_ci (st := [.ref M12.1, .ref a0]) 55 hC hX 60 1433 [] yl_X8_init yi_X8_init q_139 ⟨Nat.le_of_ble_eq_true rfl, Nat.le_of_ble_eq_true rfl⟩ (fun r h => ct_X8_init _ _ fu M13 M12.1 r h) rfl rfl (Nat.le_of_ble_eq_true rfl) dX9_init_55 rfl rfl ⟨Nat.le_of_ble_eq_true rfl, Nat.le_of_ble_eq_true rfl⟩ hF (fun M14 hF => ?_)
  refine gz_putR 58 hC fl_X9_38 fk_9_4 (Or.inr ⟨hX.2.2.2, _, rfl, rfl⟩) rfl rfl dX9_init_58 hF (fun M15 hF => ?_)
  refine gz_aload_n 61 hC 0 dX9_init_61 rfl rfl ?_
  refine gz_iconst 62 hC (0 : Int32) dX9_init_62 gz_k0 ?_
  refine gz_putZ 63 hC fl_X9_41 fk_9_5 dX9_init_63 hF (fun M16 hF => ?_)
  refine gz_aload_n 66 hC 0 dX9_init_66 rfl rfl ?_
  refine gz_iconst 67 hC (5 : Int32) dX9_init_67 gz_k5 ?_
  refine gz_newaX 68 hC hX 61 1438 0 (atype := .int) q_112 rfl (gz_hzI _) rfl (by decide) (by decide) (by decide) ⟨Nat.le_of_ble_eq_true rfl, Nat.le_of_ble_eq_true rfl⟩ dX9_init_68 hF (fun M17 _ hF => ?_)
  refine gz_putR 70 hC fl_X9_45 fk_9_6 (Or.inr ⟨hX.2.2.2, _, rfl, rfl⟩) rfl rfl dX9_init_70 hF (fun M18 hF => ?_)
  refine gz_aload_n 73 hC 0 dX9_init_73 rfl rfl ?_
  refine gz_new 74 hC hX 62 1443 (ci := 3) rfl q_246 q_247 q_76 rfl rfl ⟨Nat.le_of_ble_eq_true rfl, Nat.le_of_ble_eq_true rfl⟩ dX9_init_74 hF (fun M19 _ hF => ?_)
  refine gz_dup 77 hC dX9_init_77 rfl ?_
  refine gz_cn (st := [.ref M18.1, .ref a0]) 78 hC hX 66 5539 [] yl_X3_init yi_X3_init q_248 ⟨Nat.le_of_ble_eq_true rfl, Nat.le_of_ble_eq_true rfl⟩ (fun r h => ct_X3_init _ _ fu M19 M18.1 r h) rfl rfl (Nat.le_of_ble_eq_true rfl) dX9_init_78 rfl rfl ⟨Nat.le_of_ble_eq_true rfl, Nat.le_of_ble_eq_true rfl⟩ hF (fun M20 hF => ?_)
  refine gz_putR 81 hC fl_X9_52 fk_9_7 (Or.inr ⟨hX.2.2.2, _, rfl, rfl⟩) rfl rfl dX9_init_81 hF (fun M21 hF => ?_)
  refine gz_aload_n 84 hC 0 dX9_init_84 rfl rfl ?_
  refine gz_new 85 hC hX 67 5546 (ci := 5) rfl q_270 q_271 q_77 rfl rfl ⟨Nat.le_of_ble_eq_true rfl, Nat.le_of_ble_eq_true rfl⟩ dX9_init_85 hF (fun M22 _ hF => ?_)
  refine gz_dup 88 hC dX9_init_88 rfl ?_
  refine gz_cn (st := [.ref M21.1, .ref a0]) 89 hC hX 78 5674 [] yl_X5_init yi_X5_init q_272 ⟨Nat.le_of_ble_eq_true rfl, Nat.le_of_ble_eq_true rfl⟩ (fun r h => ct_X5_init _ _ fu M22 M21.1 r h) rfl rfl (Nat.le_of_ble_eq_true rfl) dX9_init_89 rfl rfl ⟨Nat.le_of_ble_eq_true rfl, Nat.le_of_ble_eq_true rfl⟩ hF (fun M23 hF => ?_)
  refine gz_putR 92 hC fl_X9_59 fk_9_8 (Or.inr ⟨hX.2.2.2, _, rfl, rfl⟩) rfl rfl dX9_init_92 hF (fun M24 hF => ?_)
  refine gz_aload_n 95 hC 0 dX9_init_95 rfl rfl ?_
  refine gz_new 96 hC hX 79 5686 (ci := 0) rfl q_303 q_304 q_78 rfl rfl ⟨Nat.le_of_ble_eq_true rfl, Nat.le_of_ble_eq_true rfl⟩ dX9_init_96 hF (fun M25 _ hF => ?_)
  refine gz_dup 99 hC dX9_init_99 rfl ?_
  refine gz_cn (st := [.ref M24.1, .ref a0]) 100 hC hX 93 6214 [] yl_X0_init yi_X0_init q_305 ⟨Nat.le_of_ble_eq_true rfl, Nat.le_of_ble_eq_true rfl⟩ (fun r h => ct_X0_init _ _ fu M25 M24.1 r h) rfl rfl (Nat.le_of_ble_eq_true rfl) dX9_init_100 rfl rfl ⟨Nat.le_of_ble_eq_true rfl, Nat.le_of_ble_eq_true rfl⟩ hF (fun M26 hF => ?_)
  refine gz_putR 103 hC fl_X9_66 fk_9_9 (Or.inr ⟨hX.2.2.2, _, rfl, rfl⟩) rfl rfl dX9_init_103 hF (fun M27 hF => ?_)
  refine gz_iconst 106 hC (0 : Int32) dX9_init_106 gz_k0 ?_
  refine gz_istore_n 107 hC [(1, .int (0 : Int32)), (0, .ref a0)] dX9_init_107 rfl (by decide) rfl ?_
  refine gz_iload_n 108 hC 0 dX9_init_108 rfl rfl ?_
  refine gz_bipush 109 hC (8 : Int32) dX9_init_109 gz_b8 ?_
  refine gz_icmp_ge 111 133 hC (A := none) (B := some ()) (y := ()) dX9_init_111 (by decide) (by decide) (fun h => nomatch h) (fun _ => ?_)
  refine gz_aload_n 114 hC 1 dX9_init_114 rfl rfl ?_
  refine gz_getR 115 hC fl_X9_27 fk_9_2 dX9_init_115 hF (fun x28 hF => ?_)
  refine gz_iload_n 118 hC 0 dX9_init_118 rfl rfl ?_
  refine gz_new 119 hC hX 94 6219 (ci := 4) rfl q_135 q_351 q_79 rfl rfl ⟨Nat.le_of_ble_eq_true rfl, Nat.le_of_ble_eq_true rfl⟩ dX9_init_119 hF (fun M29 _ hF => ?_)
  refine gz_dup 122 hC dX9_init_122 rfl ?_
  refine gz_cn (st := [.ref M27.1, .int (0 : Int32), .ref x28]) 123 hC hX 95 6259 [] yl_X4_init yi_X4_init q_352 ⟨Nat.le_of_ble_eq_true rfl, Nat.le_of_ble_eq_true rfl⟩ (fun r h => ct_X4_init _ _ fu M29 M27.1 r h) rfl rfl (Nat.le_of_ble_eq_true rfl) dX9_init_123 rfl rfl ⟨Nat.le_of_ble_eq_true rfl, Nat.le_of_ble_eq_true rfl⟩ hF (fun M30 hF => ?_)
  refine gz_aast 126 hC dX9_init_126 hF (fun M31 hF => ?_)
  refine gz_iinc 127 hC (1 : Int32) 0 [(1, .int (1 : Int32)), (0, .ref a0)] dX9_init_127 rfl (by decide) (by decide) rfl ?_
  refine gz_goto 130 108 hC dX9_init_130 (by decide) ?_
  refine gz_iload_n 108 hC 0 dX9_init_108 rfl rfl ?_
  refine gz_bipush 109 hC (8 : Int32) dX9_init_109 gz_b8 ?_
  refine gz_icmp_ge 111 133 hC (A := none) (B := some ()) (y := ()) dX9_init_111 (by decide) (by decide) (fun h => nomatch h) (fun _ => ?_)
  refine gz_aload_n 114 hC 1 dX9_init_114 rfl rfl ?_
  refine gz_getR 115 hC fl_X9_27 fk_9_2 dX9_init_115 hF (fun x32 hF => ?_)
  refine gz_iload_n 118 hC 0 dX9_init_118 rfl rfl ?_
  refine gz_new 119 hC hX 96 6264 (ci := 4) rfl q_135 q_351 q_79 rfl rfl ⟨Nat.le_of_ble_eq_true rfl, Nat.le_of_ble_eq_true rfl⟩ dX9_init_119 hF (fun M33 _ hF => ?_)
  refine gz_dup 122 hC dX9_init_122 rfl ?_
  refine gz_cn (st := [.ref M31.1, .int (1 : Int32), .ref x32]) 123 hC hX 97 6304 [] yl_X4_init yi_X4_init q_352 ⟨Nat.le_of_ble_eq_true rfl, Nat.le_of_ble_eq_true rfl⟩ (fun r h => ct_X4_init _ _ fu M33 M31.1 r h) rfl rfl (Nat.le_of_ble_eq_true rfl) dX9_init_123 rfl rfl ⟨Nat.le_of_ble_eq_true rfl, Nat.le_of_ble_eq_true rfl⟩ hF (fun M34 hF => ?_)
  refine gz_aast 126 hC dX9_init_126 hF (fun M35 hF => ?_)
  refine gz_iinc 127 hC (2 : Int32) 0 [(1, .int (2 : Int32)), (0, .ref a0)] dX9_init_127 rfl (by decide) (by decide) rfl ?_
  refine gz_goto 130 108 hC dX9_init_130 (by decide) ?_
  refine gz_iload_n 108 hC 0 dX9_init_108 rfl rfl ?_
  refine gz_bipush 109 hC (8 : Int32) dX9_init_109 gz_b8 ?_
  refine gz_icmp_ge 111 133 hC (A := none) (B := some ()) (y := ()) dX9_init_111 (by decide) (by decide) (fun h => nomatch h) (fun _ => ?_)
  refine gz_aload_n 114 hC 1 dX9_init_114 rfl rfl ?_
  refine gz_getR 115 hC fl_X9_27 fk_9_2 dX9_init_115 hF (fun x36 hF => ?_)
  refine gz_iload_n 118 hC 0 dX9_init_118 rfl rfl ?_
  refine gz_new 119 hC hX 98 6309 (ci := 4) rfl q_135 q_351 q_79 rfl rfl ⟨Nat.le_of_ble_eq_true rfl, Nat.le_of_ble_eq_true rfl⟩ dX9_init_119 hF (fun M37 _ hF => ?_)
  refine gz_dup 122 hC dX9_init_122 rfl ?_
  refine gz_cn (st := [.ref M35.1, .int (2 : Int32), .ref x36]) 123 hC hX 99 6349 [] yl_X4_init yi_X4_init q_352 ⟨Nat.le_of_ble_eq_true rfl, Nat.le_of_ble_eq_true rfl⟩ (fun r h => ct_X4_init _ _ fu M37 M35.1 r h) rfl rfl (Nat.le_of_ble_eq_true rfl) dX9_init_123 rfl rfl ⟨Nat.le_of_ble_eq_true rfl, Nat.le_of_ble_eq_true rfl⟩ hF (fun M38 hF => ?_)
  refine gz_aast 126 hC dX9_init_126 hF (fun M39 hF => ?_)
  refine gz_iinc 127 hC (3 : Int32) 0 [(1, .int (3 : Int32)), (0, .ref a0)] dX9_init_127 rfl (by decide) (by decide) rfl ?_
  refine gz_goto 130 108 hC dX9_init_130 (by decide) ?_
  refine gz_iload_n 108 hC 0 dX9_init_108 rfl rfl ?_
  refine gz_bipush 109 hC (8 : Int32) dX9_init_109 gz_b8 ?_
  refine gz_icmp_ge 111 133 hC (A := none) (B := some ()) (y := ()) dX9_init_111 (by decide) (by decide) (fun h => nomatch h) (fun _ => ?_)
  refine gz_aload_n 114 hC 1 dX9_init_114 rfl rfl ?_
  refine gz_getR 115 hC fl_X9_27 fk_9_2 dX9_init_115 hF (fun x40 hF => ?_)
  refine gz_iload_n 118 hC 0 dX9_init_118 rfl rfl ?_
  refine gz_new 119 hC hX 100 6354 (ci := 4) rfl q_135 q_351 q_79 rfl rfl ⟨Nat.le_of_ble_eq_true rfl, Nat.le_of_ble_eq_true rfl⟩ dX9_init_119 hF (fun M41 _ hF => ?_)
  refine gz_dup 122 hC dX9_init_122 rfl ?_
  refine gz_cn (st := [.ref M39.1, .int (3 : Int32), .ref x40]) 123 hC hX 101 6394 [] yl_X4_init yi_X4_init q_352 ⟨Nat.le_of_ble_eq_true rfl, Nat.le_of_ble_eq_true rfl⟩ (fun r h => ct_X4_init _ _ fu M41 M39.1 r h) rfl rfl (Nat.le_of_ble_eq_true rfl) dX9_init_123 rfl rfl ⟨Nat.le_of_ble_eq_true rfl, Nat.le_of_ble_eq_true rfl⟩ hF (fun M42 hF => ?_)
  refine gz_aast 126 hC dX9_init_126 hF (fun M43 hF => ?_)
  refine gz_iinc 127 hC (4 : Int32) 0 [(1, .int (4 : Int32)), (0, .ref a0)] dX9_init_127 rfl (by decide) (by decide) rfl ?_
  refine gz_goto 130 108 hC dX9_init_130 (by decide) ?_
  refine gz_iload_n 108 hC 0 dX9_init_108 rfl rfl ?_
  refine gz_bipush 109 hC (8 : Int32) dX9_init_109 gz_b8 ?_
  refine gz_icmp_ge 111 133 hC (A := none) (B := some ()) (y := ()) dX9_init_111 (by decide) (by decide) (fun h => nomatch h) (fun _ => ?_)
  refine gz_aload_n 114 hC 1 dX9_init_114 rfl rfl ?_
  refine gz_getR 115 hC fl_X9_27 fk_9_2 dX9_init_115 hF (fun x44 hF => ?_)
  refine gz_iload_n 118 hC 0 dX9_init_118 rfl rfl ?_
  refine gz_new 119 hC hX 102 6399 (ci := 4) rfl q_135 q_351 q_79 rfl rfl ⟨Nat.le_of_ble_eq_true rfl, Nat.le_of_ble_eq_true rfl⟩ dX9_init_119 hF (fun M45 _ hF => ?_)
  refine gz_dup 122 hC dX9_init_122 rfl ?_
  refine gz_cn (st := [.ref M43.1, .int (4 : Int32), .ref x44]) 123 hC hX 103 6439 [] yl_X4_init yi_X4_init q_352 ⟨Nat.le_of_ble_eq_true rfl, Nat.le_of_ble_eq_true rfl⟩ (fun r h => ct_X4_init _ _ fu M45 M43.1 r h) rfl rfl (Nat.le_of_ble_eq_true rfl) dX9_init_123 rfl rfl ⟨Nat.le_of_ble_eq_true rfl, Nat.le_of_ble_eq_true rfl⟩ hF (fun M46 hF => ?_)
  refine gz_aast 126 hC dX9_init_126 hF (fun M47 hF => ?_)
  refine gz_iinc 127 hC (5 : Int32) 0 [(1, .int (5 : Int32)), (0, .ref a0)] dX9_init_127 rfl (by decide) (by decide) rfl ?_
  refine gz_goto 130 108 hC dX9_init_130 (by decide) ?_
  refine gz_iload_n 108 hC 0 dX9_init_108 rfl rfl ?_
  refine gz_bipush 109 hC (8 : Int32) dX9_init_109 gz_b8 ?_
  refine gz_icmp_ge 111 133 hC (A := none) (B := some ()) (y := ()) dX9_init_111 (by decide) (by decide) (fun h => nomatch h) (fun _ => ?_)
  refine gz_aload_n 114 hC 1 dX9_init_114 rfl rfl ?_
  refine gz_getR 115 hC fl_X9_27 fk_9_2 dX9_init_115 hF (fun x48 hF => ?_)
  refine gz_iload_n 118 hC 0 dX9_init_118 rfl rfl ?_
  refine gz_new 119 hC hX 104 6444 (ci := 4) rfl q_135 q_351 q_79 rfl rfl ⟨Nat.le_of_ble_eq_true rfl, Nat.le_of_ble_eq_true rfl⟩ dX9_init_119 hF (fun M49 _ hF => ?_)
  refine gz_dup 122 hC dX9_init_122 rfl ?_
  refine gz_cn (st := [.ref M47.1, .int (5 : Int32), .ref x48]) 123 hC hX 105 6484 [] yl_X4_init yi_X4_init q_352 ⟨Nat.le_of_ble_eq_true rfl, Nat.le_of_ble_eq_true rfl⟩ (fun r h => ct_X4_init _ _ fu M49 M47.1 r h) rfl rfl (Nat.le_of_ble_eq_true rfl) dX9_init_123 rfl rfl ⟨Nat.le_of_ble_eq_true rfl, Nat.le_of_ble_eq_true rfl⟩ hF (fun M50 hF => ?_)
  refine gz_aast 126 hC dX9_init_126 hF (fun M51 hF => ?_)
  refine gz_iinc 127 hC (6 : Int32) 0 [(1, .int (6 : Int32)), (0, .ref a0)] dX9_init_127 rfl (by decide) (by decide) rfl ?_
  refine gz_goto 130 108 hC dX9_init_130 (by decide) ?_
  refine gz_iload_n 108 hC 0 dX9_init_108 rfl rfl ?_
  refine gz_bipush 109 hC (8 : Int32) dX9_init_109 gz_b8 ?_
  refine gz_icmp_ge 111 133 hC (A := none) (B := some ()) (y := ()) dX9_init_111 (by decide) (by decide) (fun h => nomatch h) (fun _ => ?_)
  refine gz_aload_n 114 hC 1 dX9_init_114 rfl rfl ?_
  refine gz_getR 115 hC fl_X9_27 fk_9_2 dX9_init_115 hF (fun x52 hF => ?_)
  refine gz_iload_n 118 hC 0 dX9_init_118 rfl rfl ?_
  refine gz_new 119 hC hX 106 6489 (ci := 4) rfl q_135 q_351 q_79 rfl rfl ⟨Nat.le_of_ble_eq_true rfl, Nat.le_of_ble_eq_true rfl⟩ dX9_init_119 hF (fun M53 _ hF => ?_)
  refine gz_dup 122 hC dX9_init_122 rfl ?_
  refine gz_cn (st := [.ref M51.1, .int (6 : Int32), .ref x52]) 123 hC hX 107 6529 [] yl_X4_init yi_X4_init q_352 ⟨Nat.le_of_ble_eq_true rfl, Nat.le_of_ble_eq_true rfl⟩ (fun r h => ct_X4_init _ _ fu M53 M51.1 r h) rfl rfl (Nat.le_of_ble_eq_true rfl) dX9_init_123 rfl rfl ⟨Nat.le_of_ble_eq_true rfl, Nat.le_of_ble_eq_true rfl⟩ hF (fun M54 hF => ?_)
  refine gz_aast 126 hC dX9_init_126 hF (fun M55 hF => ?_)
  refine gz_iinc 127 hC (7 : Int32) 0 [(1, .int (7 : Int32)), (0, .ref a0)] dX9_init_127 rfl (by decide) (by decide) rfl ?_
  refine gz_goto 130 108 hC dX9_init_130 (by decide) ?_
  refine gz_iload_n 108 hC 0 dX9_init_108 rfl rfl ?_
  refine gz_bipush 109 hC (8 : Int32) dX9_init_109 gz_b8 ?_
  refine gz_icmp_ge 111 133 hC (A := none) (B := some ()) (y := ()) dX9_init_111 (by decide) (by decide) (fun h => nomatch h) (fun _ => ?_)
  refine gz_aload_n 114 hC 1 dX9_init_114 rfl rfl ?_
  refine gz_getR 115 hC fl_X9_27 fk_9_2 dX9_init_115 hF (fun x56 hF => ?_)
  refine gz_iload_n 118 hC 0 dX9_init_118 rfl rfl ?_
  refine gz_new 119 hC hX 108 6534 (ci := 4) rfl q_135 q_351 q_79 rfl rfl ⟨Nat.le_of_ble_eq_true rfl, Nat.le_of_ble_eq_true rfl⟩ dX9_init_119 hF (fun M57 _ hF => ?_)
  refine gz_dup 122 hC dX9_init_122 rfl ?_
  refine gz_cn (st := [.ref M55.1, .int (7 : Int32), .ref x56]) 123 hC hX 109 6574 [] yl_X4_init yi_X4_init q_352 ⟨Nat.le_of_ble_eq_true rfl, Nat.le_of_ble_eq_true rfl⟩ (fun r h => ct_X4_init _ _ fu M57 M55.1 r h) rfl rfl (Nat.le_of_ble_eq_true rfl) dX9_init_123 rfl rfl ⟨Nat.le_of_ble_eq_true rfl, Nat.le_of_ble_eq_true rfl⟩ hF (fun M58 hF => ?_)
  refine gz_aast 126 hC dX9_init_126 hF (fun M59 hF => ?_)
  refine gz_iinc 127 hC (8 : Int32) 0 [(1, .int (8 : Int32)), (0, .ref a0)] dX9_init_127 rfl (by decide) (by decide) rfl ?_
  refine gz_goto 130 108 hC dX9_init_130 (by decide) ?_
  refine gz_iload_n 108 hC 0 dX9_init_108 rfl rfl ?_
  refine gz_bipush 109 hC (8 : Int32) dX9_init_109 gz_b8 ?_
  refine gz_icmp_ge 111 133 hC (A := some ()) (B := none) (y := ()) dX9_init_111 (by decide) (by decide) (fun _ => ?_) (fun h => nomatch h)
  exact gz_vretM 133 hC hX dX9_init_133 hF

theorem dX10_init_0 : decode cX10_init 0 = .ok (.aload_n 0, 1) := by decide +kernel
theorem dX10_init_1 : decode cX10_init 1 = .ok (.invokespecial 1, 3) := by decide +kernel
theorem dX10_init_4 : decode cX10_init 4 = .ok (.aload_n 0, 1) := by decide +kernel
theorem dX10_init_5 : decode cX10_init 5 = .ok (.bipush 8, 2) := by decide +kernel
theorem dX10_init_7 : decode cX10_init 7 = .ok (.newarray .int, 2) := by decide +kernel
theorem dX10_init_9 : decode cX10_init 9 = .ok (.putfield 7, 3) := by decide +kernel
theorem dX10_init_12 : decode cX10_init 12 = .ok (.aload_n 0, 1) := by decide +kernel
theorem dX10_init_13 : decode cX10_init 13 = .ok (.bipush 8, 2) := by decide +kernel
theorem dX10_init_15 : decode cX10_init 15 = .ok (.newarray .int, 2) := by decide +kernel
theorem dX10_init_17 : decode cX10_init 17 = .ok (.putfield 13, 3) := by decide +kernel
theorem dX10_init_20 : decode cX10_init 20 = .ok (.aload_n 0, 1) := by decide +kernel
theorem dX10_init_21 : decode cX10_init 21 = .ok (.bipush 8, 2) := by decide +kernel
theorem dX10_init_23 : decode cX10_init 23 = .ok (.newarray .int, 2) := by decide +kernel
theorem dX10_init_25 : decode cX10_init 25 = .ok (.putfield 16, 3) := by decide +kernel
theorem dX10_init_28 : decode cX10_init 28 = .ok (.aload_n 0, 1) := by decide +kernel
theorem dX10_init_29 : decode cX10_init 29 = .ok (.bipush 8, 2) := by decide +kernel
theorem dX10_init_31 : decode cX10_init 31 = .ok (.bipush 40, 2) := by decide +kernel
theorem dX10_init_33 : decode cX10_init 33 = .ok (.multianewarray 19 2, 4) := by decide +kernel
theorem dX10_init_37 : decode cX10_init 37 = .ok (.putfield 21, 3) := by decide +kernel
theorem dX10_init_40 : decode cX10_init 40 = .ok (.aload_n 0, 1) := by decide +kernel
theorem dX10_init_41 : decode cX10_init 41 = .ok (.bipush 40, 2) := by decide +kernel
theorem dX10_init_43 : decode cX10_init 43 = .ok (.newarray .long, 2) := by decide +kernel
theorem dX10_init_45 : decode cX10_init 45 = .ok (.putfield 24, 3) := by decide +kernel
theorem dX10_init_48 : decode cX10_init 48 = .ok (.aload_n 0, 1) := by decide +kernel
theorem dX10_init_49 : decode cX10_init 49 = .ok (.bipush 8, 2) := by decide +kernel
theorem dX10_init_51 : decode cX10_init 51 = .ok (.newarray .int, 2) := by decide +kernel
theorem dX10_init_53 : decode cX10_init 53 = .ok (.putfield 28, 3) := by decide +kernel
theorem dX10_init_56 : decode cX10_init 56 = .ok (.aload_n 0, 1) := by decide +kernel
theorem dX10_init_57 : decode cX10_init 57 = .ok (.bipush 8, 2) := by decide +kernel
theorem dX10_init_59 : decode cX10_init 59 = .ok (.newarray .int, 2) := by decide +kernel
theorem dX10_init_61 : decode cX10_init 61 = .ok (.putfield 31, 3) := by decide +kernel
theorem dX10_init_64 : decode cX10_init 64 = .ok (.aload_n 0, 1) := by decide +kernel
theorem dX10_init_65 : decode cX10_init 65 = .ok (.bipush 8, 2) := by decide +kernel
theorem dX10_init_67 : decode cX10_init 67 = .ok (.newarray .int, 2) := by decide +kernel
theorem dX10_init_69 : decode cX10_init 69 = .ok (.putfield 34, 3) := by decide +kernel
theorem dX10_init_72 : decode cX10_init 72 = .ok (.aload_n 0, 1) := by decide +kernel
theorem dX10_init_73 : decode cX10_init 73 = .ok (.sipush 250, 3) := by decide +kernel
theorem dX10_init_76 : decode cX10_init 76 = .ok (.newarray .int, 2) := by decide +kernel
theorem dX10_init_78 : decode cX10_init 78 = .ok (.putfield 37, 3) := by decide +kernel
theorem dX10_init_81 : decode cX10_init 81 = .ok (.aload_n 0, 1) := by decide +kernel
theorem dX10_init_82 : decode cX10_init 82 = .ok (.bipush 8, 2) := by decide +kernel
theorem dX10_init_84 : decode cX10_init 84 = .ok (.newarray .int, 2) := by decide +kernel
theorem dX10_init_86 : decode cX10_init 86 = .ok (.putfield 40, 3) := by decide +kernel
theorem dX10_init_89 : decode cX10_init 89 = .ok (.aload_n 0, 1) := by decide +kernel
theorem dX10_init_90 : decode cX10_init 90 = .ok (.iconst 5, 1) := by decide +kernel
theorem dX10_init_91 : decode cX10_init 91 = .ok (.bipush 10, 2) := by decide +kernel
theorem dX10_init_93 : decode cX10_init 93 = .ok (.multianewarray 43 2, 4) := by decide +kernel
theorem dX10_init_97 : decode cX10_init 97 = .ok (.putfield 45, 3) := by decide +kernel
theorem dX10_init_100 : decode cX10_init 100 = .ok (.aload_n 0, 1) := by decide +kernel
theorem dX10_init_101 : decode cX10_init 101 = .ok (.iconst 5, 1) := by decide +kernel
theorem dX10_init_102 : decode cX10_init 102 = .ok (.bipush 60, 2) := by decide +kernel
theorem dX10_init_104 : decode cX10_init 104 = .ok (.multianewarray 43 2, 4) := by decide +kernel
theorem dX10_init_108 : decode cX10_init 108 = .ok (.putfield 48, 3) := by decide +kernel
theorem dX10_init_111 : decode cX10_init 111 = .ok (.aload_n 0, 1) := by decide +kernel
theorem dX10_init_112 : decode cX10_init 112 = .ok (.iconst 5, 1) := by decide +kernel
theorem dX10_init_113 : decode cX10_init 113 = .ok (.bipush 40, 2) := by decide +kernel
theorem dX10_init_115 : decode cX10_init 115 = .ok (.multianewarray 43 2, 4) := by decide +kernel
theorem dX10_init_119 : decode cX10_init 119 = .ok (.putfield 51, 3) := by decide +kernel
theorem dX10_init_122 : decode cX10_init 122 = .ok (.aload_n 0, 1) := by decide +kernel
theorem dX10_init_123 : decode cX10_init 123 = .ok (.iconst (-1), 1) := by decide +kernel
theorem dX10_init_124 : decode cX10_init 124 = .ok (.putfield 54, 3) := by decide +kernel
theorem dX10_init_127 : decode cX10_init 127 = .ok (.aload_n 0, 1) := by decide +kernel
theorem dX10_init_128 : decode cX10_init 128 = .ok (.iconst (-1), 1) := by decide +kernel
theorem dX10_init_129 : decode cX10_init 129 = .ok (.putfield 58, 3) := by decide +kernel
theorem dX10_init_132 : decode cX10_init 132 = .ok (.aload_n 0, 1) := by decide +kernel
theorem dX10_init_133 : decode cX10_init 133 = .ok (.bipush 12, 2) := by decide +kernel
theorem dX10_init_135 : decode cX10_init 135 = .ok (.newarray .int, 2) := by decide +kernel
theorem dX10_init_137 : decode cX10_init 137 = .ok (.putfield 61, 3) := by decide +kernel
theorem dX10_init_140 : decode cX10_init 140 = .ok (.aload_n 0, 1) := by decide +kernel
theorem dX10_init_141 : decode cX10_init 141 = .ok (.bipush 12, 2) := by decide +kernel
theorem dX10_init_143 : decode cX10_init 143 = .ok (.newarray .int, 2) := by decide +kernel
theorem dX10_init_145 : decode cX10_init 145 = .ok (.putfield 64, 3) := by decide +kernel
theorem dX10_init_148 : decode cX10_init 148 = .ok (.aload_n 0, 1) := by decide +kernel
theorem dX10_init_149 : decode cX10_init 149 = .ok (.iconst 3, 1) := by decide +kernel
theorem dX10_init_150 : decode cX10_init 150 = .ok (.bipush 12, 2) := by decide +kernel
theorem dX10_init_152 : decode cX10_init 152 = .ok (.multianewarray 43 2, 4) := by decide +kernel
theorem dX10_init_156 : decode cX10_init 156 = .ok (.putfield 67, 3) := by decide +kernel
theorem dX10_init_159 : decode cX10_init 159 = .ok (.return_, 1) := by decide +kernel
def f_X10_init (fu : Nat) (M : gz_M) (a0 : Nat) : Option (gz_M) :=
  gz_gd M 10 a0 <|
  gz_jn (gz_na M 0 ((8 : Int32)).toNatClampNeg) fun M1 =>
  (gz_pR M1 10 0 a0 M.1).bind fun M2 =>
  gz_jn (gz_na M2 0 ((8 : Int32)).toNatClampNeg) fun M3 =>
  (gz_pR M3 10 1 a0 M2.1).bind fun M4 =>
  gz_jn (gz_na M4 0 ((8 : Int32)).toNatClampNeg) fun M5 =>
  (gz_pR M5 10 2 a0 M4.1).bind fun M6 =>
  gz_jn (gz_mn M6 5 8 40) fun M7 =>
  (gz_pR M7 10 3 a0 M6.1).bind fun M8 =>
  gz_jn (gz_na M8 1 ((40 : Int32)).toNatClampNeg) fun M9 =>
  (gz_pR M9 10 4 a0 M8.1).bind fun M10 =>
  gz_jn (gz_na M10 0 ((8 : Int32)).toNatClampNeg) fun M11 =>
  (gz_pR M11 10 5 a0 M10.1).bind fun M12 =>
  gz_jn (gz_na M12 0 ((8 : Int32)).toNatClampNeg) fun M13 =>
  (gz_pR M13 10 6 a0 M12.1).bind fun M14 =>
  gz_jn (gz_na M14 0 ((8 : Int32)).toNatClampNeg) fun M15 =>
  (gz_pR M15 10 7 a0 M14.1).bind fun M16 =>
  gz_jn (gz_na M16 0 ((250 : Int32)).toNatClampNeg) fun M17 =>
  (gz_pR M17 10 8 a0 M16.1).bind fun M18 =>
  gz_jn (gz_na M18 0 ((8 : Int32)).toNatClampNeg) fun M19 =>
  (gz_pR M19 10 10 a0 M18.1).bind fun M20 =>
  gz_jn (gz_mn M20 4 5 10) fun M21 =>
  (gz_pR M21 10 12 a0 M20.1).bind fun M22 =>
  gz_jn (gz_mn M22 4 5 60) fun M23 =>
  (gz_pR M23 10 13 a0 M22.1).bind fun M24 =>
  gz_jn (gz_mn M24 4 5 40) fun M25 =>
  (gz_pR M25 10 14 a0 M24.1).bind fun M26 =>
  (gz_pI M26 10 15 a0 (-1 : Int32)).bind fun M27 =>
  (gz_pI M27 10 18 a0 (-1 : Int32)).bind fun M28 =>
  gz_jn (gz_na M28 0 ((12 : Int32)).toNatClampNeg) fun M29 =>
  (gz_pR M29 10 27 a0 M28.1).bind fun M30 =>
  gz_jn (gz_na M30 0 ((12 : Int32)).toNatClampNeg) fun M31 =>
  (gz_pR M31 10 28 a0 M30.1).bind fun M32 =>
  gz_jn (gz_mn M32 4 3 12) fun M33 =>
  (gz_pR M33 10 29 a0 M32.1).bind fun M34 =>
  some M34
set_option maxHeartbeats 4000000 in
theorem ct_X10_init (l : Launch) (G : gz_G) (fu : Nat) (M : gz_M) (a0 : Nat) (y : gz_M) (hF : f_X10_init fu M a0 = some y) : gz_ct l yX10_init cX10_init 1 none 1 20 42 1302 G [.ref a0] M none y := by
  refine gz_ct.of (by decide) (Nat.le_of_ble_eq_true rfl) (fun C hC hX => ?_)
  unfold f_X10_init at hF
  obtain ⟨-, hF⟩ := gz_gd_some hF
  show gz_go C 0 0 M [(0, .ref a0)] 0 []
  refine gz_aload_n 0 hC 0 dX10_init_0 rfl rfl ?_
  refine gz_oin 1 hC hX q_1071 ⟨Nat.le_of_ble_eq_true rfl, Nat.le_of_ble_eq_true rfl⟩ dX10_init_1 ?_
  refine gz_aload_n 4 hC 0 dX10_init_4 rfl rfl ?_
  refine gz_bipush 5 hC (8 : Int32) dX10_init_5 gz_b8 ?_
  refine gz_newaX 7 hC hX 1 8 0 (atype := .int) q_112 rfl (gz_hzI _) rfl (by decide) (by decide) (by decide) ⟨Nat.le_of_ble_eq_true rfl, Nat.le_of_ble_eq_true rfl⟩ dX10_init_7 hF (fun M1 _ hF => ?_)
  refine gz_putR 9 hC fl_X10_7 fk_10_0 (Or.inr ⟨hX.2.2.2, _, rfl, rfl⟩) rfl rfl dX10_init_9 hF (fun M2 hF => ?_)
  refine gz_aload_n 12 hC 0 dX10_init_12 rfl rfl ?_
  refine gz_bipush 13 hC (8 : Int32) dX10_init_13 gz_b8 ?_
  refine gz_newaX 15 hC hX 2 16 0 (atype := .int) q_112 rfl (gz_hzI _) rfl (by decide) (by decide) (by decide) ⟨Nat.le_of_ble_eq_true rfl, Nat.le_of_ble_eq_true rfl⟩ dX10_init_15 hF (fun M3 _ hF => ?_)
  refine gz_putR 17 hC fl_X10_13 fk_10_1 (Or.inr ⟨hX.2.2.2, _, rfl, rfl⟩) rfl rfl dX10_init_17 hF (fun M4 hF => ?_)
  refine gz_aload_n 20 hC 0 dX10_init_20 rfl rfl ?_
  refine gz_bipush 21 hC (8 : Int32) dX10_init_21 gz_b8 ?_
  refine gz_newaX 23 hC hX 3 24 0 (atype := .int) q_112 rfl (gz_hzI _) rfl (by decide) (by decide) (by decide) ⟨Nat.le_of_ble_eq_true rfl, Nat.le_of_ble_eq_true rfl⟩ dX10_init_23 hF (fun M5 _ hF => ?_)
  refine gz_putR 25 hC fl_X10_16 fk_10_2 (Or.inr ⟨hX.2.2.2, _, rfl, rfl⟩) rfl rfl dX10_init_25 hF (fun M6 hF => ?_)
  refine gz_aload_n 28 hC 0 dX10_init_28 rfl rfl ?_
  refine gz_bipush 29 hC (8 : Int32) dX10_init_29 gz_b8 ?_
  refine gz_bipush 31 hC (40 : Int32) dX10_init_31 gz_b40 ?_
  refine gz_mnew 33 hC hX 12 352 5 .long 8 40 q_1072 (by decide) q_1073 q_375 (by decide) (by decide) (by decide) rfl rfl (by decide) (by decide) (by decide) ⟨Nat.le_of_ble_eq_true rfl, Nat.le_of_ble_eq_true rfl⟩ dX10_init_33 hF (fun M7 _ hF => ?_)
  refine gz_putR 37 hC fl_X10_21 fk_10_3 (Or.inr ⟨hX.2.2.2, _, rfl, rfl⟩) rfl rfl dX10_init_37 hF (fun M8 hF => ?_)
  refine gz_aload_n 40 hC 0 dX10_init_40 rfl rfl ?_
  refine gz_bipush 41 hC (40 : Int32) dX10_init_41 gz_b40 ?_
  refine gz_newaX 43 hC hX 13 392 1 (atype := .long) q_375 rfl (gz_hzL _) rfl (by decide) (by decide) (by decide) ⟨Nat.le_of_ble_eq_true rfl, Nat.le_of_ble_eq_true rfl⟩ dX10_init_43 hF (fun M9 _ hF => ?_)
  refine gz_putR 45 hC fl_X10_24 fk_10_4 (Or.inr ⟨hX.2.2.2, _, rfl, rfl⟩) rfl rfl dX10_init_45 hF (fun M10 hF => ?_)
  refine gz_aload_n 48 hC 0 dX10_init_48 rfl rfl ?_
  refine gz_bipush 49 hC (8 : Int32) dX10_init_49 gz_b8 ?_
  refine gz_newaX 51 hC hX 14 400 0 (atype := .int) q_112 rfl (gz_hzI _) rfl (by decide) (by decide) (by decide) ⟨Nat.le_of_ble_eq_true rfl, Nat.le_of_ble_eq_true rfl⟩ dX10_init_51 hF (fun M11 _ hF => ?_)
  refine gz_putR 53 hC fl_X10_28 fk_10_5 (Or.inr ⟨hX.2.2.2, _, rfl, rfl⟩) rfl rfl dX10_init_53 hF (fun M12 hF => ?_)
  refine gz_aload_n 56 hC 0 dX10_init_56 rfl rfl ?_
  refine gz_bipush 57 hC (8 : Int32) dX10_init_57 gz_b8 ?_
  refine gz_newaX 59 hC hX 15 408 0 (atype := .int) q_112 rfl (gz_hzI _) rfl (by decide) (by decide) (by decide) ⟨Nat.le_of_ble_eq_true rfl, Nat.le_of_ble_eq_true rfl⟩ dX10_init_59 hF (fun M13 _ hF => ?_)
  refine gz_putR 61 hC fl_X10_31 fk_10_6 (Or.inr ⟨hX.2.2.2, _, rfl, rfl⟩) rfl rfl dX10_init_61 hF (fun M14 hF => ?_)
  refine gz_aload_n 64 hC 0 dX10_init_64 rfl rfl ?_
  refine gz_bipush 65 hC (8 : Int32) dX10_init_65 gz_b8 ?_
  refine gz_newaX 67 hC hX 16 416 0 (atype := .int) q_112 rfl (gz_hzI _) rfl (by decide) (by decide) (by decide) ⟨Nat.le_of_ble_eq_true rfl, Nat.le_of_ble_eq_true rfl⟩ dX10_init_67 hF (fun M15 _ hF => ?_)
  refine gz_putR 69 hC fl_X10_34 fk_10_7 (Or.inr ⟨hX.2.2.2, _, rfl, rfl⟩) rfl rfl dX10_init_69 hF (fun M16 hF => ?_)
  refine gz_aload_n 72 hC 0 dX10_init_72 rfl rfl ?_
  refine gz_sipush 73 hC (250 : Int32) dX10_init_73 gz_s250 ?_
  refine gz_newaX 76 hC hX 17 666 0 (atype := .int) q_112 rfl (gz_hzI _) rfl (by decide) (by decide) (by decide) ⟨Nat.le_of_ble_eq_true rfl, Nat.le_of_ble_eq_true rfl⟩ dX10_init_76 hF (fun M17 _ hF => ?_)
  refine gz_putR 78 hC fl_X10_37 fk_10_8 (Or.inr ⟨hX.2.2.2, _, rfl, rfl⟩) rfl rfl dX10_init_78 hF (fun M18 hF => ?_)
  refine gz_aload_n 81 hC 0 dX10_init_81 rfl rfl ?_
  refine gz_bipush 82 hC (8 : Int32) dX10_init_82 gz_b8 ?_
  refine gz_newaX 84 hC hX 18 674 0 (atype := .int) q_112 rfl (gz_hzI _) rfl (by decide) (by decide) (by decide) ⟨Nat.le_of_ble_eq_true rfl, Nat.le_of_ble_eq_true rfl⟩ dX10_init_84 hF (fun M19 _ hF => ?_)
  refine gz_putR 86 hC fl_X10_40 fk_10_10 (Or.inr ⟨hX.2.2.2, _, rfl, rfl⟩) rfl rfl dX10_init_86 hF (fun M20 hF => ?_)
  refine gz_aload_n 89 hC 0 dX10_init_89 rfl rfl ?_
  refine gz_iconst 90 hC (5 : Int32) dX10_init_90 gz_k5 ?_
  refine gz_bipush 91 hC (10 : Int32) dX10_init_91 gz_b10 ?_
  refine gz_mnew 93 hC hX 24 729 4 .int 5 10 q_1074 (by decide) q_277 q_112 (by decide) (by decide) (by decide) rfl rfl (by decide) (by decide) (by decide) ⟨Nat.le_of_ble_eq_true rfl, Nat.le_of_ble_eq_true rfl⟩ dX10_init_93 hF (fun M21 _ hF => ?_)
  refine gz_putR 97 hC fl_X10_45 fk_10_12 (Or.inr ⟨hX.2.2.2, _, rfl, rfl⟩) rfl rfl dX10_init_97 hF (fun M22 hF => ?_)
  refine gz_aload_n 100 hC 0 dX10_init_100 rfl rfl ?_
  refine gz_iconst 101 hC (5 : Int32) dX10_init_101 gz_k5 ?_
  refine gz_bipush 102 hC (60 : Int32) dX10_init_102 gz_b60 ?_
  refine gz_mnew 104 hC hX 30 1034 4 .int 5 60 q_1074 (by decide) q_277 q_112 (by decide) (by decide) (by decide) rfl rfl (by decide) (by decide) (by decide) ⟨Nat.le_of_ble_eq_true rfl, Nat.le_of_ble_eq_true rfl⟩ dX10_init_104 hF (fun M23 _ hF => ?_)
  refine gz_putR 108 hC fl_X10_48 fk_10_13 (Or.inr ⟨hX.2.2.2, _, rfl, rfl⟩) rfl rfl dX10_init_108 hF (fun M24 hF => ?_)
  refine gz_aload_n 111 hC 0 dX10_init_111 rfl rfl ?_
  refine gz_iconst 112 hC (5 : Int32) dX10_init_112 gz_k5 ?_
  refine gz_bipush 113 hC (40 : Int32) dX10_init_113 gz_b40 ?_
  refine gz_mnew 115 hC hX 36 1239 4 .int 5 40 q_1074 (by decide) q_277 q_112 (by decide) (by decide) (by decide) rfl rfl (by decide) (by decide) (by decide) ⟨Nat.le_of_ble_eq_true rfl, Nat.le_of_ble_eq_true rfl⟩ dX10_init_115 hF (fun M25 _ hF => ?_)
  refine gz_putR 119 hC fl_X10_51 fk_10_14 (Or.inr ⟨hX.2.2.2, _, rfl, rfl⟩) rfl rfl dX10_init_119 hF (fun M26 hF => ?_)
  refine gz_aload_n 122 hC 0 dX10_init_122 rfl rfl ?_
  refine gz_iconst 123 hC (-1 : Int32) dX10_init_123 gz_km1 ?_
  refine gz_putI 124 hC fl_X10_54 fk_10_15 dX10_init_124 hF (fun M27 hF => ?_)
  refine gz_aload_n 127 hC 0 dX10_init_127 rfl rfl ?_
  refine gz_iconst 128 hC (-1 : Int32) dX10_init_128 gz_km1 ?_
  refine gz_putI 129 hC fl_X10_58 fk_10_18 dX10_init_129 hF (fun M28 hF => ?_)
  refine gz_aload_n 132 hC 0 dX10_init_132 rfl rfl ?_
  refine gz_bipush 133 hC (12 : Int32) dX10_init_133 gz_b12 ?_
  refine gz_newaX 135 hC hX 37 1251 0 (atype := .int) q_112 rfl (gz_hzI _) rfl (by decide) (by decide) (by decide) ⟨Nat.le_of_ble_eq_true rfl, Nat.le_of_ble_eq_true rfl⟩ dX10_init_135 hF (fun M29 _ hF => ?_)
  refine gz_putR 137 hC fl_X10_61 fk_10_27 (Or.inr ⟨hX.2.2.2, _, rfl, rfl⟩) rfl rfl dX10_init_137 hF (fun M30 hF => ?_)
  refine gz_aload_n 140 hC 0 dX10_init_140 rfl rfl ?_
  refine gz_bipush 141 hC (12 : Int32) dX10_init_141 gz_b12 ?_
  refine gz_newaX 143 hC hX 38 1263 0 (atype := .int) q_112 rfl (gz_hzI _) rfl (by decide) (by decide) (by decide) ⟨Nat.le_of_ble_eq_true rfl, Nat.le_of_ble_eq_true rfl⟩ dX10_init_143 hF (fun M31 _ hF => ?_)
  refine gz_putR 145 hC fl_X10_64 fk_10_28 (Or.inr ⟨hX.2.2.2, _, rfl, rfl⟩) rfl rfl dX10_init_145 hF (fun M32 hF => ?_)
  refine gz_aload_n 148 hC 0 dX10_init_148 rfl rfl ?_
  refine gz_iconst 149 hC (3 : Int32) dX10_init_149 gz_k3 ?_
  refine gz_bipush 150 hC (12 : Int32) dX10_init_150 gz_b12 ?_
  refine gz_mnew 152 hC hX 42 1302 4 .int 3 12 q_1074 (by decide) q_277 q_112 (by decide) (by decide) (by decide) rfl rfl (by decide) (by decide) (by decide) ⟨Nat.le_of_ble_eq_true rfl, Nat.le_of_ble_eq_true rfl⟩ dX10_init_152 hF (fun M33 _ hF => ?_)
  refine gz_putR 156 hC fl_X10_67 fk_10_29 (Or.inr ⟨hX.2.2.2, _, rfl, rfl⟩) rfl rfl dX10_init_156 hF (fun M34 hF => ?_)
  exact gz_vretM 159 hC hX dX10_init_159 hF

theorem dX10_image_0 : decode cX10_image 0 = .ok (.aload_n 0, 1) := by decide +kernel
theorem dX10_image_1 : decode cX10_image 1 = .ok (.getfield 302, 3) := by decide +kernel
theorem dX10_image_4 : decode cX10_image 4 = .ok (.ifnonnull 14, 3) := by decide +kernel
theorem dX10_image_7 : decode cX10_image 7 = .ok (.aload_n 0, 1) := by decide +kernel
theorem dX10_image_8 : decode cX10_image 8 = .ok (.new 8, 3) := by decide +kernel
theorem dX10_image_11 : decode cX10_image 11 = .ok (.dup, 1) := by decide +kernel
theorem dX10_image_12 : decode cX10_image 12 = .ok (.invokespecial 306, 3) := by decide +kernel
theorem dX10_image_15 : decode cX10_image 15 = .ok (.putfield 302, 3) := by decide +kernel
theorem dX10_image_18 : decode cX10_image 18 = .ok (.aload_n 0, 1) := by decide +kernel
theorem dX10_image_19 : decode cX10_image 19 = .ok (.getfield 302, 3) := by decide +kernel
theorem dX10_image_22 : decode cX10_image 22 = .ok (.aload_n 0, 1) := by decide +kernel
theorem dX10_image_23 : decode cX10_image 23 = .ok (.invokevirtual 307, 3) := by decide +kernel
theorem dX10_image_26 : decode cX10_image 26 = .ok (.iconst 1, 1) := by decide +kernel
theorem dX10_image_27 : decode cX10_image 27 = .ok (.ireturn, 1) := by decide +kernel
def f_X10_image (fu : Nat) (M : gz_M) (a0 : Nat) : Option (Int32 × gz_M) :=
  gz_gd M 10 a0 <|
  gz_jn (fun (M5 : gz_M) =>
    (gz_gR M5 10 20 a0).bind fun x6 =>
    (f_X10_takeFrom fu M5 x6 a0).bind fun M7 =>
    some ((1 : Int32), M7)) fun j18 =>
  (gz_gQ M 10 20 a0).bind fun x => gz_nn x (j18 M) (
    gz_jn (gz_nw M 10) fun M1 =>
    (f_X10_init fu M1 M.1).bind fun M2 =>
    (gz_pR M2 10 20 a0 M.1).bind fun M3 =>
    j18 M3)
theorem ct_X10_image (l : Launch) (G : gz_G) (fu : Nat) (M : gz_M) (a0 : Nat) (y : Int32 × gz_M) (hF : f_X10_image fu M a0 = some y) : gz_ct l yX10_image cX10_image 1 (some .int) 2 44 43 1332 G [.ref a0] M (some (.int y.1)) y.2 := by
  refine gz_ct.of (by decide) (Nat.le_of_ble_eq_true rfl) (fun C hC hX => ?_)
  unfold f_X10_image at hF
  obtain ⟨-, hF⟩ := gz_gd_some hF
  show gz_go C 0 0 M [(0, .ref a0)] 0 []
  refine gz_join (fun (j : gz_M → Option (Int32 × gz_M)) => ∀ (M5 : gz_M), j M5 = some y → gz_go C 43 1332 M5 [(0, .ref a0)] 18 []) hF (fun M5 hF => ?_) (fun j18 hj18 hF => ?_)
  · refine gz_aload_n 18 hC 0 dX10_image_18 rfl rfl ?_
    refine gz_getR 19 hC fl_X10_302 fk_10_20 dX10_image_19 hF (fun x6 hF => ?_)
    refine gz_aload_n 22 hC 0 dX10_image_22 rfl rfl ?_
    refine gz_cvV (st := []) 23 hC hX [.ref a0] yl_X10_takeFrom yv_X10_takeFrom q_1538 ⟨Nat.le_of_ble_eq_true rfl, Nat.le_of_ble_eq_true rfl⟩ ⟨_, rfl⟩ (fun r h => ct_X10_takeFrom _ _ fu M5 x6 a0 r h) rfl rfl (Nat.le_of_ble_eq_true rfl) dX10_image_23 ⟨Nat.le_refl _, Nat.le_refl _⟩ hF (fun M7 hF => ?_)
    refine gz_iconst 26 hC (1 : Int32) dX10_image_26 gz_k1 ?_
    exact gz_iretM 27 hC hX dX10_image_27 hF
  · refine gz_aload_n 0 hC 0 dX10_image_0 rfl rfl ?_
    refine gz_getQ 1 18 hC fl_X10_302 fk_10_20 dX10_image_1 dX10_image_4 (by decide) hF (fun hF => ?_) (fun hF => ?_)
    · refine gz_wid (k := 43) (n := 1332) (Nat.zero_le _) (Nat.zero_le _) ?_
      exact hj18 _ hF
    · refine gz_aload_n 7 hC 0 dX10_image_7 rfl rfl ?_
      refine gz_new 8 hC hX 1 30 (ci := 10) rfl q_1536 q_1067 q_80 rfl rfl ⟨Nat.le_of_ble_eq_true rfl, Nat.le_of_ble_eq_true rfl⟩ dX10_image_8 hF (fun M1 _ hF => ?_)
      refine gz_dup 11 hC dX10_image_11 rfl ?_
      refine gz_ci (st := [.ref M.1, .ref a0]) 12 hC hX 43 1332 [] yl_X10_init yi_X10_init q_1537 ⟨Nat.le_of_ble_eq_true rfl, Nat.le_of_ble_eq_true rfl⟩ (fun r h => ct_X10_init _ _ fu M1 M.1 r h) rfl rfl (Nat.le_of_ble_eq_true rfl) dX10_image_12 rfl rfl ⟨Nat.le_of_ble_eq_true rfl, Nat.le_of_ble_eq_true rfl⟩ hF (fun M2 hF => ?_)
      refine gz_putR 15 hC fl_X10_302 fk_10_20 (Or.inl rfl) rfl rfl dX10_image_15 hF (fun M3 hF => ?_)
      exact hj18 _ hF
