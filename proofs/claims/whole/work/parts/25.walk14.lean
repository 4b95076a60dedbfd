theorem dX10_search_0 : decode cX10_search 0 = .ok (.iload_n 1, 1) := by decide +kernel
theorem dX10_search_1 : decode cX10_search 1 = .ok (.i2l, 1) := by decide +kernel
theorem dX10_search_2 : decode cX10_search 2 = .ok (.lconst 0, 1) := by decide +kernel
theorem dX10_search_3 : decode cX10_search 3 = .ok (.ldc2_w 93, 3) := by decide +kernel
theorem dX10_search_6 : decode cX10_search 6 = .ok (.invokestatic 73, 3) := by decide +kernel
theorem dX10_search_9 : decode cX10_search 9 = .ok (.ifCond .ne 10, 3) := by decide +kernel
theorem dX10_search_12 : decode cX10_search 12 = .ok (.aload_n 0, 1) := by decide +kernel
theorem dX10_search_13 : decode cX10_search 13 = .ok (.bipush (-2), 2) := by decide +kernel
theorem dX10_search_15 : decode cX10_search 15 = .ok (.invokevirtual 97, 3) := by decide +kernel
theorem dX10_search_18 : decode cX10_search 18 = .ok (.ireturn, 1) := by decide +kernel
theorem dX10_search_19 : decode cX10_search 19 = .ok (.aload_n 0, 1) := by decide +kernel
theorem dX10_search_20 : decode cX10_search 20 = .ok (.getfield 54, 3) := by decide +kernel
theorem dX10_search_23 : decode cX10_search 23 = .ok (.iconst (-1), 1) := by decide +kernel
theorem dX10_search_24 : decode cX10_search 24 = .ok (.if_icmp .ne 10, 3) := by decide +kernel
theorem dX10_search_27 : decode cX10_search 27 = .ok (.aload_n 0, 1) := by decide +kernel
theorem dX10_search_28 : decode cX10_search 28 = .ok (.bipush (-5), 2) := by decide +kernel
theorem dX10_search_30 : decode cX10_search 30 = .ok (.invokevirtual 97, 3) := by decide +kernel
theorem dX10_search_33 : decode cX10_search 33 = .ok (.ireturn, 1) := by decide +kernel
theorem dX10_search_34 : decode cX10_search 34 = .ok (.iload_n 1, 1) := by decide +kernel
theorem dX10_search_35 : decode cX10_search 35 = .ok (.tableswitch 49 0 3 #[29, 34, 39, 44], 29) := by decide +kernel
theorem dX10_search_64 : decode cX10_search 64 = .ok (.aload_n 0, 1) := by decide +kernel
theorem dX10_search_65 : decode cX10_search 65 = .ok (.getfield 54, 3) := by decide +kernel
theorem dX10_search_68 : decode cX10_search 68 = .ok (.ireturn, 1) := by decide +kernel
theorem dX10_search_69 : decode cX10_search 69 = .ok (.aload_n 0, 1) := by decide +kernel
theorem dX10_search_70 : decode cX10_search 70 = .ok (.getfield 288, 3) := by decide +kernel
theorem dX10_search_73 : decode cX10_search 73 = .ok (.ireturn, 1) := by decide +kernel
theorem dX10_search_74 : decode cX10_search 74 = .ok (.aload_n 0, 1) := by decide +kernel
theorem dX10_search_75 : decode cX10_search 75 = .ok (.getfield 291, 3) := by decide +kernel
theorem dX10_search_78 : decode cX10_search 78 = .ok (.ireturn, 1) := by decide +kernel
theorem dX10_search_79 : decode cX10_search 79 = .ok (.aload_n 0, 1) := by decide +kernel
theorem dX10_search_80 : decode cX10_search 80 = .ok (.getfield 58, 3) := by decide +kernel
theorem dX10_search_83 : decode cX10_search 83 = .ok (.ireturn, 1) := by decide +kernel
theorem dX10_search_84 : decode cX10_search 84 = .ok (.aload_n 0, 1) := by decide +kernel
theorem dX10_search_85 : decode cX10_search 85 = .ok (.invokevirtual 299, 3) := by decide +kernel
theorem dX10_search_88 : decode cX10_search 88 = .ok (.ifCond .eq 7, 3) := by decide +kernel
theorem dX10_search_91 : decode cX10_search 91 = .ok (.iconst 1, 1) := by decide +kernel
theorem dX10_search_92 : decode cX10_search 92 = .ok (.goto 4, 3) := by decide +kernel
theorem dX10_search_95 : decode cX10_search 95 = .ok (.iconst 0, 1) := by decide +kernel
theorem dX10_search_96 : decode cX10_search 96 = .ok (.ireturn, 1) := by decide +kernel

def f_X10_search (fu : Nat) (M : gz_M) (a0 : Nat) (a1 : Int32) : Option (Int32 × gz_M) :=
  gz_gd M 10 a0 <|
  (f_X10_in fu M (a1).toInt64 (0 : Int64) (4 : Int64)).bind fun x1 =>
  if x1 = 0 then
    gz_b2 (f_X10_refuse fu M a0 (-2 : Int32)) fun x2 M3 =>
    some (x2, M3)
  else
    (gz_gI M 10 15 a0).bind fun x4 =>
    if x4 = (-1 : Int32) then
      gz_b2 (f_X10_refuse fu M a0 (-5 : Int32)) fun x5 M6 =>
      some (x5, M6)
    else
      if a1 = (0 : Int32) then (gz_gI M 10 15 a0).bind fun x12 =>
        some (x12, M) else if a1 = (1 : Int32) then (gz_gI M 10 16 a0).bind fun x11 =>
        some (x11, M) else if a1 = (2 : Int32) then (gz_gI M 10 17 a0).bind fun x10 =>
        some (x10, M) else if a1 = (3 : Int32) then (gz_gI M 10 18 a0).bind fun x9 =>
        some (x9, M) else (f_X10_isDone fu M a0).bind fun x7 =>
      gz_jn (fun (x8 : Int32) =>
      some (x8, M)) fun j96 =>
      if x7 = 0 then
        j96 (0 : Int32)
      else
        j96 (1 : Int32)

set_option maxHeartbeats 4000000 in
theorem ct_X10_search (l : Launch) (G : gz_G) (fu : Nat) (M : gz_M) (a0 : Nat) (a1 : Int32) (y : Int32 × gz_M) (hF : f_X10_search fu M a0 a1 = some y) : gz_ct l yX10_search cX10_search 2 (some .int) 3 62 0 0 G [.ref a0, .int a1] M (some (.int y.1)) y.2 := by
  refine gz_ct.of (by decide) (Nat.le_of_ble_eq_true rfl) (fun C hC hX => ?_)
  unfold f_X10_search at hF
  obtain ⟨-, hF⟩ := gz_gd_some hF
  show gz_go C 0 0 M [(0, .ref a0), (1, .int a1)] 0 []
  refine gz_iload_n 0 hC 1 dX10_search_0 rfl rfl ?_
  refine gz_i2l 1 hC dX10_search_1 ?_
  refine gz_lconst 2 hC (0 : Int64) dX10_search_2 gz_l0 ?_
  refine gz_ldc2 3 hC dX10_search_3 q_1173 ?_
  refine gz_csP (st := []) 6 hC hX [.long (a1).toInt64, .long (0 : Int64), .long (4 : Int64)] Value.int yl_X10_in yv_X10_in q_1170 ⟨Nat.le_of_ble_eq_true rfl, Nat.le_of_ble_eq_true rfl⟩ (fun r h => ct_X10_in _ _ fu M (a1).toInt64 (0 : Int64) (4 : Int64) r h) rfl rfl (Nat.le_of_ble_eq_true rfl) dX10_search_6 gz_00 hF (fun x1 hF => ?_)
  refine gz_if_ne 9 19 hC dX10_search_9 (by decide) hF (fun hF => ?_) (fun hF => ?_)
  · skip
    refine gz_aload_n 19 hC 0 dX10_search_19 rfl rfl ?_
    refine gz_getI 20 hC fl_X10_54 fk_10_15 dX10_search_20 hF (fun x4 hF => ?_)
    refine gz_iconst 23 hC (-1 : Int32) dX10_search_23 gz_km1 ?_
    refine gz_icmp_ne 24 34 hC dX10_search_24 (by decide) hF (fun hF => ?_) (fun hF => ?_)
    · skip
      refine gz_iload_n 34 hC 1 dX10_search_34 rfl rfl ?_
      refine gz_cse hF (fun e0 hF => ?_) (fun e0 hF => ?_)
      · skip
        refine gz_tin 35 64 hC (off := 29) dX10_search_35 e0 (by decide) (by decide) (by decide) ?_
        refine gz_aload_n 64 hC 0 dX10_search_64 rfl rfl ?_
        refine gz_getI 65 hC fl_X10_54 fk_10_15 dX10_search_65 hF (fun x12 hF => ?_)
        exact gz_iretM 68 hC hX dX10_search_68 hF
      refine gz_cse hF (fun e1 hF => ?_) (fun e1 hF => ?_)
      · skip
        refine gz_tin 35 69 hC (off := 34) dX10_search_35 e1 (by decide) (by decide) (by decide) ?_
        refine gz_aload_n 69 hC 0 dX10_search_69 rfl rfl ?_
        refine gz_getI 70 hC fl_X10_288 fk_10_16 dX10_search_70 hF (fun x11 hF => ?_)
        exact gz_iretM 73 hC hX dX10_search_73 hF
      refine gz_cse hF (fun e2 hF => ?_) (fun e2 hF => ?_)
      · skip
        refine gz_tin 35 74 hC (off := 39) dX10_search_35 e2 (by decide) (by decide) (by decide) ?_
        refine gz_aload_n 74 hC 0 dX10_search_74 rfl rfl ?_
        refine gz_getI 75 hC fl_X10_291 fk_10_17 dX10_search_75 hF (fun x10 hF => ?_)
        exact gz_iretM 78 hC hX dX10_search_78 hF
      refine gz_cse hF (fun e3 hF => ?_) (fun e3 hF => ?_)
      · skip
        refine gz_tin 35 79 hC (off := 44) dX10_search_35 e3 (by decide) (by decide) (by decide) ?_
        refine gz_aload_n 79 hC 0 dX10_search_79 rfl rfl ?_
        refine gz_getI 80 hC fl_X10_58 fk_10_18 dX10_search_80 hF (fun x9 hF => ?_)
        exact gz_iretM 83 hC hX dX10_search_83 hF
      refine gz_tout 35 84 hC dX10_search_35 (by have h0 := lv_neT (a := 0) e0 (by decide); have h1 := lv_neT (a := 1) e1 (by decide); have h2 := lv_neT (a := 2) e2 (by decide); have h3 := lv_neT (a := 3) e3 (by decide); omega) (by decide) ?_
      refine gz_aload_n 84 hC 0 dX10_search_84 rfl rfl ?_
      refine gz_cvP (st := []) 85 hC hX [] Value.int yl_X10_isDone yv_X10_isDone q_1524 ⟨Nat.le_of_ble_eq_true rfl, Nat.le_of_ble_eq_true rfl⟩ ⟨_, rfl⟩ (fun r h => ct_X10_isDone _ _ fu M a0 r h) rfl rfl (Nat.le_of_ble_eq_true rfl) dX10_search_85 gz_00 hF (fun x7 hF => ?_)
      refine gz_join (fun (j : Int32 → Option (Int32 × gz_M)) => ∀ (x8 : Int32), j x8 = some y → gz_go C 0 0 M [] 96 [.int x8]) hF (fun x8 hF => ?_) (fun j96 hj96 hF => ?_)
      · skip
        exact gz_iretM 96 hC hX dX10_search_96 hF
      refine gz_if_eq 88 95 hC dX10_search_88 (by decide) hF (fun hF => ?_) (fun hF => ?_)
      · skip
        refine gz_iconst 95 hC (0 : Int32) dX10_search_95 gz_k0 ?_
        refine gz_sub [] [] rfl ?_
        exact hj96 _ hF
      · skip
        refine gz_iconst 91 hC (1 : Int32) dX10_search_91 gz_k1 ?_
        refine gz_goto 92 96 hC dX10_search_92 (by decide) ?_
        refine gz_sub [] [] rfl ?_
        exact hj96 _ hF
    · skip
      refine gz_aload_n 27 hC 0 dX10_search_27 rfl rfl ?_
      refine gz_bipush 28 hC (-5 : Int32) dX10_search_28 gz_bm5 ?_
      refine gz_cvM (st := []) 30 hC hX [.int (-5 : Int32)] Value.int yl_X10_refuse yv_X10_refuse q_1175 ⟨Nat.le_of_ble_eq_true rfl, Nat.le_of_ble_eq_true rfl⟩ ⟨_, rfl⟩ (fun r h => ct_X10_refuse _ _ fu M a0 (-5 : Int32) r h) rfl rfl (Nat.le_of_ble_eq_true rfl) dX10_search_30 gz_00 hF (fun x5 M6 hF => ?_)
      exact gz_iretM 33 hC hX dX10_search_33 hF
  · skip
    refine gz_aload_n 12 hC 0 dX10_search_12 rfl rfl ?_
    refine gz_bipush 13 hC (-2 : Int32) dX10_search_13 gz_bm2 ?_
    refine gz_cvM (st := []) 15 hC hX [.int (-2 : Int32)] Value.int yl_X10_refuse yv_X10_refuse q_1175 ⟨Nat.le_of_ble_eq_true rfl, Nat.le_of_ble_eq_true rfl⟩ ⟨_, rfl⟩ (fun r h => ct_X10_refuse _ _ fu M a0 (-2 : Int32) r h) rfl rfl (Nat.le_of_ble_eq_true rfl) dX10_search_15 gz_00 hF (fun x2 M3 hF => ?_)
    exact gz_iretM 18 hC hX dX10_search_18 hF

theorem dX10_takeFrom_0 : decode cX10_takeFrom 0 = .ok (.aload_n 0, 1) := by decide +kernel
theorem dX10_takeFrom_1 : decode cX10_takeFrom 1 = .ok (.aload_n 1, 1) := by decide +kernel
theorem dX10_takeFrom_2 : decode cX10_takeFrom 2 = .ok (.getfield 70, 3) := by decide +kernel
theorem dX10_takeFrom_5 : decode cX10_takeFrom 5 = .ok (.putfield 70, 3) := by decide +kernel
theorem dX10_takeFrom_8 : decode cX10_takeFrom 8 = .ok (.iconst 0, 1) := by decide +kernel
theorem dX10_takeFrom_9 : decode cX10_takeFrom 9 = .ok (.istore_n 2, 1) := by decide +kernel
theorem dX10_takeFrom_10 : decode cX10_takeFrom 10 = .ok (.iload_n 2, 1) := by decide +kernel
theorem dX10_takeFrom_11 : decode cX10_takeFrom 11 = .ok (.iconst 5, 1) := by decide +kernel
theorem dX10_takeFrom_12 : decode cX10_takeFrom 12 = .ok (.if_icmp .ge 54, 3) := by decide +kernel
theorem dX10_takeFrom_15 : decode cX10_takeFrom 15 = .ok (.aload_n 1, 1) := by decide +kernel
theorem dX10_takeFrom_16 : decode cX10_takeFrom 16 = .ok (.getfield 45, 3) := by decide +kernel
theorem dX10_takeFrom_19 : decode cX10_takeFrom 19 = .ok (.iload_n 2, 1) := by decide +kernel
theorem dX10_takeFrom_20 : decode cX10_takeFrom 20 = .ok (.aaload, 1) := by decide +kernel
theorem dX10_takeFrom_21 : decode cX10_takeFrom 21 = .ok (.aload_n 0, 1) := by decide +kernel
theorem dX10_takeFrom_22 : decode cX10_takeFrom 22 = .ok (.getfield 45, 3) := by decide +kernel
theorem dX10_takeFrom_25 : decode cX10_takeFrom 25 = .ok (.iload_n 2, 1) := by decide +kernel
theorem dX10_takeFrom_26 : decode cX10_takeFrom 26 = .ok (.aaload, 1) := by decide +kernel
theorem dX10_takeFrom_27 : decode cX10_takeFrom 27 = .ok (.invokestatic 285, 3) := by decide +kernel
theorem dX10_takeFrom_30 : decode cX10_takeFrom 30 = .ok (.aload_n 1, 1) := by decide +kernel
theorem dX10_takeFrom_31 : decode cX10_takeFrom 31 = .ok (.getfield 48, 3) := by decide +kernel
theorem dX10_takeFrom_34 : decode cX10_takeFrom 34 = .ok (.iload_n 2, 1) := by decide +kernel
theorem dX10_takeFrom_35 : decode cX10_takeFrom 35 = .ok (.aaload, 1) := by decide +kernel
theorem dX10_takeFrom_36 : decode cX10_takeFrom 36 = .ok (.aload_n 0, 1) := by decide +kernel
theorem dX10_takeFrom_37 : decode cX10_takeFrom 37 = .ok (.getfield 48, 3) := by decide +kernel
theorem dX10_takeFrom_40 : decode cX10_takeFrom 40 = .ok (.iload_n 2, 1) := by decide +kernel
theorem dX10_takeFrom_41 : decode cX10_takeFrom 41 = .ok (.aaload, 1) := by decide +kernel
theorem dX10_takeFrom_42 : decode cX10_takeFrom 42 = .ok (.invokestatic 285, 3) := by decide +kernel
theorem dX10_takeFrom_45 : decode cX10_takeFrom 45 = .ok (.aload_n 1, 1) := by decide +kernel
theorem dX10_takeFrom_46 : decode cX10_takeFrom 46 = .ok (.getfield 51, 3) := by decide +kernel
theorem dX10_takeFrom_49 : decode cX10_takeFrom 49 = .ok (.iload_n 2, 1) := by decide +kernel
theorem dX10_takeFrom_50 : decode cX10_takeFrom 50 = .ok (.aaload, 1) := by decide +kernel
theorem dX10_takeFrom_51 : decode cX10_takeFrom 51 = .ok (.aload_n 0, 1) := by decide +kernel
theorem dX10_takeFrom_52 : decode cX10_takeFrom 52 = .ok (.getfield 51, 3) := by decide +kernel
theorem dX10_takeFrom_55 : decode cX10_takeFrom 55 = .ok (.iload_n 2, 1) := by decide +kernel
theorem dX10_takeFrom_56 : decode cX10_takeFrom 56 = .ok (.aaload, 1) := by decide +kernel
theorem dX10_takeFrom_57 : decode cX10_takeFrom 57 = .ok (.invokestatic 285, 3) := by decide +kernel
theorem dX10_takeFrom_60 : decode cX10_takeFrom 60 = .ok (.iinc 2 1, 3) := by decide +kernel
theorem dX10_takeFrom_63 : decode cX10_takeFrom 63 = .ok (.goto (-53), 3) := by decide +kernel
theorem dX10_takeFrom_66 : decode cX10_takeFrom 66 = .ok (.aload_n 0, 1) := by decide +kernel
theorem dX10_takeFrom_67 : decode cX10_takeFrom 67 = .ok (.aload_n 1, 1) := by decide +kernel
theorem dX10_takeFrom_68 : decode cX10_takeFrom 68 = .ok (.getfield 54, 3) := by decide +kernel
theorem dX10_takeFrom_71 : decode cX10_takeFrom 71 = .ok (.putfield 54, 3) := by decide +kernel
theorem dX10_takeFrom_74 : decode cX10_takeFrom 74 = .ok (.aload_n 0, 1) := by decide +kernel
theorem dX10_takeFrom_75 : decode cX10_takeFrom 75 = .ok (.aload_n 1, 1) := by decide +kernel
theorem dX10_takeFrom_76 : decode cX10_takeFrom 76 = .ok (.getfield 288, 3) := by decide +kernel
theorem dX10_takeFrom_79 : decode cX10_takeFrom 79 = .ok (.putfield 288, 3) := by decide +kernel
theorem dX10_takeFrom_82 : decode cX10_takeFrom 82 = .ok (.aload_n 0, 1) := by decide +kernel
theorem dX10_takeFrom_83 : decode cX10_takeFrom 83 = .ok (.aload_n 1, 1) := by decide +kernel
theorem dX10_takeFrom_84 : decode cX10_takeFrom 84 = .ok (.getfield 291, 3) := by decide +kernel
theorem dX10_takeFrom_87 : decode cX10_takeFrom 87 = .ok (.putfield 291, 3) := by decide +kernel
theorem dX10_takeFrom_90 : decode cX10_takeFrom 90 = .ok (.aload_n 0, 1) := by decide +kernel
theorem dX10_takeFrom_91 : decode cX10_takeFrom 91 = .ok (.aload_n 1, 1) := by decide +kernel
theorem dX10_takeFrom_92 : decode cX10_takeFrom 92 = .ok (.getfield 58, 3) := by decide +kernel
theorem dX10_takeFrom_95 : decode cX10_takeFrom 95 = .ok (.putfield 58, 3) := by decide +kernel
theorem dX10_takeFrom_98 : decode cX10_takeFrom 98 = .ok (.aload_n 0, 1) := by decide +kernel
theorem dX10_takeFrom_99 : decode cX10_takeFrom 99 = .ok (.aload_n 1, 1) := by decide +kernel
theorem dX10_takeFrom_100 : decode cX10_takeFrom 100 = .ok (.getfield 294, 3) := by decide +kernel
theorem dX10_takeFrom_103 : decode cX10_takeFrom 103 = .ok (.putfield 294, 3) := by decide +kernel
theorem dX10_takeFrom_106 : decode cX10_takeFrom 106 = .ok (.return_, 1) := by decide +kernel
def lp_X10_takeFrom_10 (j66 : gz_M → Option (gz_M)) (fu : Nat) (a0 : Nat) (a1 : Nat) : Nat → Int32 → gz_M → Option (gz_M)
  | 0, _, _ => none
  | n10 + 1, x3, M4 =>
    if (5 : Int32) ≤ x3 then
      j66 M4
    else
      (gz_gR M4 10 12 a1).bind fun x5 =>
      (gz_aR M4 x5 x3).bind fun x6 =>
      (gz_gR M4 10 12 a0).bind fun x7 =>
      (gz_aR M4 x7 x3).bind fun x8 =>
      (f_X10_over fu M4 x6 x8).bind fun M9 =>
      (gz_gR M9 10 13 a1).bind fun x10 =>
      (gz_aR M9 x10 x3).bind fun x11 =>
      (gz_gR M9 10 13 a0).bind fun x12 =>
      (gz_aR M9 x12 x3).bind fun x13 =>
      (f_X10_over fu M9 x11 x13).bind fun M14 =>
      (gz_gR M14 10 14 a1).bind fun x15 =>
      (gz_aR M14 x15 x3).bind fun x16 =>
      (gz_gR M14 10 14 a0).bind fun x17 =>
      (gz_aR M14 x17 x3).bind fun x18 =>
      (f_X10_over fu M14 x16 x18).bind fun M19 =>
      lp_X10_takeFrom_10 j66 fu a0 a1 n10 (x3 + (1 : Int32)) M19
def f_X10_takeFrom (fu : Nat) (M : gz_M) (a0 : Nat) (a1 : Nat) : Option (gz_M) :=
  gz_gd M 10 a0 <|
  (gz_gI M 10 11 a1).bind fun x1 =>
  (gz_pI M 10 11 a0 x1).bind fun M2 =>
  lp_X10_takeFrom_10 (fun (M20 : gz_M) => (gz_gI M20 10 15 a1).bind fun x21 =>
    (gz_pI M20 10 15 a0 x21).bind fun M22 =>
    (gz_gI M22 10 16 a1).bind fun x23 =>
    (gz_pI M22 10 16 a0 x23).bind fun M24 =>
    (gz_gI M24 10 17 a1).bind fun x25 =>
    (gz_pI M24 10 17 a0 x25).bind fun M26 =>
    (gz_gI M26 10 18 a1).bind fun x27 =>
    (gz_pI M26 10 18 a0 x27).bind fun M28 =>
    (gz_gI M28 10 19 a1).bind fun x29 =>
    (gz_pI M28 10 19 a0 x29).bind fun M30 =>
    some M30) fu a0 a1 fu (0 : Int32) M2
set_option maxHeartbeats 4000000 in
theorem w_X10_takeFrom_10 {C : gz_C} {y : gz_M} {fu : Nat} {a0 : Nat} {a1 : Nat} {j66 : gz_M → Option (gz_M)} (hC : gz_ok C cX10_takeFrom RX10 3) (hX : gz_cx C 1 22 0 0 none none y "takeFrom") (hj66 : ∀ (M20 : gz_M), j66 M20 = some y → gz_go C 0 0 M20 [(0, .ref a0), (1, .ref a1)] 66 []) : ∀ (n : Nat) (x3 : Int32) (M4 : gz_M), lp_X10_takeFrom_10 j66 fu a0 a1 n x3 M4 = some y → gz_go C 0 0 M4 [(0, .ref a0), (1, .ref a1), (2, .int x3)] 10 [] := by
  intro n
  induction n with
  | zero => intro x3 M4 hF; exact nomatch (show (none : Option (gz_M)) = some y from hF)
  | succ n10 ih10 =>
    intro x3 M4 hF
    rw [lp_X10_takeFrom_10.eq_2] at hF
    refine gz_iload_n 10 hC 2 dX10_takeFrom_10 rfl rfl ?_
    refine gz_iconst 11 hC (5 : Int32) dX10_takeFrom_11 gz_k5 ?_
    refine gz_icmp_ge 12 66 hC dX10_takeFrom_12 (by decide) hF (fun hF => ?_) (fun hF => ?_)
    · skip
      refine gz_sub [0, 1] [(0, .ref a0), (1, .ref a1)] rfl ?_
      exact hj66 _ hF
    · skip
      refine gz_aload_n 15 hC 1 dX10_takeFrom_15 rfl rfl ?_
      refine gz_getR 16 hC fl_X10_45 fk_10_12 dX10_takeFrom_16 hF (fun x5 hF => ?_)
      refine gz_iload_n 19 hC 2 dX10_takeFrom_19 rfl rfl ?_
      refine gz_aald 20 hC dX10_takeFrom_20 hF (fun x6 hF => ?_)
      refine gz_aload_n 21 hC 0 dX10_takeFrom_21 rfl rfl ?_
      refine gz_getR 22 hC fl_X10_45 fk_10_12 dX10_takeFrom_22 hF (fun x7 hF => ?_)
      refine gz_iload_n 25 hC 2 dX10_takeFrom_25 rfl rfl ?_
      refine gz_aald 26 hC dX10_takeFrom_26 hF (fun x8 hF => ?_)
      refine gz_csV (st := []) 27 hC hX [.ref x6, .ref x8] yl_X10_over yv_X10_over q_1516 ⟨Nat.le_of_ble_eq_true rfl, Nat.le_of_ble_eq_true rfl⟩ (fun r h => ct_X10_over _ _ fu M4 x6 x8 r h) rfl rfl (Nat.le_of_ble_eq_true rfl) dX10_takeFrom_27 gz_00 hF (fun M9 hF => ?_)
      refine gz_aload_n 30 hC 1 dX10_takeFrom_30 rfl rfl ?_
      refine gz_getR 31 hC fl_X10_48 fk_10_13 dX10_takeFrom_31 hF (fun x10 hF => ?_)
      refine gz_iload_n 34 hC 2 dX10_takeFrom_34 rfl rfl ?_
      refine gz_aald 35 hC dX10_takeFrom_35 hF (fun x11 hF => ?_)
      refine gz_aload_n 36 hC 0 dX10_takeFrom_36 rfl rfl ?_
      refine gz_getR 37 hC fl_X10_48 fk_10_13 dX10_takeFrom_37 hF (fun x12 hF => ?_)
      refine gz_iload_n 40 hC 2 dX10_takeFrom_40 rfl rfl ?_
      refine gz_aald 41 hC dX10_takeFrom_41 hF (fun x13 hF => ?_)
      refine gz_csV (st := []) 42 hC hX [.ref x11, .ref x13] yl_X10_over yv_X10_over q_1516 ⟨Nat.le_of_ble_eq_true rfl, Nat.le_of_ble_eq_true rfl⟩ (fun r h => ct_X10_over _ _ fu M9 x11 x13 r h) rfl rfl (Nat.le_of_ble_eq_true rfl) dX10_takeFrom_42 gz_00 hF (fun M14 hF => ?_)
      refine gz_aload_n 45 hC 1 dX10_takeFrom_45 rfl rfl ?_
      refine gz_getR 46 hC fl_X10_51 fk_10_14 dX10_takeFrom_46 hF (fun x15 hF => ?_)
      refine gz_iload_n 49 hC 2 dX10_takeFrom_49 rfl rfl ?_
      refine gz_aald 50 hC dX10_takeFrom_50 hF (fun x16 hF => ?_)
      refine gz_aload_n 51 hC 0 dX10_takeFrom_51 rfl rfl ?_
      refine gz_getR 52 hC fl_X10_51 fk_10_14 dX10_takeFrom_52 hF (fun x17 hF => ?_)
      refine gz_iload_n 55 hC 2 dX10_takeFrom_55 rfl rfl ?_
      refine gz_aald 56 hC dX10_takeFrom_56 hF (fun x18 hF => ?_)
      refine gz_csV (st := []) 57 hC hX [.ref x16, .ref x18] yl_X10_over yv_X10_over q_1516 ⟨Nat.le_of_ble_eq_true rfl, Nat.le_of_ble_eq_true rfl⟩ (fun r h => ct_X10_over _ _ fu M14 x16 x18 r h) rfl rfl (Nat.le_of_ble_eq_true rfl) dX10_takeFrom_57 gz_00 hF (fun M19 hF => ?_)
      refine gz_iinc 60 hC (x3 + (1 : Int32)) 2 [(2, .int (x3 + (1 : Int32))), (0, .ref a0), (1, .ref a1)] dX10_takeFrom_60 rfl rfl (by decide) rfl ?_
      refine gz_goto 63 10 hC dX10_takeFrom_63 (by decide) ?_
      refine gz_sub [1, 2, 0] [(0, .ref a0), (1, .ref a1), (2, .int (x3 + (1 : Int32)))] rfl ?_
      exact ih10 _ _ hF
set_option maxHeartbeats 4000000 in
theorem ct_X10_takeFrom (l : Launch) (G : gz_G) (fu : Nat) (M : gz_M) (a0 : Nat) (a1 : Nat) (y : gz_M) (hF : f_X10_takeFrom fu M a0 a1 = some y) : gz_ct l yX10_takeFrom cX10_takeFrom 3 none 1 22 0 0 G [.ref a0, .ref a1] M none y := by
  refine gz_ct.of (by decide) (Nat.le_of_ble_eq_true rfl) (fun C hC hX => ?_)
  unfold f_X10_takeFrom at hF
  obtain ⟨-, hF⟩ := gz_gd_some hF
  show gz_go C 0 0 M [(0, .ref a0), (1, .ref a1)] 0 []
  refine gz_aload_n 0 hC 0 dX10_takeFrom_0 rfl rfl ?_
  refine gz_aload_n 1 hC 1 dX10_takeFrom_1 rfl rfl ?_
  refine gz_getI 2 hC fl_X10_70 fk_10_11 dX10_takeFrom_2 hF (fun x1 hF => ?_)
  refine gz_putI 5 hC fl_X10_70 fk_10_11 dX10_takeFrom_5 hF (fun M2 hF => ?_)
  refine gz_iconst 8 hC (0 : Int32) dX10_takeFrom_8 gz_k0 ?_
  refine gz_istore_n 9 hC [(2, .int (0 : Int32)), (0, .ref a0), (1, .ref a1)] dX10_takeFrom_9 rfl (by decide) rfl ?_
  refine gz_sub [1, 2, 0] [(0, .ref a0), (1, .ref a1), (2, .int (0 : Int32))] rfl ?_
  refine w_X10_takeFrom_10 hC hX ?_ _ _ _ hF
  intro M20 hF
  refine gz_aload_n 66 hC 0 dX10_takeFrom_66 rfl rfl ?_
  refine gz_aload_n 67 hC 1 dX10_takeFrom_67 rfl rfl ?_
  refine gz_getI 68 hC fl_X10_54 fk_10_15 dX10_takeFrom_68 hF (fun x21 hF => ?_)
  refine gz_putI 71 hC fl_X10_54 fk_10_15 dX10_takeFrom_71 hF (fun M22 hF => ?_)
  refine gz_aload_n 74 hC 0 dX10_takeFrom_74 rfl rfl ?_
  refine gz_aload_n 75 hC 1 dX10_takeFrom_75 rfl rfl ?_
  refine gz_getI 76 hC fl_X10_288 fk_10_16 dX10_takeFrom_76 hF (fun x23 hF => ?_)
  refine gz_putI 79 hC fl_X10_288 fk_10_16 dX10_takeFrom_79 hF (fun M24 hF => ?_)
  refine gz_aload_n 82 hC 0 dX10_takeFrom_82 rfl rfl ?_
  refine gz_aload_n 83 hC 1 dX10_takeFrom_83 rfl rfl ?_
  refine gz_getI 84 hC fl_X10_291 fk_10_17 dX10_takeFrom_84 hF (fun x25 hF => ?_)
  refine gz_putI 87 hC fl_X10_291 fk_10_17 dX10_takeFrom_87 hF (fun M26 hF => ?_)
  refine gz_aload_n 90 hC 0 dX10_takeFrom_90 rfl rfl ?_
  refine gz_aload_n 91 hC 1 dX10_takeFrom_91 rfl rfl ?_
  refine gz_getI 92 hC fl_X10_58 fk_10_18 dX10_takeFrom_92 hF (fun x27 hF => ?_)
  refine gz_putI 95 hC fl_X10_58 fk_10_18 dX10_takeFrom_95 hF (fun M28 hF => ?_)
  refine gz_aload_n 98 hC 0 dX10_takeFrom_98 rfl rfl ?_
  refine gz_aload_n 99 hC 1 dX10_takeFrom_99 rfl rfl ?_
  refine gz_getI 100 hC fl_X10_294 fk_10_19 dX10_takeFrom_100 hF (fun x29 hF => ?_)
  refine gz_putI 103 hC fl_X10_294 fk_10_19 dX10_takeFrom_103 hF (fun M30 hF => ?_)
  exact gz_vretM 106 hC hX dX10_takeFrom_106 hF

theorem dX10_back_0 : decode cX10_back 0 = .ok (.aload_n 0, 1) := by decide +kernel
theorem dX10_back_1 : decode cX10_back 1 = .ok (.getfield 302, 3) := by decide +kernel
theorem dX10_back_4 : decode cX10_back 4 = .ok (.ifnonnull 10, 3) := by decide +kernel
theorem dX10_back_7 : decode cX10_back 7 = .ok (.aload_n 0, 1) := by decide +kernel
theorem dX10_back_8 : decode cX10_back 8 = .ok (.bipush (-5), 2) := by decide +kernel
theorem dX10_back_10 : decode cX10_back 10 = .ok (.invokevirtual 97, 3) := by decide +kernel
theorem dX10_back_13 : decode cX10_back 13 = .ok (.ireturn, 1) := by decide +kernel
theorem dX10_back_14 : decode cX10_back 14 = .ok (.aload_n 0, 1) := by decide +kernel
theorem dX10_back_15 : decode cX10_back 15 = .ok (.aload_n 0, 1) := by decide +kernel
theorem dX10_back_16 : decode cX10_back 16 = .ok (.getfield 302, 3) := by decide +kernel
theorem dX10_back_19 : decode cX10_back 19 = .ok (.invokevirtual 307, 3) := by decide +kernel
theorem dX10_back_22 : decode cX10_back 22 = .ok (.iconst 1, 1) := by decide +kernel
theorem dX10_back_23 : decode cX10_back 23 = .ok (.ireturn, 1) := by decide +kernel

def f_X10_back (fu : Nat) (M : gz_M) (a0 : Nat) : Option (Int32 × gz_M) :=
  gz_gd M 10 a0 <|
  (gz_gQ M 10 20 a0).bind fun x => gz_nn x ((gz_gR M 10 20 a0).bind fun x3 =>
    (f_X10_takeFrom fu M a0 x3).bind fun M4 =>
    some ((1 : Int32), M4)) (gz_b2 (f_X10_refuse fu M a0 (-5 : Int32)) fun x1 M2 =>
    some (x1, M2))

set_option maxHeartbeats 4000000 in
theorem ct_X10_back (l : Launch) (G : gz_G) (fu : Nat) (M : gz_M) (a0 : Nat) (y : Int32 × gz_M) (hF : f_X10_back fu M a0 = some y) : gz_ct l yX10_back cX10_back 1 (some .int) 2 44 0 0 G [.ref a0] M (some (.int y.1)) y.2 := by
  refine gz_ct.of (by decide) (Nat.le_of_ble_eq_true rfl) (fun C hC hX => ?_)
  unfold f_X10_back at hF
  obtain ⟨-, hF⟩ := gz_gd_some hF
  show gz_go C 0 0 M [(0, .ref a0)] 0 []
  refine gz_aload_n 0 hC 0 dX10_back_0 rfl rfl ?_
  refine gz_getQ 1 14 hC fl_X10_302 fk_10_20 dX10_back_1 dX10_back_4 (by decide) hF (fun hF => ?_) (fun hF => ?_)
  · skip
    refine gz_aload_n 14 hC 0 dX10_back_14 rfl rfl ?_
    refine gz_aload_n 15 hC 0 dX10_back_15 rfl rfl ?_
    refine gz_getR 16 hC fl_X10_302 fk_10_20 dX10_back_16 hF (fun x3 hF => ?_)
    refine gz_cvV (st := []) 19 hC hX [.ref x3] yl_X10_takeFrom yv_X10_takeFrom q_1538 ⟨Nat.le_of_ble_eq_true rfl, Nat.le_of_ble_eq_true rfl⟩ ⟨_, rfl⟩ (fun r h => ct_X10_takeFrom _ _ fu M a0 x3 r h) rfl rfl (Nat.le_of_ble_eq_true rfl) dX10_back_19 gz_00 hF (fun M4 hF => ?_)
    refine gz_iconst 22 hC (1 : Int32) dX10_back_22 gz_k1 ?_
    exact gz_iretM 23 hC hX dX10_back_23 hF
  · skip
    refine gz_aload_n 7 hC 0 dX10_back_7 rfl rfl ?_
    refine gz_bipush 8 hC (-5 : Int32) dX10_back_8 gz_bm5 ?_
    refine gz_cvM (st := []) 10 hC hX [.int (-5 : Int32)] Value.int yl_X10_refuse yv_X10_refuse q_1175 ⟨Nat.le_of_ble_eq_true rfl, Nat.le_of_ble_eq_true rfl⟩ ⟨_, rfl⟩ (fun r h => ct_X10_refuse _ _ fu M a0 (-5 : Int32) r h) rfl rfl (Nat.le_of_ble_eq_true rfl) dX10_back_10 gz_00 hF (fun x1 M2 hF => ?_)
    exact gz_iretM 13 hC hX dX10_back_13 hF

theorem dX10_status_0 : decode cX10_status 0 = .ok (.iload_n 1, 1) := by decide +kernel
theorem dX10_status_1 : decode cX10_status 1 = .ok (.tableswitch 72 0 2 #[27, 32, 37], 27) := by decide +kernel
theorem dX10_status_28 : decode cX10_status 28 = .ok (.aload_n 0, 1) := by decide +kernel
theorem dX10_status_29 : decode cX10_status 29 = .ok (.getfield 70, 3) := by decide +kernel
theorem dX10_status_32 : decode cX10_status 32 = .ok (.ireturn, 1) := by decide +kernel
theorem dX10_status_33 : decode cX10_status 33 = .ok (.aload_n 0, 1) := by decide +kernel
theorem dX10_status_34 : decode cX10_status 34 = .ok (.getfield 136, 3) := by decide +kernel
theorem dX10_status_37 : decode cX10_status 37 = .ok (.ireturn, 1) := by decide +kernel
theorem dX10_status_38 : decode cX10_status 38 = .ok (.iconst 0, 1) := by decide +kernel
theorem dX10_status_39 : decode cX10_status 39 = .ok (.istore_n 2, 1) := by decide +kernel
theorem dX10_status_40 : decode cX10_status 40 = .ok (.iconst 0, 1) := by decide +kernel
theorem dX10_status_41 : decode cX10_status 41 = .ok (.istore_n 3, 1) := by decide +kernel
theorem dX10_status_42 : decode cX10_status 42 = .ok (.iload_n 3, 1) := by decide +kernel
theorem dX10_status_43 : decode cX10_status 43 = .ok (.bipush 8, 2) := by decide +kernel
theorem dX10_status_45 : decode cX10_status 45 = .ok (.if_icmp .ge 26, 3) := by decide +kernel
theorem dX10_status_48 : decode cX10_status 48 = .ok (.iload_n 2, 1) := by decide +kernel
theorem dX10_status_49 : decode cX10_status 49 = .ok (.aload_n 0, 1) := by decide +kernel
theorem dX10_status_50 : decode cX10_status 50 = .ok (.getfield 7, 3) := by decide +kernel
theorem dX10_status_53 : decode cX10_status 53 = .ok (.iload_n 3, 1) := by decide +kernel
theorem dX10_status_54 : decode cX10_status 54 = .ok (.iaload, 1) := by decide +kernel
theorem dX10_status_55 : decode cX10_status 55 = .ok (.ifCond .eq 7, 3) := by decide +kernel
theorem dX10_status_58 : decode cX10_status 58 = .ok (.iconst 1, 1) := by decide +kernel
theorem dX10_status_59 : decode cX10_status 59 = .ok (.goto 4, 3) := by decide +kernel
theorem dX10_status_62 : decode cX10_status 62 = .ok (.iconst 0, 1) := by decide +kernel
theorem dX10_status_63 : decode cX10_status 63 = .ok (.iadd, 1) := by decide +kernel
theorem dX10_status_64 : decode cX10_status 64 = .ok (.istore_n 2, 1) := by decide +kernel
theorem dX10_status_65 : decode cX10_status 65 = .ok (.iinc 3 1, 3) := by decide +kernel
theorem dX10_status_68 : decode cX10_status 68 = .ok (.goto (-26), 3) := by decide +kernel
theorem dX10_status_71 : decode cX10_status 71 = .ok (.iload_n 2, 1) := by decide +kernel
theorem dX10_status_72 : decode cX10_status 72 = .ok (.ireturn, 1) := by decide +kernel
theorem dX10_status_73 : decode cX10_status 73 = .ok (.iload_n 1, 1) := by decide +kernel
theorem dX10_status_74 : decode cX10_status 74 = .ok (.i2l, 1) := by decide +kernel
theorem dX10_status_75 : decode cX10_status 75 = .ok (.ldc2_w 311, 3) := by decide +kernel
theorem dX10_status_78 : decode cX10_status 78 = .ok (.ldc2_w 313, 3) := by decide +kernel
theorem dX10_status_81 : decode cX10_status 81 = .ok (.invokestatic 73, 3) := by decide +kernel
theorem dX10_status_84 : decode cX10_status 84 = .ok (.ifCond .eq 15, 3) := by decide +kernel
theorem dX10_status_87 : decode cX10_status 87 = .ok (.aload_n 0, 1) := by decide +kernel
theorem dX10_status_88 : decode cX10_status 88 = .ok (.getfield 40, 3) := by decide +kernel
theorem dX10_status_91 : decode cX10_status 91 = .ok (.iload_n 1, 1) := by decide +kernel
theorem dX10_status_92 : decode cX10_status 92 = .ok (.bipush 10, 2) := by decide +kernel
theorem dX10_status_94 : decode cX10_status 94 = .ok (.isub, 1) := by decide +kernel
theorem dX10_status_95 : decode cX10_status 95 = .ok (.iaload, 1) := by decide +kernel
theorem dX10_status_96 : decode cX10_status 96 = .ok (.goto 4, 3) := by decide +kernel
theorem dX10_status_99 : decode cX10_status 99 = .ok (.iconst (-1), 1) := by decide +kernel
theorem dX10_status_100 : decode cX10_status 100 = .ok (.ireturn, 1) := by decide +kernel
def lp_X10_status_42 (j71 : Int32 → Option (Int32)) (M : gz_M) (a0 : Nat) : Nat → Int32 → Int32 → Option (Int32)
  | 0, _, _ => none
  | n42 + 1, x5, x6 =>
    if (8 : Int32) ≤ x6 then
      j71 x5
    else
      (gz_gR M 10 0 a0).bind fun x7 =>
      (gz_aI M x7 x6).bind fun x8 =>
      gz_jn (fun (x9 : Int32) =>
      lp_X10_status_42 j71 M a0 n42 (x5 + x9) (x6 + (1 : Int32))) fun j63 =>
      if x8 = 0 then
        j63 (0 : Int32)
      else
        j63 (1 : Int32)
def f_X10_status (fu : Nat) (M : gz_M) (a0 : Nat) (a1 : Int32) : Option (Int32) :=
  gz_gd M 10 a0 <|
  if a1 = (0 : Int32) then (gz_gI M 10 11 a0).bind fun x12 =>
    some x12 else if a1 = (1 : Int32) then (gz_gI M 10 9 a0).bind fun x11 =>
    some x11 else if a1 = (2 : Int32) then lp_X10_status_42 (fun (x10 : Int32) => some x10) M a0 fu (0 : Int32) (0 : Int32) else (f_X10_in fu M (a1).toInt64 (12 : Int64) (16 : Int64)).bind fun x1 =>
  gz_jn (fun (x4 : Int32) =>
  some x4) fun j100 =>
  if x1 = 0 then
    j100 (-1 : Int32)
  else
    (gz_gR M 10 10 a0).bind fun x2 =>
    (gz_aI M x2 (a1 - (10 : Int32))).bind fun x3 =>
    j100 x3
set_option maxHeartbeats 4000000 in
theorem w_X10_status_42 {C : gz_C} {y : Int32} {M : gz_M} {a0 : Nat} {j71 : Int32 → Option (Int32)} (hC : gz_ok C cX10_status RX10 4) (hX : gz_cx C 1 25 0 0 (some .int) (some (.int y)) M "status") (hj71 : ∀ (x10 : Int32), j71 x10 = some y → gz_go C 0 0 M [(2, .int x10)] 71 []) : ∀ (n : Nat) (x5 : Int32) (x6 : Int32), lp_X10_status_42 j71 M a0 n x5 x6 = some y → gz_go C 0 0 M [(0, .ref a0), (2, .int x5), (3, .int x6)] 42 [] := by
  intro n
  induction n with
  | zero => intro x5 x6 hF; exact nomatch (show (none : Option (Int32)) = some y from hF)
  | succ n42 ih42 =>
    intro x5 x6 hF
    rw [lp_X10_status_42.eq_2] at hF
    refine gz_iload_n 42 hC 2 dX10_status_42 rfl rfl ?_
    refine gz_bipush 43 hC (8 : Int32) dX10_status_43 gz_b8 ?_
    refine gz_icmp_ge 45 71 hC dX10_status_45 (by decide) hF (fun hF => ?_) (fun hF => ?_)
    · skip
      refine gz_sub [1] [(2, .int x5)] rfl ?_
      exact hj71 _ hF
    · skip
      refine gz_iload_n 48 hC 1 dX10_status_48 rfl rfl ?_
      refine gz_aload_n 49 hC 0 dX10_status_49 rfl rfl ?_
      refine gz_getR 50 hC fl_X10_7 fk_10_0 dX10_status_50 hF (fun x7 hF => ?_)
      refine gz_iload_n 53 hC 2 dX10_status_53 rfl rfl ?_
      refine gz_iald 54 hC dX10_status_54 hF (fun x8 hF => ?_)
      refine gz_join (fun (j : Int32 → Option (Int32)) => ∀ (x9 : Int32), j x9 = some y → gz_go C 0 0 M [(0, .ref a0), (3, .int x6)] 63 [.int x9, .int x5]) hF (fun x9 hF => ?_) (fun j63 hj63 hF => ?_)
      · skip
        refine gz_iadd 63 hC dX10_status_63 ?_
        refine gz_istore_n 64 hC [(2, .int (x5 + x9)), (0, .ref a0), (3, .int x6)] dX10_status_64 rfl (by decide) rfl ?_
        refine gz_iinc 65 hC (x6 + (1 : Int32)) 2 [(3, .int (x6 + (1 : Int32))), (2, .int (x5 + x9)), (0, .ref a0)] dX10_status_65 rfl rfl (by decide) rfl ?_
        refine gz_goto 68 42 hC dX10_status_68 (by decide) ?_
        refine gz_sub [2, 1, 0] [(0, .ref a0), (2, .int (x5 + x9)), (3, .int (x6 + (1 : Int32)))] rfl ?_
        exact ih42 _ _ hF
      refine gz_if_eq 55 62 hC dX10_status_55 (by decide) hF (fun hF => ?_) (fun hF => ?_)
      · skip
        refine gz_iconst 62 hC (0 : Int32) dX10_status_62 gz_k0 ?_
        refine gz_sub [0, 2] [(0, .ref a0), (3, .int x6)] rfl ?_
        exact hj63 _ hF
      · skip
        refine gz_iconst 58 hC (1 : Int32) dX10_status_58 gz_k1 ?_
        refine gz_goto 59 63 hC dX10_status_59 (by decide) ?_
        refine gz_sub [0, 2] [(0, .ref a0), (3, .int x6)] rfl ?_
        exact hj63 _ hF
set_option maxHeartbeats 4000000 in
theorem ct_X10_status (l : Launch) (G : gz_G) (fu : Nat) (M : gz_M) (a0 : Nat) (a1 : Int32) (y : Int32) (hF : f_X10_status fu M a0 a1 = some y) : gz_ct l yX10_status cX10_status 4 (some .int) 1 25 0 0 G [.ref a0, .int a1] M (some (.int y)) M := by
  refine gz_ct.of (by decide) (Nat.le_of_ble_eq_true rfl) (fun C hC hX => ?_)
  unfold f_X10_status at hF
  obtain ⟨-, hF⟩ := gz_gd_some hF
  show gz_go C 0 0 M [(0, .ref a0), (1, .int a1)] 0 []
  refine gz_iload_n 0 hC 1 dX10_status_0 rfl rfl ?_
  refine gz_cse hF (fun e0 hF => ?_) (fun e0 hF => ?_)
  · skip
    refine gz_tin 1 28 hC (off := 27) dX10_status_1 e0 (by decide) (by decide) (by decide) ?_
    refine gz_aload_n 28 hC 0 dX10_status_28 rfl rfl ?_
    refine gz_getI 29 hC fl_X10_70 fk_10_11 dX10_status_29 hF (fun x12 hF => ?_)
    exact gz_iretP 32 hC hX dX10_status_32 hF
  refine gz_cse hF (fun e1 hF => ?_) (fun e1 hF => ?_)
  · skip
    refine gz_tin 1 33 hC (off := 32) dX10_status_1 e1 (by decide) (by decide) (by decide) ?_
    refine gz_aload_n 33 hC 0 dX10_status_33 rfl rfl ?_
    refine gz_getI 34 hC fl_X10_136 fk_10_9 dX10_status_34 hF (fun x11 hF => ?_)
    exact gz_iretP 37 hC hX dX10_status_37 hF
  refine gz_cse hF (fun e2 hF => ?_) (fun e2 hF => ?_)
  · skip
    refine gz_tin 1 38 hC (off := 37) dX10_status_1 e2 (by decide) (by decide) (by decide) ?_
    refine gz_iconst 38 hC (0 : Int32) dX10_status_38 gz_k0 ?_
    refine gz_istore_n 39 hC [(2, .int (0 : Int32)), (0, .ref a0), (1, .int a1)] dX10_status_39 rfl (by decide) rfl ?_
    refine gz_iconst 40 hC (0 : Int32) dX10_status_40 gz_k0 ?_
    refine gz_istore_n 41 hC [(3, .int (0 : Int32)), (2, .int (0 : Int32)), (0, .ref a0), (1, .int a1)] dX10_status_41 rfl (by decide) rfl ?_
    refine gz_sub [2, 1, 0] [(0, .ref a0), (2, .int (0 : Int32)), (3, .int (0 : Int32))] rfl ?_
    refine w_X10_status_42 hC hX ?_ _ _ _ hF
    intro x10 hF
    refine gz_iload_n 71 hC 0 dX10_status_71 rfl rfl ?_
    exact gz_iretP 72 hC hX dX10_status_72 hF
  refine gz_tout 1 73 hC dX10_status_1 (by have h0 := lv_neT (a := 0) e0 (by decide); have h1 := lv_neT (a := 1) e1 (by decide); have h2 := lv_neT (a := 2) e2 (by decide); omega) (by decide) ?_
  refine gz_iload_n 73 hC 1 dX10_status_73 rfl rfl ?_
  refine gz_i2l 74 hC dX10_status_74 ?_
  refine gz_ldc2 75 hC dX10_status_75 q_1550 ?_
  refine gz_ldc2 78 hC dX10_status_78 q_1551 ?_
  refine gz_csP (st := []) 81 hC hX [.long (a1).toInt64, .long (12 : Int64), .long (16 : Int64)] Value.int yl_X10_in yv_X10_in q_1170 ⟨Nat.le_of_ble_eq_true rfl, Nat.le_of_ble_eq_true rfl⟩ (fun r h => ct_X10_in _ _ fu M (a1).toInt64 (12 : Int64) (16 : Int64) r h) rfl rfl (Nat.le_of_ble_eq_true rfl) dX10_status_81 gz_00 hF (fun x1 hF => ?_)
  refine gz_join (fun (j : Int32 → Option (Int32)) => ∀ (x4 : Int32), j x4 = some y → gz_go C 0 0 M [] 100 [.int x4]) hF (fun x4 hF => ?_) (fun j100 hj100 hF => ?_)
  · skip
    exact gz_iretP 100 hC hX dX10_status_100 hF
  refine gz_if_eq 84 99 hC dX10_status_84 (by decide) hF (fun hF => ?_) (fun hF => ?_)
  · skip
    refine gz_iconst 99 hC (-1 : Int32) dX10_status_99 gz_km1 ?_
    refine gz_sub [] [] rfl ?_
    exact hj100 _ hF
  · skip
    refine gz_aload_n 87 hC 0 dX10_status_87 rfl rfl ?_
    refine gz_getR 88 hC fl_X10_40 fk_10_10 dX10_status_88 hF (fun x2 hF => ?_)
    refine gz_iload_n 91 hC 1 dX10_status_91 rfl rfl ?_
    refine gz_bipush 92 hC (10 : Int32) dX10_status_92 gz_b10 ?_
    refine gz_isub 94 hC dX10_status_94 ?_
    refine gz_iald 95 hC dX10_status_95 hF (fun x3 hF => ?_)
    refine gz_goto 96 100 hC dX10_status_96 (by decide) ?_
    refine gz_sub [] [] rfl ?_
    exact hj100 _ hF
