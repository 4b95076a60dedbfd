theorem dX10_row_0 : decode cX10_row 0 = .ok (.iload_n 1, 1) := by decide +kernel
theorem dX10_row_1 : decode cX10_row 1 = .ok (.i2l, 1) := by decide +kernel
theorem dX10_row_2 : decode cX10_row 2 = .ok (.lconst 0, 1) := by decide +kernel
theorem dX10_row_3 : decode cX10_row 3 = .ok (.ldc2_w 91, 3) := by decide +kernel
theorem dX10_row_6 : decode cX10_row 6 = .ok (.invokestatic 73, 3) := by decide +kernel
theorem dX10_row_9 : decode cX10_row 9 = .ok (.ifCond .eq 27, 3) := by decide +kernel
theorem dX10_row_12 : decode cX10_row 12 = .ok (.iload_n 2, 1) := by decide +kernel
theorem dX10_row_13 : decode cX10_row 13 = .ok (.i2l, 1) := by decide +kernel
theorem dX10_row_14 : decode cX10_row 14 = .ok (.lconst 0, 1) := by decide +kernel
theorem dX10_row_15 : decode cX10_row 15 = .ok (.ldc2_w 93, 3) := by decide +kernel
theorem dX10_row_18 : decode cX10_row 18 = .ok (.invokestatic 73, 3) := by decide +kernel
theorem dX10_row_21 : decode cX10_row 21 = .ok (.ifCond .eq 15, 3) := by decide +kernel
theorem dX10_row_24 : decode cX10_row 24 = .ok (.iload_n 3, 1) := by decide +kernel
theorem dX10_row_25 : decode cX10_row 25 = .ok (.i2l, 1) := by decide +kernel
theorem dX10_row_26 : decode cX10_row 26 = .ok (.lconst 0, 1) := by decide +kernel
theorem dX10_row_27 : decode cX10_row 27 = .ok (.ldc2_w 95, 3) := by decide +kernel
theorem dX10_row_30 : decode cX10_row 30 = .ok (.invokestatic 73, 3) := by decide +kernel
theorem dX10_row_33 : decode cX10_row 33 = .ok (.ifCond .ne 10, 3) := by decide +kernel
theorem dX10_row_36 : decode cX10_row 36 = .ok (.aload_n 0, 1) := by decide +kernel
theorem dX10_row_37 : decode cX10_row 37 = .ok (.bipush (-2), 2) := by decide +kernel
theorem dX10_row_39 : decode cX10_row 39 = .ok (.invokevirtual 97, 3) := by decide +kernel
theorem dX10_row_42 : decode cX10_row 42 = .ok (.ireturn, 1) := by decide +kernel
theorem dX10_row_43 : decode cX10_row 43 = .ok (.aload_n 0, 1) := by decide +kernel
theorem dX10_row_44 : decode cX10_row 44 = .ok (.getfield 7, 3) := by decide +kernel
theorem dX10_row_47 : decode cX10_row 47 = .ok (.iload_n 1, 1) := by decide +kernel
theorem dX10_row_48 : decode cX10_row 48 = .ok (.iconst 1, 1) := by decide +kernel
theorem dX10_row_49 : decode cX10_row 49 = .ok (.iastore, 1) := by decide +kernel
theorem dX10_row_50 : decode cX10_row 50 = .ok (.aload_n 0, 1) := by decide +kernel
theorem dX10_row_51 : decode cX10_row 51 = .ok (.getfield 13, 3) := by decide +kernel
theorem dX10_row_54 : decode cX10_row 54 = .ok (.iload_n 1, 1) := by decide +kernel
theorem dX10_row_55 : decode cX10_row 55 = .ok (.iload_n 2, 1) := by decide +kernel
theorem dX10_row_56 : decode cX10_row 56 = .ok (.iastore, 1) := by decide +kernel
theorem dX10_row_57 : decode cX10_row 57 = .ok (.aload_n 0, 1) := by decide +kernel
theorem dX10_row_58 : decode cX10_row 58 = .ok (.getfield 16, 3) := by decide +kernel
theorem dX10_row_61 : decode cX10_row 61 = .ok (.iload_n 1, 1) := by decide +kernel
theorem dX10_row_62 : decode cX10_row 62 = .ok (.iload_n 3, 1) := by decide +kernel
theorem dX10_row_63 : decode cX10_row 63 = .ok (.iastore, 1) := by decide +kernel
theorem dX10_row_64 : decode cX10_row 64 = .ok (.iconst 0, 1) := by decide +kernel
theorem dX10_row_65 : decode cX10_row 65 = .ok (.istore 4, 2) := by decide +kernel
theorem dX10_row_67 : decode cX10_row 67 = .ok (.iload 4, 2) := by decide +kernel
theorem dX10_row_69 : decode cX10_row 69 = .ok (.bipush 40, 2) := by decide +kernel
theorem dX10_row_71 : decode cX10_row 71 = .ok (.if_icmp .ge 19, 3) := by decide +kernel
theorem dX10_row_74 : decode cX10_row 74 = .ok (.aload_n 0, 1) := by decide +kernel
theorem dX10_row_75 : decode cX10_row 75 = .ok (.getfield 21, 3) := by decide +kernel
theorem dX10_row_78 : decode cX10_row 78 = .ok (.iload_n 1, 1) := by decide +kernel
theorem dX10_row_79 : decode cX10_row 79 = .ok (.aaload, 1) := by decide +kernel
theorem dX10_row_80 : decode cX10_row 80 = .ok (.iload 4, 2) := by decide +kernel
theorem dX10_row_82 : decode cX10_row 82 = .ok (.lconst 0, 1) := by decide +kernel
theorem dX10_row_83 : decode cX10_row 83 = .ok (.lastore, 1) := by decide +kernel
theorem dX10_row_84 : decode cX10_row 84 = .ok (.iinc 4 1, 3) := by decide +kernel
theorem dX10_row_87 : decode cX10_row 87 = .ok (.goto (-20), 3) := by decide +kernel
theorem dX10_row_90 : decode cX10_row 90 = .ok (.iconst 1, 1) := by decide +kernel
theorem dX10_row_91 : decode cX10_row 91 = .ok (.ireturn, 1) := by decide +kernel
def lp_X10_row_67 (j90 : gz_M → Option (Int32 × gz_M)) (a0 : Nat) (a1 : Int32) : Nat → Int32 → gz_M → Option (Int32 × gz_M)
  | 0, _, _ => none
  | n67 + 1, x10, M11 =>
    if (40 : Int32) ≤ x10 then
      j90 M11
    else
      (gz_gR M11 10 3 a0).bind fun x12 =>
      (gz_aR M11 x12 a1).bind fun x13 =>
      (gz_tL M11 x13 x10 (0 : Int64)).bind fun M14 =>
      lp_X10_row_67 j90 a0 a1 n67 (x10 + (1 : Int32)) M14
def f_X10_row (fu : Nat) (M : gz_M) (a0 : Nat) (a1 : Int32) (a2 : Int32) (a3 : Int32) : Option (Int32 × gz_M) :=
  gz_gd M 10 a0 <|
  (f_X10_in fu M (a1).toInt64 (0 : Int64) (7 : Int64)).bind fun x1 =>
  gz_jn (gz_b2 (f_X10_refuse fu M a0 (-2 : Int32)) fun x16 M17 =>
    some (x16, M17)) fun j36 =>
  if x1 = 0 then
    j36
  else
    (f_X10_in fu M (a2).toInt64 (0 : Int64) (4 : Int64)).bind fun x2 =>
    if x2 = 0 then
      j36
    else
      (f_X10_in fu M (a3).toInt64 (0 : Int64) (40 : Int64)).bind fun x3 =>
      if x3 = 0 then
        j36
      else
        (gz_gR M 10 0 a0).bind fun x4 =>
        (gz_tI M x4 a1 (1 : Int32)).bind fun M5 =>
        (gz_gR M5 10 1 a0).bind fun x6 =>
        (gz_tI M5 x6 a1 a2).bind fun M7 =>
        (gz_gR M7 10 2 a0).bind fun x8 =>
        (gz_tI M7 x8 a1 a3).bind fun M9 =>
        lp_X10_row_67 (fun (M15 : gz_M) => some ((1 : Int32), M15)) a0 a1 fu (0 : Int32) M9
set_option maxHeartbeats 4000000 in
theorem w_X10_row_67 {C : gz_C} {y : Int32 × gz_M} {a0 : Nat} {a1 : Int32} {j90 : gz_M → Option (Int32 × gz_M)} (hC : gz_ok C cX10_row RX10 5) (hX : gz_cx C 1 25 0 0 (some .int) (some (.int y.1)) y.2 "row") (hj90 : ∀ (M15 : gz_M), j90 M15 = some y → gz_go C 0 0 M15 [] 90 []) : ∀ (n : Nat) (x10 : Int32) (M11 : gz_M), lp_X10_row_67 j90 a0 a1 n x10 M11 = some y → gz_go C 0 0 M11 [(0, .ref a0), (1, .int a1), (4, .int x10)] 67 [] := by
  intro n
  induction n with
  | zero => intro x10 M11 hF; exact nomatch (show (none : Option (Int32 × gz_M)) = some y from hF)
  | succ n67 ih67 =>
    intro x10 M11 hF
    rw [lp_X10_row_67.eq_2] at hF
    refine gz_iload 67 hC 2 dX10_row_67 rfl ?_
    refine gz_bipush 69 hC (40 : Int32) dX10_row_69 gz_b40 ?_
    refine gz_icmp_ge 71 90 hC dX10_row_71 (by decide) hF (fun hF => ?_) (fun hF => ?_)
    · skip
      refine gz_sub [] [] rfl ?_
      exact hj90 _ hF
    · skip
      refine gz_aload_n 74 hC 0 dX10_row_74 rfl rfl ?_
      refine gz_getR 75 hC fl_X10_21 fk_10_3 dX10_row_75 hF (fun x12 hF => ?_)
      refine gz_iload_n 78 hC 1 dX10_row_78 rfl rfl ?_
      refine gz_aald 79 hC dX10_row_79 hF (fun x13 hF => ?_)
      refine gz_iload 80 hC 2 dX10_row_80 rfl ?_
      refine gz_lconst 82 hC (0 : Int64) dX10_row_82 gz_l0 ?_
      refine gz_last 83 hC dX10_row_83 hF (fun M14 hF => ?_)
      refine gz_iinc 84 hC (x10 + (1 : Int32)) 2 [(4, .int (x10 + (1 : Int32))), (0, .ref a0), (1, .int a1)] dX10_row_84 rfl rfl (by decide) rfl ?_
      refine gz_goto 87 67 hC dX10_row_87 (by decide) ?_
      refine gz_sub [1, 2, 0] [(0, .ref a0), (1, .int a1), (4, .int (x10 + (1 : Int32)))] rfl ?_
      exact ih67 _ _ hF
set_option maxHeartbeats 4000000 in
theorem ct_X10_row (l : Launch) (G : gz_G) (fu : Nat) (M : gz_M) (a0 : Nat) (a1 : Int32) (a2 : Int32) (a3 : Int32) (y : Int32 × gz_M) (hF : f_X10_row fu M a0 a1 a2 a3 = some y) : gz_ct l yX10_row cX10_row 5 (some .int) 1 25 0 0 G [.ref a0, .int a1, .int a2, .int a3] M (some (.int y.1)) y.2 := by
  refine gz_ct.of (by decide) (Nat.le_of_ble_eq_true rfl) (fun C hC hX => ?_)
  unfold f_X10_row at hF
  obtain ⟨-, hF⟩ := gz_gd_some hF
  show gz_go C 0 0 M [(0, .ref a0), (1, .int a1), (2, .int a2), (3, .int a3)] 0 []
  refine gz_iload_n 0 hC 1 dX10_row_0 rfl rfl ?_
  refine gz_i2l 1 hC dX10_row_1 ?_
  refine gz_lconst 2 hC (0 : Int64) dX10_row_2 gz_l0 ?_
  refine gz_ldc2 3 hC dX10_row_3 q_1169 ?_
  refine gz_csP (st := []) 6 hC hX [.long (a1).toInt64, .long (0 : Int64), .long (7 : Int64)] Value.int yl_X10_in yv_X10_in q_1170 ⟨Nat.le_of_ble_eq_true rfl, Nat.le_of_ble_eq_true rfl⟩ (fun r h => ct_X10_in _ _ fu M (a1).toInt64 (0 : Int64) (7 : Int64) r h) rfl rfl (Nat.le_of_ble_eq_true rfl) dX10_row_6 gz_00 hF (fun x1 hF => ?_)
  refine gz_join (fun (j : Option (Int32 × gz_M)) => j = some y → gz_go C 0 0 M [(0, .ref a0)] 36 []) hF (fun hF => ?_) (fun j36 hj36 hF => ?_)
  · skip
    refine gz_aload_n 36 hC 0 dX10_row_36 rfl rfl ?_
    refine gz_bipush 37 hC (-2 : Int32) dX10_row_37 gz_bm2 ?_
    refine gz_cvM (st := []) 39 hC hX [.int (-2 : Int32)] Value.int yl_X10_refuse yv_X10_refuse q_1175 ⟨Nat.le_of_ble_eq_true rfl, Nat.le_of_ble_eq_true rfl⟩ ⟨_, rfl⟩ (fun r h => ct_X10_refuse _ _ fu M a0 (-2 : Int32) r h) rfl rfl (Nat.le_of_ble_eq_true rfl) dX10_row_39 gz_00 hF (fun x16 M17 hF => ?_)
    exact gz_iretM 42 hC hX dX10_row_42 hF
  refine gz_if_eq 9 36 hC dX10_row_9 (by decide) hF (fun hF => ?_) (fun hF => ?_)
  · skip
    refine gz_sub [0] [(0, .ref a0)] rfl ?_
    exact hj36 hF
  · skip
    refine gz_iload_n 12 hC 2 dX10_row_12 rfl rfl ?_
    refine gz_i2l 13 hC dX10_row_13 ?_
    refine gz_lconst 14 hC (0 : Int64) dX10_row_14 gz_l0 ?_
    refine gz_ldc2 15 hC dX10_row_15 q_1173 ?_
    refine gz_csP (st := []) 18 hC hX [.long (a2).toInt64, .long (0 : Int64), .long (4 : Int64)] Value.int yl_X10_in yv_X10_in q_1170 ⟨Nat.le_of_ble_eq_true rfl, Nat.le_of_ble_eq_true rfl⟩ (fun r h => ct_X10_in _ _ fu M (a2).toInt64 (0 : Int64) (4 : Int64) r h) rfl rfl (Nat.le_of_ble_eq_true rfl) dX10_row_18 gz_00 hF (fun x2 hF => ?_)
    refine gz_if_eq 21 36 hC dX10_row_21 (by decide) hF (fun hF => ?_) (fun hF => ?_)
    · skip
      refine gz_sub [0] [(0, .ref a0)] rfl ?_
      exact hj36 hF
    · skip
      refine gz_iload_n 24 hC 3 dX10_row_24 rfl rfl ?_
      refine gz_i2l 25 hC dX10_row_25 ?_
      refine gz_lconst 26 hC (0 : Int64) dX10_row_26 gz_l0 ?_
      refine gz_ldc2 27 hC dX10_row_27 q_1174 ?_
      refine gz_csP (st := []) 30 hC hX [.long (a3).toInt64, .long (0 : Int64), .long (40 : Int64)] Value.int yl_X10_in yv_X10_in q_1170 ⟨Nat.le_of_ble_eq_true rfl, Nat.le_of_ble_eq_true rfl⟩ (fun r h => ct_X10_in _ _ fu M (a3).toInt64 (0 : Int64) (40 : Int64) r h) rfl rfl (Nat.le_of_ble_eq_true rfl) dX10_row_30 gz_00 hF (fun x3 hF => ?_)
      refine gz_if_ne 33 43 hC dX10_row_33 (by decide) hF (fun hF => ?_) (fun hF => ?_)
      · skip
        refine gz_aload_n 43 hC 0 dX10_row_43 rfl rfl ?_
        refine gz_getR 44 hC fl_X10_7 fk_10_0 dX10_row_44 hF (fun x4 hF => ?_)
        refine gz_iload_n 47 hC 1 dX10_row_47 rfl rfl ?_
        refine gz_iconst 48 hC (1 : Int32) dX10_row_48 gz_k1 ?_
        refine gz_iast 49 hC dX10_row_49 hF (fun M5 hF => ?_)
        refine gz_aload_n 50 hC 0 dX10_row_50 rfl rfl ?_
        refine gz_getR 51 hC fl_X10_13 fk_10_1 dX10_row_51 hF (fun x6 hF => ?_)
        refine gz_iload_n 54 hC 1 dX10_row_54 rfl rfl ?_
        refine gz_iload_n 55 hC 2 dX10_row_55 rfl rfl ?_
        refine gz_iast 56 hC dX10_row_56 hF (fun M7 hF => ?_)
        refine gz_aload_n 57 hC 0 dX10_row_57 rfl rfl ?_
        refine gz_getR 58 hC fl_X10_16 fk_10_2 dX10_row_58 hF (fun x8 hF => ?_)
        refine gz_iload_n 61 hC 1 dX10_row_61 rfl rfl ?_
        refine gz_iload_n 62 hC 3 dX10_row_62 rfl rfl ?_
        refine gz_iast 63 hC dX10_row_63 hF (fun M9 hF => ?_)
        refine gz_iconst 64 hC (0 : Int32) dX10_row_64 gz_k0 ?_
        refine gz_istore 65 hC [(4, .int (0 : Int32)), (0, .ref a0), (1, .int a1), (2, .int a2), (3, .int a3)] dX10_row_65 (by decide) rfl ?_
        refine gz_sub [1, 2, 0] [(0, .ref a0), (1, .int a1), (4, .int (0 : Int32))] rfl ?_
        refine w_X10_row_67 hC hX ?_ _ _ _ hF
        intro M15 hF
        refine gz_iconst 90 hC (1 : Int32) dX10_row_90 gz_k1 ?_
        exact gz_iretM 91 hC hX dX10_row_91 hF
      · skip
        refine gz_sub [0] [(0, .ref a0)] rfl ?_
        exact hj36 hF

theorem dX10_fit_0 : decode cX10_fit 0 = .ok (.iload_n 0, 1) := by decide +kernel
theorem dX10_fit_1 : decode cX10_fit 1 = .ok (.tableswitch 47 0 3 #[31, 36, 41, 45], 31) := by decide +kernel
theorem dX10_fit_32 : decode cX10_fit 32 = .ok (.lload_n 1, 1) := by decide +kernel
theorem dX10_fit_33 : decode cX10_fit 33 = .ok (.l2i, 1) := by decide +kernel
theorem dX10_fit_34 : decode cX10_fit 34 = .ok (.i2b, 1) := by decide +kernel
theorem dX10_fit_35 : decode cX10_fit 35 = .ok (.i2l, 1) := by decide +kernel
theorem dX10_fit_36 : decode cX10_fit 36 = .ok (.lreturn, 1) := by decide +kernel
theorem dX10_fit_37 : decode cX10_fit 37 = .ok (.lload_n 1, 1) := by decide +kernel
theorem dX10_fit_38 : decode cX10_fit 38 = .ok (.l2i, 1) := by decide +kernel
theorem dX10_fit_39 : decode cX10_fit 39 = .ok (.i2s, 1) := by decide +kernel
theorem dX10_fit_40 : decode cX10_fit 40 = .ok (.i2l, 1) := by decide +kernel
theorem dX10_fit_41 : decode cX10_fit 41 = .ok (.lreturn, 1) := by decide +kernel
theorem dX10_fit_42 : decode cX10_fit 42 = .ok (.lload_n 1, 1) := by decide +kernel
theorem dX10_fit_43 : decode cX10_fit 43 = .ok (.l2i, 1) := by decide +kernel
theorem dX10_fit_44 : decode cX10_fit 44 = .ok (.i2l, 1) := by decide +kernel
theorem dX10_fit_45 : decode cX10_fit 45 = .ok (.lreturn, 1) := by decide +kernel
theorem dX10_fit_46 : decode cX10_fit 46 = .ok (.lload_n 1, 1) := by decide +kernel
theorem dX10_fit_47 : decode cX10_fit 47 = .ok (.lreturn, 1) := by decide +kernel
theorem dX10_fit_48 : decode cX10_fit 48 = .ok (.lload_n 1, 1) := by decide +kernel
theorem dX10_fit_49 : decode cX10_fit 49 = .ok (.lconst 0, 1) := by decide +kernel
theorem dX10_fit_50 : decode cX10_fit 50 = .ok (.lcmp, 1) := by decide +kernel
theorem dX10_fit_51 : decode cX10_fit 51 = .ok (.ifCond .eq 7, 3) := by decide +kernel
theorem dX10_fit_54 : decode cX10_fit 54 = .ok (.lconst 1, 1) := by decide +kernel
theorem dX10_fit_55 : decode cX10_fit 55 = .ok (.goto 4, 3) := by decide +kernel
theorem dX10_fit_58 : decode cX10_fit 58 = .ok (.lconst 0, 1) := by decide +kernel
theorem dX10_fit_59 : decode cX10_fit 59 = .ok (.lreturn, 1) := by decide +kernel

def f_X10_fit (fu : Nat) (M : gz_M) (a0 : Int32) (a1 : Int64) : Option (Int64) :=
  if a0 = (0 : Int32) then some (((a1).toInt32).toInt8.toInt32).toInt64 else if a0 = (1 : Int32) then some (((a1).toInt32).toInt16.toInt32).toInt64 else if a0 = (2 : Int32) then some ((a1).toInt32).toInt64 else if a0 = (3 : Int32) then some a1 else gz_jn (fun (x1 : Int64) =>
  some x1) fun j59 =>
  if (lg_cmp a1 (0 : Int64)) = 0 then
    j59 (0 : Int64)
  else
    j59 (1 : Int64)

set_option maxHeartbeats 4000000 in
theorem ct_X10_fit (l : Launch) (G : gz_G) (fu : Nat) (M : gz_M) (a0 : Int32) (a1 : Int64) (y : Int64) (hF : f_X10_fit fu M a0 a1 = some y) : gz_ct l yX10_fit cX10_fit 3 (some .long) 0 0 0 0 G [.int a0, .long a1] M (some (.long y)) M := by
  refine gz_ct.of (by decide) (Nat.le_of_ble_eq_true rfl) (fun C hC hX => ?_)
  unfold f_X10_fit at hF
  show gz_go C 0 0 M [(0, .int a0), (1, .long a1)] 0 []
  refine gz_iload_n 0 hC 0 dX10_fit_0 rfl rfl ?_
  refine gz_cse hF (fun e0 hF => ?_) (fun e0 hF => ?_)
  · skip
    refine gz_tin 1 32 hC (off := 31) dX10_fit_1 e0 (by decide) (by decide) (by decide) ?_
    refine gz_lload_n 32 hC 1 dX10_fit_32 rfl rfl ?_
    refine gz_l2i 33 hC dX10_fit_33 ?_
    refine gz_i2b 34 hC dX10_fit_34 ?_
    refine gz_i2l 35 hC dX10_fit_35 ?_
    exact gz_lretP 36 hC hX dX10_fit_36 hF
  refine gz_cse hF (fun e1 hF => ?_) (fun e1 hF => ?_)
  · skip
    refine gz_tin 1 37 hC (off := 36) dX10_fit_1 e1 (by decide) (by decide) (by decide) ?_
    refine gz_lload_n 37 hC 1 dX10_fit_37 rfl rfl ?_
    refine gz_l2i 38 hC dX10_fit_38 ?_
    refine gz_i2s 39 hC dX10_fit_39 ?_
    refine gz_i2l 40 hC dX10_fit_40 ?_
    exact gz_lretP 41 hC hX dX10_fit_41 hF
  refine gz_cse hF (fun e2 hF => ?_) (fun e2 hF => ?_)
  · skip
    refine gz_tin 1 42 hC (off := 41) dX10_fit_1 e2 (by decide) (by decide) (by decide) ?_
    refine gz_lload_n 42 hC 1 dX10_fit_42 rfl rfl ?_
    refine gz_l2i 43 hC dX10_fit_43 ?_
    refine gz_i2l 44 hC dX10_fit_44 ?_
    exact gz_lretP 45 hC hX dX10_fit_45 hF
  refine gz_cse hF (fun e3 hF => ?_) (fun e3 hF => ?_)
  · skip
    refine gz_tin 1 46 hC (off := 45) dX10_fit_1 e3 (by decide) (by decide) (by decide) ?_
    refine gz_lload_n 46 hC 1 dX10_fit_46 rfl rfl ?_
    exact gz_lretP 47 hC hX dX10_fit_47 hF
  refine gz_tout 1 48 hC dX10_fit_1 (by have h0 := lv_neT (a := 0) e0 (by decide); have h1 := lv_neT (a := 1) e1 (by decide); have h2 := lv_neT (a := 2) e2 (by decide); have h3 := lv_neT (a := 3) e3 (by decide); omega) (by decide) ?_
  refine gz_lload_n 48 hC 1 dX10_fit_48 rfl rfl ?_
  refine gz_lconst 49 hC (0 : Int64) dX10_fit_49 gz_l0 ?_
  refine gz_lcmp 50 hC dX10_fit_50 ?_
  refine gz_join (fun (j : Int64 → Option (Int64)) => ∀ (x1 : Int64), j x1 = some y → gz_go C 0 0 M [] 59 [.long x1]) hF (fun x1 hF => ?_) (fun j59 hj59 hF => ?_)
  · skip
    exact gz_lretP 59 hC hX dX10_fit_59 hF
  refine gz_if_eq 51 58 hC dX10_fit_51 (by decide) hF (fun hF => ?_) (fun hF => ?_)
  · skip
    refine gz_lconst 58 hC (0 : Int64) dX10_fit_58 gz_l0 ?_
    refine gz_sub [] [] rfl ?_
    exact hj59 _ hF
  · skip
    refine gz_lconst 54 hC (1 : Int64) dX10_fit_54 gz_l1 ?_
    refine gz_goto 55 59 hC dX10_fit_55 (by decide) ?_
    refine gz_sub [] [] rfl ?_
    exact hj59 _ hF

theorem dX10_set_0 : decode cX10_set 0 = .ok (.iload_n 1, 1) := by decide +kernel
theorem dX10_set_1 : decode cX10_set 1 = .ok (.i2l, 1) := by decide +kernel
theorem dX10_set_2 : decode cX10_set 2 = .ok (.lconst 0, 1) := by decide +kernel
theorem dX10_set_3 : decode cX10_set 3 = .ok (.ldc2_w 91, 3) := by decide +kernel
theorem dX10_set_6 : decode cX10_set 6 = .ok (.invokestatic 73, 3) := by decide +kernel
theorem dX10_set_9 : decode cX10_set 9 = .ok (.ifCond .ne 10, 3) := by decide +kernel
theorem dX10_set_12 : decode cX10_set 12 = .ok (.aload_n 0, 1) := by decide +kernel
theorem dX10_set_13 : decode cX10_set 13 = .ok (.bipush (-2), 2) := by decide +kernel
theorem dX10_set_15 : decode cX10_set 15 = .ok (.invokevirtual 97, 3) := by decide +kernel
theorem dX10_set_18 : decode cX10_set 18 = .ok (.ireturn, 1) := by decide +kernel
theorem dX10_set_19 : decode cX10_set 19 = .ok (.aload_n 0, 1) := by decide +kernel
theorem dX10_set_20 : decode cX10_set 20 = .ok (.getfield 7, 3) := by decide +kernel
theorem dX10_set_23 : decode cX10_set 23 = .ok (.iload_n 1, 1) := by decide +kernel
theorem dX10_set_24 : decode cX10_set 24 = .ok (.iaload, 1) := by decide +kernel
theorem dX10_set_25 : decode cX10_set 25 = .ok (.iconst 2, 1) := by decide +kernel
theorem dX10_set_26 : decode cX10_set 26 = .ok (.if_icmp .ne 10, 3) := by decide +kernel
theorem dX10_set_29 : decode cX10_set 29 = .ok (.aload_n 0, 1) := by decide +kernel
theorem dX10_set_30 : decode cX10_set 30 = .ok (.bipush (-3), 2) := by decide +kernel
theorem dX10_set_32 : decode cX10_set 32 = .ok (.invokevirtual 97, 3) := by decide +kernel
theorem dX10_set_35 : decode cX10_set 35 = .ok (.ireturn, 1) := by decide +kernel
theorem dX10_set_36 : decode cX10_set 36 = .ok (.aload_n 0, 1) := by decide +kernel
theorem dX10_set_37 : decode cX10_set 37 = .ok (.getfield 7, 3) := by decide +kernel
theorem dX10_set_40 : decode cX10_set 40 = .ok (.iload_n 1, 1) := by decide +kernel
theorem dX10_set_41 : decode cX10_set 41 = .ok (.iaload, 1) := by decide +kernel
theorem dX10_set_42 : decode cX10_set 42 = .ok (.ifCond .ne 10, 3) := by decide +kernel
theorem dX10_set_45 : decode cX10_set 45 = .ok (.aload_n 0, 1) := by decide +kernel
theorem dX10_set_46 : decode cX10_set 46 = .ok (.bipush (-4), 2) := by decide +kernel
theorem dX10_set_48 : decode cX10_set 48 = .ok (.invokevirtual 97, 3) := by decide +kernel
theorem dX10_set_51 : decode cX10_set 51 = .ok (.ireturn, 1) := by decide +kernel
theorem dX10_set_52 : decode cX10_set 52 = .ok (.iload_n 2, 1) := by decide +kernel
theorem dX10_set_53 : decode cX10_set 53 = .ok (.i2l, 1) := by decide +kernel
theorem dX10_set_54 : decode cX10_set 54 = .ok (.lconst 0, 1) := by decide +kernel
theorem dX10_set_55 : decode cX10_set 55 = .ok (.aload_n 0, 1) := by decide +kernel
theorem dX10_set_56 : decode cX10_set 56 = .ok (.getfield 16, 3) := by decide +kernel
theorem dX10_set_59 : decode cX10_set 59 = .ok (.iload_n 1, 1) := by decide +kernel
theorem dX10_set_60 : decode cX10_set 60 = .ok (.iaload, 1) := by decide +kernel
theorem dX10_set_61 : decode cX10_set 61 = .ok (.iconst 1, 1) := by decide +kernel
theorem dX10_set_62 : decode cX10_set 62 = .ok (.isub, 1) := by decide +kernel
theorem dX10_set_63 : decode cX10_set 63 = .ok (.i2l, 1) := by decide +kernel
theorem dX10_set_64 : decode cX10_set 64 = .ok (.invokestatic 73, 3) := by decide +kernel
theorem dX10_set_67 : decode cX10_set 67 = .ok (.ifCond .ne 10, 3) := by decide +kernel
theorem dX10_set_70 : decode cX10_set 70 = .ok (.aload_n 0, 1) := by decide +kernel
theorem dX10_set_71 : decode cX10_set 71 = .ok (.bipush (-2), 2) := by decide +kernel
theorem dX10_set_73 : decode cX10_set 73 = .ok (.invokevirtual 97, 3) := by decide +kernel
theorem dX10_set_76 : decode cX10_set 76 = .ok (.ireturn, 1) := by decide +kernel
theorem dX10_set_77 : decode cX10_set 77 = .ok (.aload_n 0, 1) := by decide +kernel
theorem dX10_set_78 : decode cX10_set 78 = .ok (.getfield 21, 3) := by decide +kernel
theorem dX10_set_81 : decode cX10_set 81 = .ok (.iload_n 1, 1) := by decide +kernel
theorem dX10_set_82 : decode cX10_set 82 = .ok (.aaload, 1) := by decide +kernel
theorem dX10_set_83 : decode cX10_set 83 = .ok (.iload_n 2, 1) := by decide +kernel
theorem dX10_set_84 : decode cX10_set 84 = .ok (.aload_n 0, 1) := by decide +kernel
theorem dX10_set_85 : decode cX10_set 85 = .ok (.getfield 13, 3) := by decide +kernel
theorem dX10_set_88 : decode cX10_set 88 = .ok (.iload_n 1, 1) := by decide +kernel
theorem dX10_set_89 : decode cX10_set 89 = .ok (.iaload, 1) := by decide +kernel
theorem dX10_set_90 : decode cX10_set 90 = .ok (.lload_n 3, 1) := by decide +kernel
theorem dX10_set_91 : decode cX10_set 91 = .ok (.invokestatic 100, 3) := by decide +kernel
theorem dX10_set_94 : decode cX10_set 94 = .ok (.lastore, 1) := by decide +kernel
theorem dX10_set_95 : decode cX10_set 95 = .ok (.iconst 1, 1) := by decide +kernel
theorem dX10_set_96 : decode cX10_set 96 = .ok (.ireturn, 1) := by decide +kernel

def f_X10_set (fu : Nat) (M : gz_M) (a0 : Nat) (a1 : Int32) (a2 : Int32) (a3 : Int64) : Option (Int32 × gz_M) :=
  gz_gd M 10 a0 <|
  (f_X10_in fu M (a1).toInt64 (0 : Int64) (7 : Int64)).bind fun x1 =>
  if x1 = 0 then
    gz_b2 (f_X10_refuse fu M a0 (-2 : Int32)) fun x2 M3 =>
    some (x2, M3)
  else
    (gz_gR M 10 0 a0).bind fun x4 =>
    (gz_aI M x4 a1).bind fun x5 =>
    if x5 = (2 : Int32) then
      gz_b2 (f_X10_refuse fu M a0 (-3 : Int32)) fun x6 M7 =>
      some (x6, M7)
    else
      (gz_gR M 10 0 a0).bind fun x8 =>
      (gz_aI M x8 a1).bind fun x9 =>
      if x9 = 0 then
        gz_b2 (f_X10_refuse fu M a0 (-4 : Int32)) fun x10 M11 =>
        some (x10, M11)
      else
        (gz_gR M 10 2 a0).bind fun x12 =>
        (gz_aI M x12 a1).bind fun x13 =>
        (f_X10_in fu M (a2).toInt64 (0 : Int64) ((x13 - (1 : Int32))).toInt64).bind fun x14 =>
        if x14 = 0 then
          gz_b2 (f_X10_refuse fu M a0 (-2 : Int32)) fun x15 M16 =>
          some (x15, M16)
        else
          (gz_gR M 10 3 a0).bind fun x17 =>
          (gz_aR M x17 a1).bind fun x18 =>
          (gz_gR M 10 1 a0).bind fun x19 =>
          (gz_aI M x19 a1).bind fun x20 =>
          (f_X10_fit fu M x20 a3).bind fun x21 =>
          (gz_tL M x18 a2 x21).bind fun M22 =>
          some ((1 : Int32), M22)

set_option maxHeartbeats 4000000 in
theorem ct_X10_set (l : Launch) (G : gz_G) (fu : Nat) (M : gz_M) (a0 : Nat) (a1 : Int32) (a2 : Int32) (a3 : Int64) (y : Int32 × gz_M) (hF : f_X10_set fu M a0 a1 a2 a3 = some y) : gz_ct l yX10_set cX10_set 5 (some .int) 1 25 0 0 G [.ref a0, .int a1, .int a2, .long a3] M (some (.int y.1)) y.2 := by
  refine gz_ct.of (by decide) (Nat.le_of_ble_eq_true rfl) (fun C hC hX => ?_)
  unfold f_X10_set at hF
  obtain ⟨-, hF⟩ := gz_gd_some hF
  show gz_go C 0 0 M [(0, .ref a0), (1, .int a1), (2, .int a2), (3, .long a3)] 0 []
  refine gz_iload_n 0 hC 1 dX10_set_0 rfl rfl ?_
  refine gz_i2l 1 hC dX10_set_1 ?_
  refine gz_lconst 2 hC (0 : Int64) dX10_set_2 gz_l0 ?_
  refine gz_ldc2 3 hC dX10_set_3 q_1169 ?_
  refine gz_csP (st := []) 6 hC hX [.long (a1).toInt64, .long (0 : Int64), .long (7 : Int64)] Value.int yl_X10_in yv_X10_in q_1170 ⟨Nat.le_of_ble_eq_true rfl, Nat.le_of_ble_eq_true rfl⟩ (fun r h => ct_X10_in _ _ fu M (a1).toInt64 (0 : Int64) (7 : Int64) r h) rfl rfl (Nat.le_of_ble_eq_true rfl) dX10_set_6 gz_00 hF (fun x1 hF => ?_)
  refine gz_if_ne 9 19 hC dX10_set_9 (by decide) hF (fun hF => ?_) (fun hF => ?_)
  · skip
    refine gz_aload_n 19 hC 0 dX10_set_19 rfl rfl ?_
    refine gz_getR 20 hC fl_X10_7 fk_10_0 dX10_set_20 hF (fun x4 hF => ?_)
    refine gz_iload_n 23 hC 1 dX10_set_23 rfl rfl ?_
    refine gz_iald 24 hC dX10_set_24 hF (fun x5 hF => ?_)
    refine gz_iconst 25 hC (2 : Int32) dX10_set_25 gz_k2 ?_
    refine gz_icmp_ne 26 36 hC dX10_set_26 (by decide) hF (fun hF => ?_) (fun hF => ?_)
    · skip
      refine gz_aload_n 36 hC 0 dX10_set_36 rfl rfl ?_
      refine gz_getR 37 hC fl_X10_7 fk_10_0 dX10_set_37 hF (fun x8 hF => ?_)
      refine gz_iload_n 40 hC 1 dX10_set_40 rfl rfl ?_
      refine gz_iald 41 hC dX10_set_41 hF (fun x9 hF => ?_)
      refine gz_if_ne 42 52 hC dX10_set_42 (by decide) hF (fun hF => ?_) (fun hF => ?_)
      · skip
        refine gz_iload_n 52 hC 2 dX10_set_52 rfl rfl ?_
        refine gz_i2l 53 hC dX10_set_53 ?_
        refine gz_lconst 54 hC (0 : Int64) dX10_set_54 gz_l0 ?_
        refine gz_aload_n 55 hC 0 dX10_set_55 rfl rfl ?_
        refine gz_getR 56 hC fl_X10_16 fk_10_2 dX10_set_56 hF (fun x12 hF => ?_)
        refine gz_iload_n 59 hC 1 dX10_set_59 rfl rfl ?_
        refine gz_iald 60 hC dX10_set_60 hF (fun x13 hF => ?_)
        refine gz_iconst 61 hC (1 : Int32) dX10_set_61 gz_k1 ?_
        refine gz_isub 62 hC dX10_set_62 ?_
        refine gz_i2l 63 hC dX10_set_63 ?_
        refine gz_csP (st := []) 64 hC hX [.long (a2).toInt64, .long (0 : Int64), .long ((x13 - (1 : Int32))).toInt64] Value.int yl_X10_in yv_X10_in q_1170 ⟨Nat.le_of_ble_eq_true rfl, Nat.le_of_ble_eq_true rfl⟩ (fun r h => ct_X10_in _ _ fu M (a2).toInt64 (0 : Int64) ((x13 - (1 : Int32))).toInt64 r h) rfl rfl (Nat.le_of_ble_eq_true rfl) dX10_set_64 gz_00 hF (fun x14 hF => ?_)
        refine gz_if_ne 67 77 hC dX10_set_67 (by decide) hF (fun hF => ?_) (fun hF => ?_)
        · skip
          refine gz_aload_n 77 hC 0 dX10_set_77 rfl rfl ?_
          refine gz_getR 78 hC fl_X10_21 fk_10_3 dX10_set_78 hF (fun x17 hF => ?_)
          refine gz_iload_n 81 hC 1 dX10_set_81 rfl rfl ?_
          refine gz_aald 82 hC dX10_set_82 hF (fun x18 hF => ?_)
          refine gz_iload_n 83 hC 2 dX10_set_83 rfl rfl ?_
          refine gz_aload_n 84 hC 0 dX10_set_84 rfl rfl ?_
          refine gz_getR 85 hC fl_X10_13 fk_10_1 dX10_set_85 hF (fun x19 hF => ?_)
          refine gz_iload_n 88 hC 1 dX10_set_88 rfl rfl ?_
          refine gz_iald 89 hC dX10_set_89 hF (fun x20 hF => ?_)
          refine gz_lload_n 90 hC 3 dX10_set_90 rfl rfl ?_
          refine gz_csP (st := [.int a2, .ref x18]) 91 hC hX [.int x20, .long a3] Value.long yl_X10_fit yv_X10_fit q_1183 ⟨Nat.le_of_ble_eq_true rfl, Nat.le_of_ble_eq_true rfl⟩ (fun r h => ct_X10_fit _ _ fu M x20 a3 r h) rfl rfl (Nat.le_of_ble_eq_true rfl) dX10_set_91 gz_00 hF (fun x21 hF => ?_)
          refine gz_last 94 hC dX10_set_94 hF (fun M22 hF => ?_)
          refine gz_iconst 95 hC (1 : Int32) dX10_set_95 gz_k1 ?_
          exact gz_iretM 96 hC hX dX10_set_96 hF
        · skip
          refine gz_aload_n 70 hC 0 dX10_set_70 rfl rfl ?_
          refine gz_bipush 71 hC (-2 : Int32) dX10_set_71 gz_bm2 ?_
          refine gz_cvM (st := []) 73 hC hX [.int (-2 : Int32)] Value.int yl_X10_refuse yv_X10_refuse q_1175 ⟨Nat.le_of_ble_eq_true rfl, Nat.le_of_ble_eq_true rfl⟩ ⟨_, rfl⟩ (fun r h => ct_X10_refuse _ _ fu M a0 (-2 : Int32) r h) rfl rfl (Nat.le_of_ble_eq_true rfl) dX10_set_73 gz_00 hF (fun x15 M16 hF => ?_)
          exact gz_iretM 76 hC hX dX10_set_76 hF
      · skip
        refine gz_aload_n 45 hC 0 dX10_set_45 rfl rfl ?_
        refine gz_bipush 46 hC (-4 : Int32) dX10_set_46 gz_bm4 ?_
        refine gz_cvM (st := []) 48 hC hX [.int (-4 : Int32)] Value.int yl_X10_refuse yv_X10_refuse q_1175 ⟨Nat.le_of_ble_eq_true rfl, Nat.le_of_ble_eq_true rfl⟩ ⟨_, rfl⟩ (fun r h => ct_X10_refuse _ _ fu M a0 (-4 : Int32) r h) rfl rfl (Nat.le_of_ble_eq_true rfl) dX10_set_48 gz_00 hF (fun x10 M11 hF => ?_)
        exact gz_iretM 51 hC hX dX10_set_51 hF
    · skip
      refine gz_aload_n 29 hC 0 dX10_set_29 rfl rfl ?_
      refine gz_bipush 30 hC (-3 : Int32) dX10_set_30 gz_bm3 ?_
      refine gz_cvM (st := []) 32 hC hX [.int (-3 : Int32)] Value.int yl_X10_refuse yv_X10_refuse q_1175 ⟨Nat.le_of_ble_eq_true rfl, Nat.le_of_ble_eq_true rfl⟩ ⟨_, rfl⟩ (fun r h => ct_X10_refuse _ _ fu M a0 (-3 : Int32) r h) rfl rfl (Nat.le_of_ble_eq_true rfl) dX10_set_32 gz_00 hF (fun x6 M7 hF => ?_)
      exact gz_iretM 35 hC hX dX10_set_35 hF
  · skip
    refine gz_aload_n 12 hC 0 dX10_set_12 rfl rfl ?_
    refine gz_bipush 13 hC (-2 : Int32) dX10_set_13 gz_bm2 ?_
    refine gz_cvM (st := []) 15 hC hX [.int (-2 : Int32)] Value.int yl_X10_refuse yv_X10_refuse q_1175 ⟨Nat.le_of_ble_eq_true rfl, Nat.le_of_ble_eq_true rfl⟩ ⟨_, rfl⟩ (fun r h => ct_X10_refuse _ _ fu M a0 (-2 : Int32) r h) rfl rfl (Nat.le_of_ble_eq_true rfl) dX10_set_15 gz_00 hF (fun x2 M3 hF => ?_)
    exact gz_iretM 18 hC hX dX10_set_18 hF

theorem dX10_copy_0 : decode cX10_copy 0 = .ok (.iload_n 1, 1) := by decide +kernel
theorem dX10_copy_1 : decode cX10_copy 1 = .ok (.i2l, 1) := by decide +kernel
theorem dX10_copy_2 : decode cX10_copy 2 = .ok (.lconst 0, 1) := by decide +kernel
theorem dX10_copy_3 : decode cX10_copy 3 = .ok (.ldc2_w 91, 3) := by decide +kernel
theorem dX10_copy_6 : decode cX10_copy 6 = .ok (.invokestatic 73, 3) := by decide +kernel
theorem dX10_copy_9 : decode cX10_copy 9 = .ok (.ifCond .eq 15, 3) := by decide +kernel
theorem dX10_copy_12 : decode cX10_copy 12 = .ok (.iload_n 2, 1) := by decide +kernel
theorem dX10_copy_13 : decode cX10_copy 13 = .ok (.i2l, 1) := by decide +kernel
theorem dX10_copy_14 : decode cX10_copy 14 = .ok (.lconst 0, 1) := by decide +kernel
theorem dX10_copy_15 : decode cX10_copy 15 = .ok (.ldc2_w 91, 3) := by decide +kernel
theorem dX10_copy_18 : decode cX10_copy 18 = .ok (.invokestatic 73, 3) := by decide +kernel
theorem dX10_copy_21 : decode cX10_copy 21 = .ok (.ifCond .ne 10, 3) := by decide +kernel
theorem dX10_copy_24 : decode cX10_copy 24 = .ok (.aload_n 0, 1) := by decide +kernel
theorem dX10_copy_25 : decode cX10_copy 25 = .ok (.bipush (-2), 2) := by decide +kernel
theorem dX10_copy_27 : decode cX10_copy 27 = .ok (.invokevirtual 97, 3) := by decide +kernel
theorem dX10_copy_30 : decode cX10_copy 30 = .ok (.ireturn, 1) := by decide +kernel
theorem dX10_copy_31 : decode cX10_copy 31 = .ok (.aload_n 0, 1) := by decide +kernel
theorem dX10_copy_32 : decode cX10_copy 32 = .ok (.getfield 7, 3) := by decide +kernel
theorem dX10_copy_35 : decode cX10_copy 35 = .ok (.iload_n 1, 1) := by decide +kernel
theorem dX10_copy_36 : decode cX10_copy 36 = .ok (.iaload, 1) := by decide +kernel
theorem dX10_copy_37 : decode cX10_copy 37 = .ok (.iconst 2, 1) := by decide +kernel
theorem dX10_copy_38 : decode cX10_copy 38 = .ok (.if_icmp .eq 48, 3) := by decide +kernel
theorem dX10_copy_41 : decode cX10_copy 41 = .ok (.aload_n 0, 1) := by decide +kernel
theorem dX10_copy_42 : decode cX10_copy 42 = .ok (.getfield 7, 3) := by decide +kernel
theorem dX10_copy_45 : decode cX10_copy 45 = .ok (.iload_n 2, 1) := by decide +kernel
theorem dX10_copy_46 : decode cX10_copy 46 = .ok (.iaload, 1) := by decide +kernel
theorem dX10_copy_47 : decode cX10_copy 47 = .ok (.iconst 2, 1) := by decide +kernel
theorem dX10_copy_48 : decode cX10_copy 48 = .ok (.if_icmp .eq 38, 3) := by decide +kernel
theorem dX10_copy_51 : decode cX10_copy 51 = .ok (.aload_n 0, 1) := by decide +kernel
theorem dX10_copy_52 : decode cX10_copy 52 = .ok (.getfield 7, 3) := by decide +kernel
theorem dX10_copy_55 : decode cX10_copy 55 = .ok (.iload_n 1, 1) := by decide +kernel
theorem dX10_copy_56 : decode cX10_copy 56 = .ok (.iaload, 1) := by decide +kernel
theorem dX10_copy_57 : decode cX10_copy 57 = .ok (.iconst 1, 1) := by decide +kernel
theorem dX10_copy_58 : decode cX10_copy 58 = .ok (.if_icmp .ne 35, 3) := by decide +kernel
theorem dX10_copy_61 : decode cX10_copy 61 = .ok (.aload_n 0, 1) := by decide +kernel
theorem dX10_copy_62 : decode cX10_copy 62 = .ok (.getfield 7, 3) := by decide +kernel
theorem dX10_copy_65 : decode cX10_copy 65 = .ok (.iload_n 2, 1) := by decide +kernel
theorem dX10_copy_66 : decode cX10_copy 66 = .ok (.iaload, 1) := by decide +kernel
theorem dX10_copy_67 : decode cX10_copy 67 = .ok (.iconst 1, 1) := by decide +kernel
theorem dX10_copy_68 : decode cX10_copy 68 = .ok (.if_icmp .ne 25, 3) := by decide +kernel
theorem dX10_copy_71 : decode cX10_copy 71 = .ok (.aload_n 0, 1) := by decide +kernel
theorem dX10_copy_72 : decode cX10_copy 72 = .ok (.getfield 13, 3) := by decide +kernel
theorem dX10_copy_75 : decode cX10_copy 75 = .ok (.iload_n 1, 1) := by decide +kernel
theorem dX10_copy_76 : decode cX10_copy 76 = .ok (.iaload, 1) := by decide +kernel
theorem dX10_copy_77 : decode cX10_copy 77 = .ok (.aload_n 0, 1) := by decide +kernel
theorem dX10_copy_78 : decode cX10_copy 78 = .ok (.getfield 13, 3) := by decide +kernel
theorem dX10_copy_81 : decode cX10_copy 81 = .ok (.iload_n 2, 1) := by decide +kernel
theorem dX10_copy_82 : decode cX10_copy 82 = .ok (.iaload, 1) := by decide +kernel
theorem dX10_copy_83 : decode cX10_copy 83 = .ok (.if_icmp .eq 10, 3) := by decide +kernel
theorem dX10_copy_86 : decode cX10_copy 86 = .ok (.aload_n 0, 1) := by decide +kernel
theorem dX10_copy_87 : decode cX10_copy 87 = .ok (.bipush (-3), 2) := by decide +kernel
theorem dX10_copy_89 : decode cX10_copy 89 = .ok (.invokevirtual 97, 3) := by decide +kernel
theorem dX10_copy_92 : decode cX10_copy 92 = .ok (.ireturn, 1) := by decide +kernel
theorem dX10_copy_93 : decode cX10_copy 93 = .ok (.aload_n 0, 1) := by decide +kernel
theorem dX10_copy_94 : decode cX10_copy 94 = .ok (.getfield 7, 3) := by decide +kernel
theorem dX10_copy_97 : decode cX10_copy 97 = .ok (.iload_n 1, 1) := by decide +kernel
theorem dX10_copy_98 : decode cX10_copy 98 = .ok (.iaload, 1) := by decide +kernel
theorem dX10_copy_99 : decode cX10_copy 99 = .ok (.ifCond .eq 12, 3) := by decide +kernel
theorem dX10_copy_102 : decode cX10_copy 102 = .ok (.aload_n 0, 1) := by decide +kernel
theorem dX10_copy_103 : decode cX10_copy 103 = .ok (.getfield 7, 3) := by decide +kernel
theorem dX10_copy_106 : decode cX10_copy 106 = .ok (.iload_n 2, 1) := by decide +kernel
theorem dX10_copy_107 : decode cX10_copy 107 = .ok (.iaload, 1) := by decide +kernel
theorem dX10_copy_108 : decode cX10_copy 108 = .ok (.ifCond .ne 10, 3) := by decide +kernel
theorem dX10_copy_111 : decode cX10_copy 111 = .ok (.aload_n 0, 1) := by decide +kernel
theorem dX10_copy_112 : decode cX10_copy 112 = .ok (.bipush (-4), 2) := by decide +kernel
theorem dX10_copy_114 : decode cX10_copy 114 = .ok (.invokevirtual 97, 3) := by decide +kernel
theorem dX10_copy_117 : decode cX10_copy 117 = .ok (.ireturn, 1) := by decide +kernel
theorem dX10_copy_118 : decode cX10_copy 118 = .ok (.iload 5, 2) := by decide +kernel
theorem dX10_copy_120 : decode cX10_copy 120 = .ok (.ifCond .lt 61, 3) := by decide +kernel
theorem dX10_copy_123 : decode cX10_copy 123 = .ok (.iload_n 3, 1) := by decide +kernel
theorem dX10_copy_124 : decode cX10_copy 124 = .ok (.ifCond .lt 57, 3) := by decide +kernel
theorem dX10_copy_127 : decode cX10_copy 127 = .ok (.iload 4, 2) := by decide +kernel
theorem dX10_copy_129 : decode cX10_copy 129 = .ok (.ifCond .lt 52, 3) := by decide +kernel
theorem dX10_copy_132 : decode cX10_copy 132 = .ok (.iload 5, 2) := by decide +kernel
theorem dX10_copy_134 : decode cX10_copy 134 = .ok (.aload_n 0, 1) := by decide +kernel
theorem dX10_copy_135 : decode cX10_copy 135 = .ok (.getfield 16, 3) := by decide +kernel
theorem dX10_copy_138 : decode cX10_copy 138 = .ok (.iload_n 1, 1) := by decide +kernel
theorem dX10_copy_139 : decode cX10_copy 139 = .ok (.iaload, 1) := by decide +kernel
theorem dX10_copy_140 : decode cX10_copy 140 = .ok (.if_icmp .gt 41, 3) := by decide +kernel
theorem dX10_copy_143 : decode cX10_copy 143 = .ok (.iload 5, 2) := by decide +kernel
theorem dX10_copy_145 : decode cX10_copy 145 = .ok (.aload_n 0, 1) := by decide +kernel
theorem dX10_copy_146 : decode cX10_copy 146 = .ok (.getfield 16, 3) := by decide +kernel
theorem dX10_copy_149 : decode cX10_copy 149 = .ok (.iload_n 2, 1) := by decide +kernel
theorem dX10_copy_150 : decode cX10_copy 150 = .ok (.iaload, 1) := by decide +kernel
theorem dX10_copy_151 : decode cX10_copy 151 = .ok (.if_icmp .gt 30, 3) := by decide +kernel
theorem dX10_copy_154 : decode cX10_copy 154 = .ok (.iload_n 3, 1) := by decide +kernel
theorem dX10_copy_155 : decode cX10_copy 155 = .ok (.aload_n 0, 1) := by decide +kernel
theorem dX10_copy_156 : decode cX10_copy 156 = .ok (.getfield 16, 3) := by decide +kernel
theorem dX10_copy_159 : decode cX10_copy 159 = .ok (.iload_n 1, 1) := by decide +kernel
theorem dX10_copy_160 : decode cX10_copy 160 = .ok (.iaload, 1) := by decide +kernel
theorem dX10_copy_161 : decode cX10_copy 161 = .ok (.iload 5, 2) := by decide +kernel
theorem dX10_copy_163 : decode cX10_copy 163 = .ok (.isub, 1) := by decide +kernel
theorem dX10_copy_164 : decode cX10_copy 164 = .ok (.if_icmp .gt 17, 3) := by decide +kernel
theorem dX10_copy_167 : decode cX10_copy 167 = .ok (.iload 4, 2) := by decide +kernel
theorem dX10_copy_169 : decode cX10_copy 169 = .ok (.aload_n 0, 1) := by decide +kernel
theorem dX10_copy_170 : decode cX10_copy 170 = .ok (.getfield 16, 3) := by decide +kernel
theorem dX10_copy_173 : decode cX10_copy 173 = .ok (.iload_n 2, 1) := by decide +kernel
theorem dX10_copy_174 : decode cX10_copy 174 = .ok (.iaload, 1) := by decide +kernel
theorem dX10_copy_175 : decode cX10_copy 175 = .ok (.iload 5, 2) := by decide +kernel
theorem dX10_copy_177 : decode cX10_copy 177 = .ok (.isub, 1) := by decide +kernel
theorem dX10_copy_178 : decode cX10_copy 178 = .ok (.if_icmp .le 10, 3) := by decide +kernel
theorem dX10_copy_181 : decode cX10_copy 181 = .ok (.aload_n 0, 1) := by decide +kernel
theorem dX10_copy_182 : decode cX10_copy 182 = .ok (.bipush (-2), 2) := by decide +kernel
theorem dX10_copy_184 : decode cX10_copy 184 = .ok (.invokevirtual 97, 3) := by decide +kernel
theorem dX10_copy_187 : decode cX10_copy 187 = .ok (.ireturn, 1) := by decide +kernel
theorem dX10_copy_188 : decode cX10_copy 188 = .ok (.iconst 0, 1) := by decide +kernel
theorem dX10_copy_189 : decode cX10_copy 189 = .ok (.istore 6, 2) := by decide +kernel
theorem dX10_copy_191 : decode cX10_copy 191 = .ok (.iload 6, 2) := by decide +kernel
theorem dX10_copy_193 : decode cX10_copy 193 = .ok (.iload 5, 2) := by decide +kernel
theorem dX10_copy_195 : decode cX10_copy 195 = .ok (.if_icmp .ge 27, 3) := by decide +kernel
theorem dX10_copy_198 : decode cX10_copy 198 = .ok (.aload_n 0, 1) := by decide +kernel
theorem dX10_copy_199 : decode cX10_copy 199 = .ok (.getfield 24, 3) := by decide +kernel
theorem dX10_copy_202 : decode cX10_copy 202 = .ok (.iload 6, 2) := by decide +kernel
theorem dX10_copy_204 : decode cX10_copy 204 = .ok (.aload_n 0, 1) := by decide +kernel
theorem dX10_copy_205 : decode cX10_copy 205 = .ok (.getfield 21, 3) := by decide +kernel
theorem dX10_copy_208 : decode cX10_copy 208 = .ok (.iload_n 1, 1) := by decide +kernel
theorem dX10_copy_209 : decode cX10_copy 209 = .ok (.aaload, 1) := by decide +kernel
theorem dX10_copy_210 : decode cX10_copy 210 = .ok (.iload_n 3, 1) := by decide +kernel
theorem dX10_copy_211 : decode cX10_copy 211 = .ok (.iload 6, 2) := by decide +kernel
theorem dX10_copy_213 : decode cX10_copy 213 = .ok (.iadd, 1) := by decide +kernel
theorem dX10_copy_214 : decode cX10_copy 214 = .ok (.laload, 1) := by decide +kernel
theorem dX10_copy_215 : decode cX10_copy 215 = .ok (.lastore, 1) := by decide +kernel
theorem dX10_copy_216 : decode cX10_copy 216 = .ok (.iinc 6 1, 3) := by decide +kernel
theorem dX10_copy_219 : decode cX10_copy 219 = .ok (.goto (-28), 3) := by decide +kernel
theorem dX10_copy_222 : decode cX10_copy 222 = .ok (.iconst 0, 1) := by decide +kernel
theorem dX10_copy_223 : decode cX10_copy 223 = .ok (.istore 6, 2) := by decide +kernel
theorem dX10_copy_225 : decode cX10_copy 225 = .ok (.iload 6, 2) := by decide +kernel
theorem dX10_copy_227 : decode cX10_copy 227 = .ok (.iload 5, 2) := by decide +kernel
theorem dX10_copy_229 : decode cX10_copy 229 = .ok (.if_icmp .ge 28, 3) := by decide +kernel
theorem dX10_copy_232 : decode cX10_copy 232 = .ok (.aload_n 0, 1) := by decide +kernel
theorem dX10_copy_233 : decode cX10_copy 233 = .ok (.getfield 21, 3) := by decide +kernel
theorem dX10_copy_236 : decode cX10_copy 236 = .ok (.iload_n 2, 1) := by decide +kernel
theorem dX10_copy_237 : decode cX10_copy 237 = .ok (.aaload, 1) := by decide +kernel
theorem dX10_copy_238 : decode cX10_copy 238 = .ok (.iload 4, 2) := by decide +kernel
theorem dX10_copy_240 : decode cX10_copy 240 = .ok (.iload 6, 2) := by decide +kernel
theorem dX10_copy_242 : decode cX10_copy 242 = .ok (.iadd, 1) := by decide +kernel
theorem dX10_copy_243 : decode cX10_copy 243 = .ok (.aload_n 0, 1) := by decide +kernel
theorem dX10_copy_244 : decode cX10_copy 244 = .ok (.getfield 24, 3) := by decide +kernel
theorem dX10_copy_247 : decode cX10_copy 247 = .ok (.iload 6, 2) := by decide +kernel
theorem dX10_copy_249 : decode cX10_copy 249 = .ok (.laload, 1) := by decide +kernel
theorem dX10_copy_250 : decode cX10_copy 250 = .ok (.lastore, 1) := by decide +kernel
theorem dX10_copy_251 : decode cX10_copy 251 = .ok (.iinc 6 1, 3) := by decide +kernel
theorem dX10_copy_254 : decode cX10_copy 254 = .ok (.goto (-29), 3) := by decide +kernel
theorem dX10_copy_257 : decode cX10_copy 257 = .ok (.iload 5, 2) := by decide +kernel
theorem dX10_copy_259 : decode cX10_copy 259 = .ok (.ireturn, 1) := by decide +kernel
def lp_X10_copy_191 (j222 : gz_M → Option (Int32 × gz_M)) (a0 : Nat) (a1 : Int32) (a3 : Int32) (a5 : Int32) : Nat → Int32 → gz_M → Option (Int32 × gz_M)
  | 0, _, _ => none
  | n191 + 1, x27, M28 =>
    if a5 ≤ x27 then
      j222 M28
    else
      (gz_gR M28 10 4 a0).bind fun x29 =>
      (gz_gR M28 10 3 a0).bind fun x30 =>
      (gz_aR M28 x30 a1).bind fun x31 =>
      (gz_aL M28 x31 (a3 + x27)).bind fun x32 =>
      (gz_tL M28 x29 x27 x32).bind fun M33 =>
      lp_X10_copy_191 j222 a0 a1 a3 a5 n191 (x27 + (1 : Int32)) M33
def lp_X10_copy_225 (j257 : gz_M → Option (Int32 × gz_M)) (a0 : Nat) (a2 : Int32) (a4 : Int32) (a5 : Int32) : Nat → Int32 → gz_M → Option (Int32 × gz_M)
  | 0, _, _ => none
  | n225 + 1, x35, M36 =>
    if a5 ≤ x35 then
      j257 M36
    else
      (gz_gR M36 10 3 a0).bind fun x37 =>
      (gz_aR M36 x37 a2).bind fun x38 =>
      (gz_gR M36 10 4 a0).bind fun x39 =>
      (gz_aL M36 x39 x35).bind fun x40 =>
      (gz_tL M36 x38 (a4 + x35) x40).bind fun M41 =>
      lp_X10_copy_225 j257 a0 a2 a4 a5 n225 (x35 + (1 : Int32)) M41
def f_X10_copy (fu : Nat) (M : gz_M) (a0 : Nat) (a1 : Int32) (a2 : Int32) (a3 : Int32) (a4 : Int32) (a5 : Int32) : Option (Int32 × gz_M) :=
  gz_gd M 10 a0 <|
  (f_X10_in fu M (a1).toInt64 (0 : Int64) (7 : Int64)).bind fun x1 =>
  gz_jn (gz_b2 (f_X10_refuse fu M a0 (-2 : Int32)) fun x49 M50 =>
    some (x49, M50)) fun j24 =>
  if x1 = 0 then
    j24
  else
    (f_X10_in fu M (a2).toInt64 (0 : Int64) (7 : Int64)).bind fun x2 =>
    if x2 = 0 then
      j24
    else
      (gz_gR M 10 0 a0).bind fun x3 =>
      (gz_aI M x3 a1).bind fun x4 =>
      gz_jn (gz_b2 (f_X10_refuse fu M a0 (-3 : Int32)) fun x47 M48 =>
        some (x47, M48)) fun j86 =>
      if x4 = (2 : Int32) then
        j86
      else
        (gz_gR M 10 0 a0).bind fun x5 =>
        (gz_aI M x5 a2).bind fun x6 =>
        if x6 = (2 : Int32) then
          j86
        else
          (gz_gR M 10 0 a0).bind fun x7 =>
          (gz_aI M x7 a1).bind fun x8 =>
          gz_jn ((gz_gR M 10 0 a0).bind fun x15 =>
            (gz_aI M x15 a1).bind fun x16 =>
            gz_jn (gz_b2 (f_X10_refuse fu M a0 (-4 : Int32)) fun x45 M46 =>
              some (x45, M46)) fun j111 =>
            if x16 = 0 then
              j111
            else
              (gz_gR M 10 0 a0).bind fun x17 =>
              (gz_aI M x17 a2).bind fun x18 =>
              if x18 = 0 then
                j111
              else
                gz_jn (gz_b2 (f_X10_refuse fu M a0 (-2 : Int32)) fun x43 M44 =>
                  some (x43, M44)) fun j181 =>
                if a5 < 0 then
                  j181
                else
                  if a3 < 0 then
                    j181
                  else
                    if a4 < 0 then
                      j181
                    else
                      (gz_gR M 10 2 a0).bind fun x19 =>
                      (gz_aI M x19 a1).bind fun x20 =>
                      if x20 < a5 then
                        j181
                      else
                        (gz_gR M 10 2 a0).bind fun x21 =>
                        (gz_aI M x21 a2).bind fun x22 =>
                        if x22 < a5 then
                          j181
                        else
                          (gz_gR M 10 2 a0).bind fun x23 =>
                          (gz_aI M x23 a1).bind fun x24 =>
                          if (x24 - a5) < a3 then
                            j181
                          else
                            (gz_gR M 10 2 a0).bind fun x25 =>
                            (gz_aI M x25 a2).bind fun x26 =>
                            if a4 ≤ (x26 - a5) then
                              lp_X10_copy_191 (fun (M34 : gz_M) => lp_X10_copy_225 (fun (M42 : gz_M) => some (a5, M42)) a0 a2 a4 a5 fu (0 : Int32) M34) a0 a1 a3 a5 fu (0 : Int32) M
                            else
                              j181) fun j93 =>
          if x8 = (1 : Int32) then
            (gz_gR M 10 0 a0).bind fun x9 =>
            (gz_aI M x9 a2).bind fun x10 =>
            if x10 = (1 : Int32) then
              (gz_gR M 10 1 a0).bind fun x11 =>
              (gz_aI M x11 a1).bind fun x12 =>
              (gz_gR M 10 1 a0).bind fun x13 =>
              (gz_aI M x13 a2).bind fun x14 =>
              if x12 = x14 then
                j93
              else
                j86
            else
              j93
          else
            j93
set_option maxHeartbeats 4000000 in
theorem w_X10_copy_191 {C : gz_C} {y : Int32 × gz_M} {a0 : Nat} {a1 : Int32} {a3 : Int32} {a5 : Int32} {a2 : Int32} {a4 : Int32} {j222 : gz_M → Option (Int32 × gz_M)} (hC : gz_ok C cX10_copy RX10 7) (hX : gz_cx C 1 25 0 0 (some .int) (some (.int y.1)) y.2 "copy") (hj222 : ∀ (M34 : gz_M), j222 M34 = some y → gz_go C 0 0 M34 [(0, .ref a0), (2, .int a2), (4, .int a4), (5, .int a5)] 222 []) : ∀ (n : Nat) (x27 : Int32) (M28 : gz_M), lp_X10_copy_191 j222 a0 a1 a3 a5 n x27 M28 = some y → gz_go C 0 0 M28 [(0, .ref a0), (1, .int a1), (2, .int a2), (3, .int a3), (4, .int a4), (5, .int a5), (6, .int x27)] 191 [] := by
  intro n
  induction n with
  | zero => intro x27 M28 hF; exact nomatch (show (none : Option (Int32 × gz_M)) = some y from hF)
  | succ n191 ih191 =>
    intro x27 M28 hF
    rw [lp_X10_copy_191.eq_2] at hF
    refine gz_iload 191 hC 6 dX10_copy_191 rfl ?_
    refine gz_iload 193 hC 5 dX10_copy_193 rfl ?_
    refine gz_icmp_ge 195 222 hC dX10_copy_195 (by decide) hF (fun hF => ?_) (fun hF => ?_)
    · skip
      refine gz_sub [0, 2, 4, 5] [(0, .ref a0), (2, .int a2), (4, .int a4), (5, .int a5)] rfl ?_
      exact hj222 _ hF
    · skip
      refine gz_aload_n 198 hC 0 dX10_copy_198 rfl rfl ?_
      refine gz_getR 199 hC fl_X10_24 fk_10_4 dX10_copy_199 hF (fun x29 hF => ?_)
      refine gz_iload 202 hC 6 dX10_copy_202 rfl ?_
      refine gz_aload_n 204 hC 0 dX10_copy_204 rfl rfl ?_
      refine gz_getR 205 hC fl_X10_21 fk_10_3 dX10_copy_205 hF (fun x30 hF => ?_)
      refine gz_iload_n 208 hC 1 dX10_copy_208 rfl rfl ?_
      refine gz_aald 209 hC dX10_copy_209 hF (fun x31 hF => ?_)
      refine gz_iload_n 210 hC 3 dX10_copy_210 rfl rfl ?_
      refine gz_iload 211 hC 6 dX10_copy_211 rfl ?_
      refine gz_iadd 213 hC dX10_copy_213 ?_
      refine gz_lald 214 hC dX10_copy_214 hF (fun x32 hF => ?_)
      refine gz_last 215 hC dX10_copy_215 hF (fun M33 hF => ?_)
      refine gz_iinc 216 hC (x27 + (1 : Int32)) 6 [(6, .int (x27 + (1 : Int32))), (0, .ref a0), (1, .int a1), (2, .int a2), (3, .int a3), (4, .int a4), (5, .int a5)] dX10_copy_216 rfl rfl (by decide) rfl ?_
      refine gz_goto 219 191 hC dX10_copy_219 (by decide) ?_
      refine gz_sub [1, 2, 3, 4, 5, 6, 0] [(0, .ref a0), (1, .int a1), (2, .int a2), (3, .int a3), (4, .int a4), (5, .int a5), (6, .int (x27 + (1 : Int32)))] rfl ?_
      exact ih191 _ _ hF
set_option maxHeartbeats 4000000 in
theorem w_X10_copy_225 {C : gz_C} {y : Int32 × gz_M} {a0 : Nat} {a2 : Int32} {a4 : Int32} {a5 : Int32} {j257 : gz_M → Option (Int32 × gz_M)} (hC : gz_ok C cX10_copy RX10 7) (hX : gz_cx C 1 25 0 0 (some .int) (some (.int y.1)) y.2 "copy") (hj257 : ∀ (M42 : gz_M), j257 M42 = some y → gz_go C 0 0 M42 [(5, .int a5)] 257 []) : ∀ (n : Nat) (x35 : Int32) (M36 : gz_M), lp_X10_copy_225 j257 a0 a2 a4 a5 n x35 M36 = some y → gz_go C 0 0 M36 [(0, .ref a0), (2, .int a2), (4, .int a4), (5, .int a5), (6, .int x35)] 225 [] := by
  intro n
  induction n with
  | zero => intro x35 M36 hF; exact nomatch (show (none : Option (Int32 × gz_M)) = some y from hF)
  | succ n225 ih225 =>
    intro x35 M36 hF
    rw [lp_X10_copy_225.eq_2] at hF
    refine gz_iload 225 hC 4 dX10_copy_225 rfl ?_
    refine gz_iload 227 hC 3 dX10_copy_227 rfl ?_
    refine gz_icmp_ge 229 257 hC dX10_copy_229 (by decide) hF (fun hF => ?_) (fun hF => ?_)
    · skip
      refine gz_sub [3] [(5, .int a5)] rfl ?_
      exact hj257 _ hF
    · skip
      refine gz_aload_n 232 hC 0 dX10_copy_232 rfl rfl ?_
      refine gz_getR 233 hC fl_X10_21 fk_10_3 dX10_copy_233 hF (fun x37 hF => ?_)
      refine gz_iload_n 236 hC 1 dX10_copy_236 rfl rfl ?_
      refine gz_aald 237 hC dX10_copy_237 hF (fun x38 hF => ?_)
      refine gz_iload 238 hC 2 dX10_copy_238 rfl ?_
      refine gz_iload 240 hC 4 dX10_copy_240 rfl ?_
      refine gz_iadd 242 hC dX10_copy_242 ?_
      refine gz_aload_n 243 hC 0 dX10_copy_243 rfl rfl ?_
      refine gz_getR 244 hC fl_X10_24 fk_10_4 dX10_copy_244 hF (fun x39 hF => ?_)
      refine gz_iload 247 hC 4 dX10_copy_247 rfl ?_
      refine gz_lald 249 hC dX10_copy_249 hF (fun x40 hF => ?_)
      refine gz_last 250 hC dX10_copy_250 hF (fun M41 hF => ?_)
      refine gz_iinc 251 hC (x35 + (1 : Int32)) 4 [(6, .int (x35 + (1 : Int32))), (0, .ref a0), (2, .int a2), (4, .int a4), (5, .int a5)] dX10_copy_251 rfl rfl (by decide) rfl ?_
      refine gz_goto 254 225 hC dX10_copy_254 (by decide) ?_
      refine gz_sub [1, 2, 3, 4, 0] [(0, .ref a0), (2, .int a2), (4, .int a4), (5, .int a5), (6, .int (x35 + (1 : Int32)))] rfl ?_
      exact ih225 _ _ hF
set_option maxHeartbeats 4000000 in
theorem ct_X10_copy (l : Launch) (G : gz_G) (fu : Nat) (M : gz_M) (a0 : Nat) (a1 : Int32) (a2 : Int32) (a3 : Int32) (a4 : Int32) (a5 : Int32) (y : Int32 × gz_M) (hF : f_X10_copy fu M a0 a1 a2 a3 a4 a5 = some y) : gz_ct l yX10_copy cX10_copy 7 (some .int) 1 25 0 0 G [.ref a0, .int a1, .int a2, .int a3, .int a4, .int a5] M (some (.int y.1)) y.2 := by
  refine gz_ct.of (by decide) (Nat.le_of_ble_eq_true rfl) (fun C hC hX => ?_)
  unfold f_X10_copy at hF
  obtain ⟨-, hF⟩ := gz_gd_some hF
  show gz_go C 0 0 M [(0, .ref a0), (1, .int a1), (2, .int a2), (3, .int a3), (4, .int a4), (5, .int a5)] 0 []
  refine gz_iload_n 0 hC 1 dX10_copy_0 rfl rfl ?_
  refine gz_i2l 1 hC dX10_copy_1 ?_
  refine gz_lconst 2 hC (0 : Int64) dX10_copy_2 gz_l0 ?_
  refine gz_ldc2 3 hC dX10_copy_3 q_1169 ?_
  refine gz_csP (st := []) 6 hC hX [.long (a1).toInt64, .long (0 : Int64), .long (7 : Int64)] Value.int yl_X10_in yv_X10_in q_1170 ⟨Nat.le_of_ble_eq_true rfl, Nat.le_of_ble_eq_true rfl⟩ (fun r h => ct_X10_in _ _ fu M (a1).toInt64 (0 : Int64) (7 : Int64) r h) rfl rfl (Nat.le_of_ble_eq_true rfl) dX10_copy_6 gz_00 hF (fun x1 hF => ?_)
  refine gz_join (fun (j : Option (Int32 × gz_M)) => j = some y → gz_go C 0 0 M [(0, .ref a0)] 24 []) hF (fun hF => ?_) (fun j24 hj24 hF => ?_)
  · skip
    refine gz_aload_n 24 hC 0 dX10_copy_24 rfl rfl ?_
    refine gz_bipush 25 hC (-2 : Int32) dX10_copy_25 gz_bm2 ?_
    refine gz_cvM (st := []) 27 hC hX [.int (-2 : Int32)] Value.int yl_X10_refuse yv_X10_refuse q_1175 ⟨Nat.le_of_ble_eq_true rfl, Nat.le_of_ble_eq_true rfl⟩ ⟨_, rfl⟩ (fun r h => ct_X10_refuse _ _ fu M a0 (-2 : Int32) r h) rfl rfl (Nat.le_of_ble_eq_true rfl) dX10_copy_27 gz_00 hF (fun x49 M50 hF => ?_)
    exact gz_iretM 30 hC hX dX10_copy_30 hF
  refine gz_if_eq 9 24 hC dX10_copy_9 (by decide) hF (fun hF => ?_) (fun hF => ?_)
  · skip
    refine gz_sub [0] [(0, .ref a0)] rfl ?_
    exact hj24 hF
  · skip
    refine gz_iload_n 12 hC 2 dX10_copy_12 rfl rfl ?_
    refine gz_i2l 13 hC dX10_copy_13 ?_
    refine gz_lconst 14 hC (0 : Int64) dX10_copy_14 gz_l0 ?_
    refine gz_ldc2 15 hC dX10_copy_15 q_1169 ?_
    refine gz_csP (st := []) 18 hC hX [.long (a2).toInt64, .long (0 : Int64), .long (7 : Int64)] Value.int yl_X10_in yv_X10_in q_1170 ⟨Nat.le_of_ble_eq_true rfl, Nat.le_of_ble_eq_true rfl⟩ (fun r h => ct_X10_in _ _ fu M (a2).toInt64 (0 : Int64) (7 : Int64) r h) rfl rfl (Nat.le_of_ble_eq_true rfl) dX10_copy_18 gz_00 hF (fun x2 hF => ?_)
    refine gz_if_ne 21 31 hC dX10_copy_21 (by decide) hF (fun hF => ?_) (fun hF => ?_)
    · skip
      refine gz_aload_n 31 hC 0 dX10_copy_31 rfl rfl ?_
      refine gz_getR 32 hC fl_X10_7 fk_10_0 dX10_copy_32 hF (fun x3 hF => ?_)
      refine gz_iload_n 35 hC 1 dX10_copy_35 rfl rfl ?_
      refine gz_iald 36 hC dX10_copy_36 hF (fun x4 hF => ?_)
      refine gz_iconst 37 hC (2 : Int32) dX10_copy_37 gz_k2 ?_
      refine gz_join (fun (j : Option (Int32 × gz_M)) => j = some y → gz_go C 0 0 M [(0, .ref a0)] 86 []) hF (fun hF => ?_) (fun j86 hj86 hF => ?_)
      · skip
        refine gz_aload_n 86 hC 0 dX10_copy_86 rfl rfl ?_
        refine gz_bipush 87 hC (-3 : Int32) dX10_copy_87 gz_bm3 ?_
        refine gz_cvM (st := []) 89 hC hX [.int (-3 : Int32)] Value.int yl_X10_refuse yv_X10_refuse q_1175 ⟨Nat.le_of_ble_eq_true rfl, Nat.le_of_ble_eq_true rfl⟩ ⟨_, rfl⟩ (fun r h => ct_X10_refuse _ _ fu M a0 (-3 : Int32) r h) rfl rfl (Nat.le_of_ble_eq_true rfl) dX10_copy_89 gz_00 hF (fun x47 M48 hF => ?_)
        exact gz_iretM 92 hC hX dX10_copy_92 hF
      refine gz_icmp_eq 38 86 hC dX10_copy_38 (by decide) hF (fun hF => ?_) (fun hF => ?_)
      · skip
        refine gz_sub [0] [(0, .ref a0)] rfl ?_
        exact hj86 hF
      · skip
        refine gz_aload_n 41 hC 0 dX10_copy_41 rfl rfl ?_
        refine gz_getR 42 hC fl_X10_7 fk_10_0 dX10_copy_42 hF (fun x5 hF => ?_)
        refine gz_iload_n 45 hC 2 dX10_copy_45 rfl rfl ?_
        refine gz_iald 46 hC dX10_copy_46 hF (fun x6 hF => ?_)
        refine gz_iconst 47 hC (2 : Int32) dX10_copy_47 gz_k2 ?_
        refine gz_icmp_eq 48 86 hC dX10_copy_48 (by decide) hF (fun hF => ?_) (fun hF => ?_)
        · skip
          refine gz_sub [0] [(0, .ref a0)] rfl ?_
          exact hj86 hF
        · skip
          refine gz_aload_n 51 hC 0 dX10_copy_51 rfl rfl ?_
          refine gz_getR 52 hC fl_X10_7 fk_10_0 dX10_copy_52 hF (fun x7 hF => ?_)
          refine gz_iload_n 55 hC 1 dX10_copy_55 rfl rfl ?_
          refine gz_iald 56 hC dX10_copy_56 hF (fun x8 hF => ?_)
          refine gz_iconst 57 hC (1 : Int32) dX10_copy_57 gz_k1 ?_
          refine gz_join (fun (j : Option (Int32 × gz_M)) => j = some y → gz_go C 0 0 M [(0, .ref a0), (1, .int a1), (2, .int a2), (3, .int a3), (4, .int a4), (5, .int a5)] 93 []) hF (fun hF => ?_) (fun j93 hj93 hF => ?_)
          · skip
            refine gz_aload_n 93 hC 0 dX10_copy_93 rfl rfl ?_
            refine gz_getR 94 hC fl_X10_7 fk_10_0 dX10_copy_94 hF (fun x15 hF => ?_)
            refine gz_iload_n 97 hC 1 dX10_copy_97 rfl rfl ?_
            refine gz_iald 98 hC dX10_copy_98 hF (fun x16 hF => ?_)
            refine gz_join (fun (j : Option (Int32 × gz_M)) => j = some y → gz_go C 0 0 M [(0, .ref a0)] 111 []) hF (fun hF => ?_) (fun j111 hj111 hF => ?_)
            · skip
              refine gz_aload_n 111 hC 0 dX10_copy_111 rfl rfl ?_
              refine gz_bipush 112 hC (-4 : Int32) dX10_copy_112 gz_bm4 ?_
              refine gz_cvM (st := []) 114 hC hX [.int (-4 : Int32)] Value.int yl_X10_refuse yv_X10_refuse q_1175 ⟨Nat.le_of_ble_eq_true rfl, Nat.le_of_ble_eq_true rfl⟩ ⟨_, rfl⟩ (fun r h => ct_X10_refuse _ _ fu M a0 (-4 : Int32) r h) rfl rfl (Nat.le_of_ble_eq_true rfl) dX10_copy_114 gz_00 hF (fun x45 M46 hF => ?_)
              exact gz_iretM 117 hC hX dX10_copy_117 hF
            refine gz_if_eq 99 111 hC dX10_copy_99 (by decide) hF (fun hF => ?_) (fun hF => ?_)
            · skip
              refine gz_sub [0] [(0, .ref a0)] rfl ?_
              exact hj111 hF
            · skip
              refine gz_aload_n 102 hC 0 dX10_copy_102 rfl rfl ?_
              refine gz_getR 103 hC fl_X10_7 fk_10_0 dX10_copy_103 hF (fun x17 hF => ?_)
              refine gz_iload_n 106 hC 2 dX10_copy_106 rfl rfl ?_
              refine gz_iald 107 hC dX10_copy_107 hF (fun x18 hF => ?_)
              refine gz_if_ne 108 118 hC dX10_copy_108 (by decide) hF (fun hF => ?_) (fun hF => ?_)
              · skip
                refine gz_iload 118 hC 5 dX10_copy_118 rfl ?_
                refine gz_join (fun (j : Option (Int32 × gz_M)) => j = some y → gz_go C 0 0 M [(0, .ref a0)] 181 []) hF (fun hF => ?_) (fun j181 hj181 hF => ?_)
                · skip
                  refine gz_aload_n 181 hC 0 dX10_copy_181 rfl rfl ?_
                  refine gz_bipush 182 hC (-2 : Int32) dX10_copy_182 gz_bm2 ?_
                  refine gz_cvM (st := []) 184 hC hX [.int (-2 : Int32)] Value.int yl_X10_refuse yv_X10_refuse q_1175 ⟨Nat.le_of_ble_eq_true rfl, Nat.le_of_ble_eq_true rfl⟩ ⟨_, rfl⟩ (fun r h => ct_X10_refuse _ _ fu M a0 (-2 : Int32) r h) rfl rfl (Nat.le_of_ble_eq_true rfl) dX10_copy_184 gz_00 hF (fun x43 M44 hF => ?_)
                  exact gz_iretM 187 hC hX dX10_copy_187 hF
                refine gz_if_lt 120 181 hC dX10_copy_120 (by decide) hF (fun hF => ?_) (fun hF => ?_)
                · skip
                  refine gz_sub [0] [(0, .ref a0)] rfl ?_
                  exact hj181 hF
                · skip
                  refine gz_iload_n 123 hC 3 dX10_copy_123 rfl rfl ?_
                  refine gz_if_lt 124 181 hC dX10_copy_124 (by decide) hF (fun hF => ?_) (fun hF => ?_)
                  · skip
                    refine gz_sub [0] [(0, .ref a0)] rfl ?_
                    exact hj181 hF
                  · skip
                    refine gz_iload 127 hC 4 dX10_copy_127 rfl ?_
                    refine gz_if_lt 129 181 hC dX10_copy_129 (by decide) hF (fun hF => ?_) (fun hF => ?_)
                    · skip
                      refine gz_sub [0] [(0, .ref a0)] rfl ?_
                      exact hj181 hF
                    · skip
                      refine gz_iload 132 hC 5 dX10_copy_132 rfl ?_
                      refine gz_aload_n 134 hC 0 dX10_copy_134 rfl rfl ?_
                      refine gz_getR 135 hC fl_X10_16 fk_10_2 dX10_copy_135 hF (fun x19 hF => ?_)
                      refine gz_iload_n 138 hC 1 dX10_copy_138 rfl rfl ?_
                      refine gz_iald 139 hC dX10_copy_139 hF (fun x20 hF => ?_)
                      refine gz_icmp_gt 140 181 hC dX10_copy_140 (by decide) hF (fun hF => ?_) (fun hF => ?_)
                      · skip
                        refine gz_sub [0] [(0, .ref a0)] rfl ?_
                        exact hj181 hF
                      · skip
                        refine gz_iload 143 hC 5 dX10_copy_143 rfl ?_
                        refine gz_aload_n 145 hC 0 dX10_copy_145 rfl rfl ?_
                        refine gz_getR 146 hC fl_X10_16 fk_10_2 dX10_copy_146 hF (fun x21 hF => ?_)
                        refine gz_iload_n 149 hC 2 dX10_copy_149 rfl rfl ?_
                        refine gz_iald 150 hC dX10_copy_150 hF (fun x22 hF => ?_)
                        refine gz_icmp_gt 151 181 hC dX10_copy_151 (by decide) hF (fun hF => ?_) (fun hF => ?_)
                        · skip
                          refine gz_sub [0] [(0, .ref a0)] rfl ?_
                          exact hj181 hF
                        · skip
                          refine gz_iload_n 154 hC 3 dX10_copy_154 rfl rfl ?_
                          refine gz_aload_n 155 hC 0 dX10_copy_155 rfl rfl ?_
                          refine gz_getR 156 hC fl_X10_16 fk_10_2 dX10_copy_156 hF (fun x23 hF => ?_)
                          refine gz_iload_n 159 hC 1 dX10_copy_159 rfl rfl ?_
                          refine gz_iald 160 hC dX10_copy_160 hF (fun x24 hF => ?_)
                          refine gz_iload 161 hC 5 dX10_copy_161 rfl ?_
                          refine gz_isub 163 hC dX10_copy_163 ?_
                          refine gz_icmp_gt 164 181 hC dX10_copy_164 (by decide) hF (fun hF => ?_) (fun hF => ?_)
                          · skip
                            refine gz_sub [0] [(0, .ref a0)] rfl ?_
                            exact hj181 hF
                          · skip
                            refine gz_iload 167 hC 4 dX10_copy_167 rfl ?_
                            refine gz_aload_n 169 hC 0 dX10_copy_169 rfl rfl ?_
                            refine gz_getR 170 hC fl_X10_16 fk_10_2 dX10_copy_170 hF (fun x25 hF => ?_)
                            refine gz_iload_n 173 hC 2 dX10_copy_173 rfl rfl ?_
                            refine gz_iald 174 hC dX10_copy_174 hF (fun x26 hF => ?_)
                            refine gz_iload 175 hC 5 dX10_copy_175 rfl ?_
                            refine gz_isub 177 hC dX10_copy_177 ?_
                            refine gz_icmp_le 178 188 hC dX10_copy_178 (by decide) hF (fun hF => ?_) (fun hF => ?_)
                            · skip
                              refine gz_iconst 188 hC (0 : Int32) dX10_copy_188 gz_k0 ?_
                              refine gz_istore 189 hC [(6, .int (0 : Int32)), (0, .ref a0), (1, .int a1), (2, .int a2), (3, .int a3), (4, .int a4), (5, .int a5)] dX10_copy_189 (by decide) rfl ?_
                              refine gz_sub [1, 2, 3, 4, 5, 6, 0] [(0, .ref a0), (1, .int a1), (2, .int a2), (3, .int a3), (4, .int a4), (5, .int a5), (6, .int (0 : Int32))] rfl ?_
                              refine w_X10_copy_191 hC hX ?_ _ _ _ hF
                              intro M34 hF
                              refine gz_iconst 222 hC (0 : Int32) dX10_copy_222 gz_k0 ?_
                              refine gz_istore 223 hC [(6, .int (0 : Int32)), (0, .ref a0), (2, .int a2), (4, .int a4), (5, .int a5)] dX10_copy_223 (by decide) rfl ?_
                              refine gz_sub [1, 2, 3, 4, 0] [(0, .ref a0), (2, .int a2), (4, .int a4), (5, .int a5), (6, .int (0 : Int32))] rfl ?_
                              refine w_X10_copy_225 hC hX ?_ _ _ _ hF
                              intro M42 hF
                              refine gz_iload 257 hC 0 dX10_copy_257 rfl ?_
                              exact gz_iretM 259 hC hX dX10_copy_259 hF
                            · skip
                              refine gz_sub [0] [(0, .ref a0)] rfl ?_
                              exact hj181 hF
              · skip
                refine gz_sub [0] [(0, .ref a0)] rfl ?_
                exact hj111 hF
          refine gz_icmp_ne 58 93 hC dX10_copy_58 (by decide) hF (fun hF => ?_) (fun hF => ?_)
          · skip
            exact hj93 hF
          · skip
            refine gz_aload_n 61 hC 0 dX10_copy_61 rfl rfl ?_
            refine gz_getR 62 hC fl_X10_7 fk_10_0 dX10_copy_62 hF (fun x9 hF => ?_)
            refine gz_iload_n 65 hC 2 dX10_copy_65 rfl rfl ?_
            refine gz_iald 66 hC dX10_copy_66 hF (fun x10 hF => ?_)
            refine gz_iconst 67 hC (1 : Int32) dX10_copy_67 gz_k1 ?_
            refine gz_icmp_ne 68 93 hC dX10_copy_68 (by decide) hF (fun hF => ?_) (fun hF => ?_)
            · skip
              exact hj93 hF
            · skip
              refine gz_aload_n 71 hC 0 dX10_copy_71 rfl rfl ?_
              refine gz_getR 72 hC fl_X10_13 fk_10_1 dX10_copy_72 hF (fun x11 hF => ?_)
              refine gz_iload_n 75 hC 1 dX10_copy_75 rfl rfl ?_
              refine gz_iald 76 hC dX10_copy_76 hF (fun x12 hF => ?_)
              refine gz_aload_n 77 hC 0 dX10_copy_77 rfl rfl ?_
              refine gz_getR 78 hC fl_X10_13 fk_10_1 dX10_copy_78 hF (fun x13 hF => ?_)
              refine gz_iload_n 81 hC 2 dX10_copy_81 rfl rfl ?_
              refine gz_iald 82 hC dX10_copy_82 hF (fun x14 hF => ?_)
              refine gz_icmp_eq 83 93 hC dX10_copy_83 (by decide) hF (fun hF => ?_) (fun hF => ?_)
              · skip
                exact hj93 hF
              · skip
                refine gz_sub [0] [(0, .ref a0)] rfl ?_
                exact hj86 hF
    · skip
      refine gz_sub [0] [(0, .ref a0)] rfl ?_
      exact hj24 hF

theorem dX10_element_0 : decode cX10_element 0 = .ok (.iload_n 1, 1) := by decide +kernel
theorem dX10_element_1 : decode cX10_element 1 = .ok (.i2l, 1) := by decide +kernel
theorem dX10_element_2 : decode cX10_element 2 = .ok (.lconst 0, 1) := by decide +kernel
theorem dX10_element_3 : decode cX10_element 3 = .ok (.ldc2_w 91, 3) := by decide +kernel
theorem dX10_element_6 : decode cX10_element 6 = .ok (.invokestatic 73, 3) := by decide +kernel
theorem dX10_element_9 : decode cX10_element 9 = .ok (.ifCond .eq 42, 3) := by decide +kernel
theorem dX10_element_12 : decode cX10_element 12 = .ok (.aload_n 0, 1) := by decide +kernel
theorem dX10_element_13 : decode cX10_element 13 = .ok (.getfield 7, 3) := by decide +kernel
theorem dX10_element_16 : decode cX10_element 16 = .ok (.iload_n 1, 1) := by decide +kernel
theorem dX10_element_17 : decode cX10_element 17 = .ok (.iaload, 1) := by decide +kernel
theorem dX10_element_18 : decode cX10_element 18 = .ok (.iconst 1, 1) := by decide +kernel
theorem dX10_element_19 : decode cX10_element 19 = .ok (.if_icmp .ne 32, 3) := by decide +kernel
theorem dX10_element_22 : decode cX10_element 22 = .ok (.iload_n 2, 1) := by decide +kernel
theorem dX10_element_23 : decode cX10_element 23 = .ok (.i2l, 1) := by decide +kernel
theorem dX10_element_24 : decode cX10_element 24 = .ok (.lconst 0, 1) := by decide +kernel
theorem dX10_element_25 : decode cX10_element 25 = .ok (.aload_n 0, 1) := by decide +kernel
theorem dX10_element_26 : decode cX10_element 26 = .ok (.getfield 16, 3) := by decide +kernel
theorem dX10_element_29 : decode cX10_element 29 = .ok (.iload_n 1, 1) := by decide +kernel
theorem dX10_element_30 : decode cX10_element 30 = .ok (.iaload, 1) := by decide +kernel
theorem dX10_element_31 : decode cX10_element 31 = .ok (.iconst 1, 1) := by decide +kernel
theorem dX10_element_32 : decode cX10_element 32 = .ok (.isub, 1) := by decide +kernel
theorem dX10_element_33 : decode cX10_element 33 = .ok (.i2l, 1) := by decide +kernel
theorem dX10_element_34 : decode cX10_element 34 = .ok (.invokestatic 73, 3) := by decide +kernel
theorem dX10_element_37 : decode cX10_element 37 = .ok (.ifCond .eq 14, 3) := by decide +kernel
theorem dX10_element_40 : decode cX10_element 40 = .ok (.aload_n 0, 1) := by decide +kernel
theorem dX10_element_41 : decode cX10_element 41 = .ok (.getfield 21, 3) := by decide +kernel
theorem dX10_element_44 : decode cX10_element 44 = .ok (.iload_n 1, 1) := by decide +kernel
theorem dX10_element_45 : decode cX10_element 45 = .ok (.aaload, 1) := by decide +kernel
theorem dX10_element_46 : decode cX10_element 46 = .ok (.iload_n 2, 1) := by decide +kernel
theorem dX10_element_47 : decode cX10_element 47 = .ok (.laload, 1) := by decide +kernel
theorem dX10_element_48 : decode cX10_element 48 = .ok (.goto 4, 3) := by decide +kernel
theorem dX10_element_51 : decode cX10_element 51 = .ok (.lconst 0, 1) := by decide +kernel
theorem dX10_element_52 : decode cX10_element 52 = .ok (.lreturn, 1) := by decide +kernel

def f_X10_element (fu : Nat) (M : gz_M) (a0 : Nat) (a1 : Int32) (a2 : Int32) : Option (Int64) :=
  gz_gd M 10 a0 <|
  (f_X10_in fu M (a1).toInt64 (0 : Int64) (7 : Int64)).bind fun x1 =>
  gz_jn (fun (x10 : Int64) =>
  some x10) fun j52 =>
  gz_jn (j52 (0 : Int64)) fun j51 =>
  if x1 = 0 then
    j51
  else
    (gz_gR M 10 0 a0).bind fun x2 =>
    (gz_aI M x2 a1).bind fun x3 =>
    if x3 = (1 : Int32) then
      (gz_gR M 10 2 a0).bind fun x4 =>
      (gz_aI M x4 a1).bind fun x5 =>
      (f_X10_in fu M (a2).toInt64 (0 : Int64) ((x5 - (1 : Int32))).toInt64).bind fun x6 =>
      if x6 = 0 then
        j51
      else
        (gz_gR M 10 3 a0).bind fun x7 =>
        (gz_aR M x7 a1).bind fun x8 =>
        (gz_aL M x8 a2).bind fun x9 =>
        j52 x9
    else
      j51

set_option maxHeartbeats 4000000 in
theorem ct_X10_element (l : Launch) (G : gz_G) (fu : Nat) (M : gz_M) (a0 : Nat) (a1 : Int32) (a2 : Int32) (y : Int64) (hF : f_X10_element fu M a0 a1 a2 = some y) : gz_ct l yX10_element cX10_element 3 (some .long) 1 25 0 0 G [.ref a0, .int a1, .int a2] M (some (.long y)) M := by
  refine gz_ct.of (by decide) (Nat.le_of_ble_eq_true rfl) (fun C hC hX => ?_)
  unfold f_X10_element at hF
  obtain ⟨-, hF⟩ := gz_gd_some hF
  show gz_go C 0 0 M [(0, .ref a0), (1, .int a1), (2, .int a2)] 0 []
  refine gz_iload_n 0 hC 1 dX10_element_0 rfl rfl ?_
  refine gz_i2l 1 hC dX10_element_1 ?_
  refine gz_lconst 2 hC (0 : Int64) dX10_element_2 gz_l0 ?_
  refine gz_ldc2 3 hC dX10_element_3 q_1169 ?_
  refine gz_csP (st := []) 6 hC hX [.long (a1).toInt64, .long (0 : Int64), .long (7 : Int64)] Value.int yl_X10_in yv_X10_in q_1170 ⟨Nat.le_of_ble_eq_true rfl, Nat.le_of_ble_eq_true rfl⟩ (fun r h => ct_X10_in _ _ fu M (a1).toInt64 (0 : Int64) (7 : Int64) r h) rfl rfl (Nat.le_of_ble_eq_true rfl) dX10_element_6 gz_00 hF (fun x1 hF => ?_)
  refine gz_join (fun (j : Int64 → Option (Int64)) => ∀ (x10 : Int64), j x10 = some y → gz_go C 0 0 M [] 52 [.long x10]) hF (fun x10 hF => ?_) (fun j52 hj52 hF => ?_)
  · skip
    exact gz_lretP 52 hC hX dX10_element_52 hF
  refine gz_join (fun (j : Option (Int64)) => j = some y → gz_go C 0 0 M [] 51 []) hF (fun hF => ?_) (fun j51 hj51 hF => ?_)
  · skip
    refine gz_lconst 51 hC (0 : Int64) dX10_element_51 gz_l0 ?_
    exact hj52 _ hF
  refine gz_if_eq 9 51 hC dX10_element_9 (by decide) hF (fun hF => ?_) (fun hF => ?_)
  · skip
    refine gz_sub [] [] rfl ?_
    exact hj51 hF
  · skip
    refine gz_aload_n 12 hC 0 dX10_element_12 rfl rfl ?_
    refine gz_getR 13 hC fl_X10_7 fk_10_0 dX10_element_13 hF (fun x2 hF => ?_)
    refine gz_iload_n 16 hC 1 dX10_element_16 rfl rfl ?_
    refine gz_iald 17 hC dX10_element_17 hF (fun x3 hF => ?_)
    refine gz_iconst 18 hC (1 : Int32) dX10_element_18 gz_k1 ?_
    refine gz_icmp_ne 19 51 hC dX10_element_19 (by decide) hF (fun hF => ?_) (fun hF => ?_)
    · skip
      refine gz_sub [] [] rfl ?_
      exact hj51 hF
    · skip
      refine gz_iload_n 22 hC 2 dX10_element_22 rfl rfl ?_
      refine gz_i2l 23 hC dX10_element_23 ?_
      refine gz_lconst 24 hC (0 : Int64) dX10_element_24 gz_l0 ?_
      refine gz_aload_n 25 hC 0 dX10_element_25 rfl rfl ?_
      refine gz_getR 26 hC fl_X10_16 fk_10_2 dX10_element_26 hF (fun x4 hF => ?_)
      refine gz_iload_n 29 hC 1 dX10_element_29 rfl rfl ?_
      refine gz_iald 30 hC dX10_element_30 hF (fun x5 hF => ?_)
      refine gz_iconst 31 hC (1 : Int32) dX10_element_31 gz_k1 ?_
      refine gz_isub 32 hC dX10_element_32 ?_
      refine gz_i2l 33 hC dX10_element_33 ?_
      refine gz_csP (st := []) 34 hC hX [.long (a2).toInt64, .long (0 : Int64), .long ((x5 - (1 : Int32))).toInt64] Value.int yl_X10_in yv_X10_in q_1170 ⟨Nat.le_of_ble_eq_true rfl, Nat.le_of_ble_eq_true rfl⟩ (fun r h => ct_X10_in _ _ fu M (a2).toInt64 (0 : Int64) ((x5 - (1 : Int32))).toInt64 r h) rfl rfl (Nat.le_of_ble_eq_true rfl) dX10_element_34 gz_00 hF (fun x6 hF => ?_)
      refine gz_if_eq 37 51 hC dX10_element_37 (by decide) hF (fun hF => ?_) (fun hF => ?_)
      · skip
        refine gz_sub [] [] rfl ?_
        exact hj51 hF
      · skip
        refine gz_aload_n 40 hC 0 dX10_element_40 rfl rfl ?_
        refine gz_getR 41 hC fl_X10_21 fk_10_3 dX10_element_41 hF (fun x7 hF => ?_)
        refine gz_iload_n 44 hC 1 dX10_element_44 rfl rfl ?_
        refine gz_aald 45 hC dX10_element_45 hF (fun x8 hF => ?_)
        refine gz_iload_n 46 hC 2 dX10_element_46 rfl rfl ?_
        refine gz_lald 47 hC dX10_element_47 hF (fun x9 hF => ?_)
        refine gz_goto 48 52 hC dX10_element_48 (by decide) ?_
        refine gz_sub [] [] rfl ?_
        exact hj52 _ hF

theorem dX10_holds_0 : decode cX10_holds 0 = .ok (.iload_n 1, 1) := by decide +kernel
theorem dX10_holds_1 : decode cX10_holds 1 = .ok (.i2l, 1) := by decide +kernel
theorem dX10_holds_2 : decode cX10_holds 2 = .ok (.lconst 0, 1) := by decide +kernel
theorem dX10_holds_3 : decode cX10_holds 3 = .ok (.ldc2_w 91, 3) := by decide +kernel
theorem dX10_holds_6 : decode cX10_holds 6 = .ok (.invokestatic 73, 3) := by decide +kernel
theorem dX10_holds_9 : decode cX10_holds 9 = .ok (.ifCond .eq 12, 3) := by decide +kernel
theorem dX10_holds_12 : decode cX10_holds 12 = .ok (.aload_n 0, 1) := by decide +kernel
theorem dX10_holds_13 : decode cX10_holds 13 = .ok (.getfield 7, 3) := by decide +kernel
theorem dX10_holds_16 : decode cX10_holds 16 = .ok (.iload_n 1, 1) := by decide +kernel
theorem dX10_holds_17 : decode cX10_holds 17 = .ok (.iaload, 1) := by decide +kernel
theorem dX10_holds_18 : decode cX10_holds 18 = .ok (.ifCond .ne 5, 3) := by decide +kernel
theorem dX10_holds_21 : decode cX10_holds 21 = .ok (.iconst (-1), 1) := by decide +kernel
theorem dX10_holds_22 : decode cX10_holds 22 = .ok (.ireturn, 1) := by decide +kernel
theorem dX10_holds_23 : decode cX10_holds 23 = .ok (.aload_n 0, 1) := by decide +kernel
theorem dX10_holds_24 : decode cX10_holds 24 = .ok (.getfield 7, 3) := by decide +kernel
theorem dX10_holds_27 : decode cX10_holds 27 = .ok (.iload_n 1, 1) := by decide +kernel
theorem dX10_holds_28 : decode cX10_holds 28 = .ok (.iaload, 1) := by decide +kernel
theorem dX10_holds_29 : decode cX10_holds 29 = .ok (.iconst 1, 1) := by decide +kernel
theorem dX10_holds_30 : decode cX10_holds 30 = .ok (.if_icmp .ne 12, 3) := by decide +kernel
theorem dX10_holds_33 : decode cX10_holds 33 = .ok (.aload_n 0, 1) := by decide +kernel
theorem dX10_holds_34 : decode cX10_holds 34 = .ok (.getfield 13, 3) := by decide +kernel
theorem dX10_holds_37 : decode cX10_holds 37 = .ok (.iload_n 1, 1) := by decide +kernel
theorem dX10_holds_38 : decode cX10_holds 38 = .ok (.iaload, 1) := by decide +kernel
theorem dX10_holds_39 : decode cX10_holds 39 = .ok (.goto 12, 3) := by decide +kernel
theorem dX10_holds_42 : decode cX10_holds 42 = .ok (.bipush 10, 2) := by decide +kernel
theorem dX10_holds_44 : decode cX10_holds 44 = .ok (.aload_n 0, 1) := by decide +kernel
theorem dX10_holds_45 : decode cX10_holds 45 = .ok (.getfield 28, 3) := by decide +kernel
theorem dX10_holds_48 : decode cX10_holds 48 = .ok (.iload_n 1, 1) := by decide +kernel
theorem dX10_holds_49 : decode cX10_holds 49 = .ok (.iaload, 1) := by decide +kernel
theorem dX10_holds_50 : decode cX10_holds 50 = .ok (.iadd, 1) := by decide +kernel
theorem dX10_holds_51 : decode cX10_holds 51 = .ok (.ireturn, 1) := by decide +kernel

def f_X10_holds (fu : Nat) (M : gz_M) (a0 : Nat) (a1 : Int32) : Option (Int32) :=
  gz_gd M 10 a0 <|
  (f_X10_in fu M (a1).toInt64 (0 : Int64) (7 : Int64)).bind fun x1 =>
  gz_jn (some (-1 : Int32)) fun j21 =>
  if x1 = 0 then
    j21
  else
    (gz_gR M 10 0 a0).bind fun x2 =>
    (gz_aI M x2 a1).bind fun x3 =>
    if x3 = 0 then
      j21
    else
      (gz_gR M 10 0 a0).bind fun x4 =>
      (gz_aI M x4 a1).bind fun x5 =>
      gz_jn (fun (x10 : Int32) =>
      some x10) fun j51 =>
      if x5 = (1 : Int32) then
        (gz_gR M 10 1 a0).bind fun x6 =>
        (gz_aI M x6 a1).bind fun x7 =>
        j51 x7
      else
        (gz_gR M 10 5 a0).bind fun x8 =>
        (gz_aI M x8 a1).bind fun x9 =>
        j51 ((10 : Int32) + x9)

set_option maxHeartbeats 4000000 in
theorem ct_X10_holds (l : Launch) (G : gz_G) (fu : Nat) (M : gz_M) (a0 : Nat) (a1 : Int32) (y : Int32) (hF : f_X10_holds fu M a0 a1 = some y) : gz_ct l yX10_holds cX10_holds 2 (some .int) 1 25 0 0 G [.ref a0, .int a1] M (some (.int y)) M := by
  refine gz_ct.of (by decide) (Nat.le_of_ble_eq_true rfl) (fun C hC hX => ?_)
  unfold f_X10_holds at hF
  obtain ⟨-, hF⟩ := gz_gd_some hF
  show gz_go C 0 0 M [(0, .ref a0), (1, .int a1)] 0 []
  refine gz_iload_n 0 hC 1 dX10_holds_0 rfl rfl ?_
  refine gz_i2l 1 hC dX10_holds_1 ?_
  refine gz_lconst 2 hC (0 : Int64) dX10_holds_2 gz_l0 ?_
  refine gz_ldc2 3 hC dX10_holds_3 q_1169 ?_
  refine gz_csP (st := []) 6 hC hX [.long (a1).toInt64, .long (0 : Int64), .long (7 : Int64)] Value.int yl_X10_in yv_X10_in q_1170 ⟨Nat.le_of_ble_eq_true rfl, Nat.le_of_ble_eq_true rfl⟩ (fun r h => ct_X10_in _ _ fu M (a1).toInt64 (0 : Int64) (7 : Int64) r h) rfl rfl (Nat.le_of_ble_eq_true rfl) dX10_holds_6 gz_00 hF (fun x1 hF => ?_)
  refine gz_join (fun (j : Option (Int32)) => j = some y → gz_go C 0 0 M [] 21 []) hF (fun hF => ?_) (fun j21 hj21 hF => ?_)
  · skip
    refine gz_iconst 21 hC (-1 : Int32) dX10_holds_21 gz_km1 ?_
    exact gz_iretP 22 hC hX dX10_holds_22 hF
  refine gz_if_eq 9 21 hC dX10_holds_9 (by decide) hF (fun hF => ?_) (fun hF => ?_)
  · skip
    refine gz_sub [] [] rfl ?_
    exact hj21 hF
  · skip
    refine gz_aload_n 12 hC 0 dX10_holds_12 rfl rfl ?_
    refine gz_getR 13 hC fl_X10_7 fk_10_0 dX10_holds_13 hF (fun x2 hF => ?_)
    refine gz_iload_n 16 hC 1 dX10_holds_16 rfl rfl ?_
    refine gz_iald 17 hC dX10_holds_17 hF (fun x3 hF => ?_)
    refine gz_if_ne 18 23 hC dX10_holds_18 (by decide) hF (fun hF => ?_) (fun hF => ?_)
    · skip
      refine gz_aload_n 23 hC 0 dX10_holds_23 rfl rfl ?_
      refine gz_getR 24 hC fl_X10_7 fk_10_0 dX10_holds_24 hF (fun x4 hF => ?_)
      refine gz_iload_n 27 hC 1 dX10_holds_27 rfl rfl ?_
      refine gz_iald 28 hC dX10_holds_28 hF (fun x5 hF => ?_)
      refine gz_iconst 29 hC (1 : Int32) dX10_holds_29 gz_k1 ?_
      refine gz_join (fun (j : Int32 → Option (Int32)) => ∀ (x10 : Int32), j x10 = some y → gz_go C 0 0 M [] 51 [.int x10]) hF (fun x10 hF => ?_) (fun j51 hj51 hF => ?_)
      · skip
        exact gz_iretP 51 hC hX dX10_holds_51 hF
      refine gz_icmp_ne 30 42 hC dX10_holds_30 (by decide) hF (fun hF => ?_) (fun hF => ?_)
      · skip
        refine gz_bipush 42 hC (10 : Int32) dX10_holds_42 gz_b10 ?_
        refine gz_aload_n 44 hC 0 dX10_holds_44 rfl rfl ?_
        refine gz_getR 45 hC fl_X10_28 fk_10_5 dX10_holds_45 hF (fun x8 hF => ?_)
        refine gz_iload_n 48 hC 1 dX10_holds_48 rfl rfl ?_
        refine gz_iald 49 hC dX10_holds_49 hF (fun x9 hF => ?_)
        refine gz_iadd 50 hC dX10_holds_50 ?_
        refine gz_sub [] [] rfl ?_
        exact hj51 _ hF
      · skip
        refine gz_aload_n 33 hC 0 dX10_holds_33 rfl rfl ?_
        refine gz_getR 34 hC fl_X10_13 fk_10_1 dX10_holds_34 hF (fun x6 hF => ?_)
        refine gz_iload_n 37 hC 1 dX10_holds_37 rfl rfl ?_
        refine gz_iald 38 hC dX10_holds_38 hF (fun x7 hF => ?_)
        refine gz_goto 39 51 hC dX10_holds_39 (by decide) ?_
        refine gz_sub [] [] rfl ?_
        exact hj51 _ hF
    · skip
      refine gz_sub [] [] rfl ?_
      exact hj21 hF

theorem dX10_tool_0 : decode cX10_tool 0 = .ok (.iload_n 1, 1) := by decide +kernel
theorem dX10_tool_1 : decode cX10_tool 1 = .ok (.i2l, 1) := by decide +kernel
theorem dX10_tool_2 : decode cX10_tool 2 = .ok (.lconst 0, 1) := by decide +kernel
theorem dX10_tool_3 : decode cX10_tool 3 = .ok (.ldc2_w 91, 3) := by decide +kernel
theorem dX10_tool_6 : decode cX10_tool 6 = .ok (.invokestatic 73, 3) := by decide +kernel
theorem dX10_tool_9 : decode cX10_tool 9 = .ok (.ifCond .eq 40, 3) := by decide +kernel
theorem dX10_tool_12 : decode cX10_tool 12 = .ok (.iload_n 2, 1) := by decide +kernel
theorem dX10_tool_13 : decode cX10_tool 13 = .ok (.i2l, 1) := by decide +kernel
theorem dX10_tool_14 : decode cX10_tool 14 = .ok (.lconst 1, 1) := by decide +kernel
theorem dX10_tool_15 : decode cX10_tool 15 = .ok (.ldc2_w 104, 3) := by decide +kernel
theorem dX10_tool_18 : decode cX10_tool 18 = .ok (.invokestatic 73, 3) := by decide +kernel
theorem dX10_tool_21 : decode cX10_tool 21 = .ok (.ifCond .eq 28, 3) := by decide +kernel
theorem dX10_tool_24 : decode cX10_tool 24 = .ok (.iload_n 3, 1) := by decide +kernel
theorem dX10_tool_25 : decode cX10_tool 25 = .ok (.i2l, 1) := by decide +kernel
theorem dX10_tool_26 : decode cX10_tool 26 = .ok (.lconst 0, 1) := by decide +kernel
theorem dX10_tool_27 : decode cX10_tool 27 = .ok (.ldc2_w 106, 3) := by decide +kernel
theorem dX10_tool_30 : decode cX10_tool 30 = .ok (.invokestatic 73, 3) := by decide +kernel
theorem dX10_tool_33 : decode cX10_tool 33 = .ok (.ifCond .eq 16, 3) := by decide +kernel
theorem dX10_tool_36 : decode cX10_tool 36 = .ok (.iload 4, 2) := by decide +kernel
theorem dX10_tool_38 : decode cX10_tool 38 = .ok (.i2l, 1) := by decide +kernel
theorem dX10_tool_39 : decode cX10_tool 39 = .ok (.lconst 0, 1) := by decide +kernel
theorem dX10_tool_40 : decode cX10_tool 40 = .ok (.ldc2_w 108, 3) := by decide +kernel
theorem dX10_tool_43 : decode cX10_tool 43 = .ok (.invokestatic 73, 3) := by decide +kernel
theorem dX10_tool_46 : decode cX10_tool 46 = .ok (.ifCond .ne 10, 3) := by decide +kernel
theorem dX10_tool_49 : decode cX10_tool 49 = .ok (.aload_n 0, 1) := by decide +kernel
theorem dX10_tool_50 : decode cX10_tool 50 = .ok (.bipush (-2), 2) := by decide +kernel
theorem dX10_tool_52 : decode cX10_tool 52 = .ok (.invokevirtual 97, 3) := by decide +kernel
theorem dX10_tool_55 : decode cX10_tool 55 = .ok (.ireturn, 1) := by decide +kernel
theorem dX10_tool_56 : decode cX10_tool 56 = .ok (.aload_n 0, 1) := by decide +kernel
theorem dX10_tool_57 : decode cX10_tool 57 = .ok (.getfield 7, 3) := by decide +kernel
theorem dX10_tool_60 : decode cX10_tool 60 = .ok (.iload_n 1, 1) := by decide +kernel
theorem dX10_tool_61 : decode cX10_tool 61 = .ok (.iconst 2, 1) := by decide +kernel
theorem dX10_tool_62 : decode cX10_tool 62 = .ok (.iastore, 1) := by decide +kernel
theorem dX10_tool_63 : decode cX10_tool 63 = .ok (.aload_n 0, 1) := by decide +kernel
theorem dX10_tool_64 : decode cX10_tool 64 = .ok (.getfield 28, 3) := by decide +kernel
theorem dX10_tool_67 : decode cX10_tool 67 = .ok (.iload_n 1, 1) := by decide +kernel
theorem dX10_tool_68 : decode cX10_tool 68 = .ok (.iload_n 2, 1) := by decide +kernel
theorem dX10_tool_69 : decode cX10_tool 69 = .ok (.iastore, 1) := by decide +kernel
theorem dX10_tool_70 : decode cX10_tool 70 = .ok (.aload_n 0, 1) := by decide +kernel
theorem dX10_tool_71 : decode cX10_tool 71 = .ok (.getfield 31, 3) := by decide +kernel
theorem dX10_tool_74 : decode cX10_tool 74 = .ok (.iload_n 1, 1) := by decide +kernel
theorem dX10_tool_75 : decode cX10_tool 75 = .ok (.iload_n 3, 1) := by decide +kernel
theorem dX10_tool_76 : decode cX10_tool 76 = .ok (.iastore, 1) := by decide +kernel
theorem dX10_tool_77 : decode cX10_tool 77 = .ok (.aload_n 0, 1) := by decide +kernel
theorem dX10_tool_78 : decode cX10_tool 78 = .ok (.getfield 34, 3) := by decide +kernel
theorem dX10_tool_81 : decode cX10_tool 81 = .ok (.iload_n 1, 1) := by decide +kernel
theorem dX10_tool_82 : decode cX10_tool 82 = .ok (.iload 4, 2) := by decide +kernel
theorem dX10_tool_84 : decode cX10_tool 84 = .ok (.iastore, 1) := by decide +kernel
theorem dX10_tool_85 : decode cX10_tool 85 = .ok (.iconst 1, 1) := by decide +kernel
theorem dX10_tool_86 : decode cX10_tool 86 = .ok (.ireturn, 1) := by decide +kernel

def f_X10_tool (fu : Nat) (M : gz_M) (a0 : Nat) (a1 : Int32) (a2 : Int32) (a3 : Int32) (a4 : Int32) : Option (Int32 × gz_M) :=
  gz_gd M 10 a0 <|
  (f_X10_in fu M (a1).toInt64 (0 : Int64) (7 : Int64)).bind fun x1 =>
  gz_jn (gz_b2 (f_X10_refuse fu M a0 (-2 : Int32)) fun x13 M14 =>
    some (x13, M14)) fun j49 =>
  if x1 = 0 then
    j49
  else
    (f_X10_in fu M (a2).toInt64 (1 : Int64) (5 : Int64)).bind fun x2 =>
    if x2 = 0 then
      j49
    else
      (f_X10_in fu M (a3).toInt64 (0 : Int64) (9 : Int64)).bind fun x3 =>
      if x3 = 0 then
        j49
      else
        (f_X10_in fu M (a4).toInt64 (0 : Int64) (30 : Int64)).bind fun x4 =>
        if x4 = 0 then
          j49
        else
          (gz_gR M 10 0 a0).bind fun x5 =>
          (gz_tI M x5 a1 (2 : Int32)).bind fun M6 =>
          (gz_gR M6 10 5 a0).bind fun x7 =>
          (gz_tI M6 x7 a1 a2).bind fun M8 =>
          (gz_gR M8 10 6 a0).bind fun x9 =>
          (gz_tI M8 x9 a1 a3).bind fun M10 =>
          (gz_gR M10 10 7 a0).bind fun x11 =>
          (gz_tI M10 x11 a1 a4).bind fun M12 =>
          some ((1 : Int32), M12)

set_option maxHeartbeats 4000000 in
theorem ct_X10_tool (l : Launch) (G : gz_G) (fu : Nat) (M : gz_M) (a0 : Nat) (a1 : Int32) (a2 : Int32) (a3 : Int32) (a4 : Int32) (y : Int32 × gz_M) (hF : f_X10_tool fu M a0 a1 a2 a3 a4 = some y) : gz_ct l yX10_tool cX10_tool 5 (some .int) 1 25 0 0 G [.ref a0, .int a1, .int a2, .int a3, .int a4] M (some (.int y.1)) y.2 := by
  refine gz_ct.of (by decide) (Nat.le_of_ble_eq_true rfl) (fun C hC hX => ?_)
  unfold f_X10_tool at hF
  obtain ⟨-, hF⟩ := gz_gd_some hF
  show gz_go C 0 0 M [(0, .ref a0), (1, .int a1), (2, .int a2), (3, .int a3), (4, .int a4)] 0 []
  refine gz_iload_n 0 hC 1 dX10_tool_0 rfl rfl ?_
  refine gz_i2l 1 hC dX10_tool_1 ?_
  refine gz_lconst 2 hC (0 : Int64) dX10_tool_2 gz_l0 ?_
  refine gz_ldc2 3 hC dX10_tool_3 q_1169 ?_
  refine gz_csP (st := []) 6 hC hX [.long (a1).toInt64, .long (0 : Int64), .long (7 : Int64)] Value.int yl_X10_in yv_X10_in q_1170 ⟨Nat.le_of_ble_eq_true rfl, Nat.le_of_ble_eq_true rfl⟩ (fun r h => ct_X10_in _ _ fu M (a1).toInt64 (0 : Int64) (7 : Int64) r h) rfl rfl (Nat.le_of_ble_eq_true rfl) dX10_tool_6 gz_00 hF (fun x1 hF => ?_)
  refine gz_join (fun (j : Option (Int32 × gz_M)) => j = some y → gz_go C 0 0 M [(0, .ref a0)] 49 []) hF (fun hF => ?_) (fun j49 hj49 hF => ?_)
  · skip
    refine gz_aload_n 49 hC 0 dX10_tool_49 rfl rfl ?_
    refine gz_bipush 50 hC (-2 : Int32) dX10_tool_50 gz_bm2 ?_
    refine gz_cvM (st := []) 52 hC hX [.int (-2 : Int32)] Value.int yl_X10_refuse yv_X10_refuse q_1175 ⟨Nat.le_of_ble_eq_true rfl, Nat.le_of_ble_eq_true rfl⟩ ⟨_, rfl⟩ (fun r h => ct_X10_refuse _ _ fu M a0 (-2 : Int32) r h) rfl rfl (Nat.le_of_ble_eq_true rfl) dX10_tool_52 gz_00 hF (fun x13 M14 hF => ?_)
    exact gz_iretM 55 hC hX dX10_tool_55 hF
  refine gz_if_eq 9 49 hC dX10_tool_9 (by decide) hF (fun hF => ?_) (fun hF => ?_)
  · skip
    refine gz_sub [0] [(0, .ref a0)] rfl ?_
    exact hj49 hF
  · skip
    refine gz_iload_n 12 hC 2 dX10_tool_12 rfl rfl ?_
    refine gz_i2l 13 hC dX10_tool_13 ?_
    refine gz_lconst 14 hC (1 : Int64) dX10_tool_14 gz_l1 ?_
    refine gz_ldc2 15 hC dX10_tool_15 q_1202 ?_
    refine gz_csP (st := []) 18 hC hX [.long (a2).toInt64, .long (1 : Int64), .long (5 : Int64)] Value.int yl_X10_in yv_X10_in q_1170 ⟨Nat.le_of_ble_eq_true rfl, Nat.le_of_ble_eq_true rfl⟩ (fun r h => ct_X10_in _ _ fu M (a2).toInt64 (1 : Int64) (5 : Int64) r h) rfl rfl (Nat.le_of_ble_eq_true rfl) dX10_tool_18 gz_00 hF (fun x2 hF => ?_)
    refine gz_if_eq 21 49 hC dX10_tool_21 (by decide) hF (fun hF => ?_) (fun hF => ?_)
    · skip
      refine gz_sub [0] [(0, .ref a0)] rfl ?_
      exact hj49 hF
    · skip
      refine gz_iload_n 24 hC 3 dX10_tool_24 rfl rfl ?_
      refine gz_i2l 25 hC dX10_tool_25 ?_
      refine gz_lconst 26 hC (0 : Int64) dX10_tool_26 gz_l0 ?_
      refine gz_ldc2 27 hC dX10_tool_27 q_1203 ?_
      refine gz_csP (st := []) 30 hC hX [.long (a3).toInt64, .long (0 : Int64), .long (9 : Int64)] Value.int yl_X10_in yv_X10_in q_1170 ⟨Nat.le_of_ble_eq_true rfl, Nat.le_of_ble_eq_true rfl⟩ (fun r h => ct_X10_in _ _ fu M (a3).toInt64 (0 : Int64) (9 : Int64) r h) rfl rfl (Nat.le_of_ble_eq_true rfl) dX10_tool_30 gz_00 hF (fun x3 hF => ?_)
      refine gz_if_eq 33 49 hC dX10_tool_33 (by decide) hF (fun hF => ?_) (fun hF => ?_)
      · skip
        refine gz_sub [0] [(0, .ref a0)] rfl ?_
        exact hj49 hF
      · skip
        refine gz_iload 36 hC 4 dX10_tool_36 rfl ?_
        refine gz_i2l 38 hC dX10_tool_38 ?_
        refine gz_lconst 39 hC (0 : Int64) dX10_tool_39 gz_l0 ?_
        refine gz_ldc2 40 hC dX10_tool_40 q_1204 ?_
        refine gz_csP (st := []) 43 hC hX [.long (a4).toInt64, .long (0 : Int64), .long (30 : Int64)] Value.int yl_X10_in yv_X10_in q_1170 ⟨Nat.le_of_ble_eq_true rfl, Nat.le_of_ble_eq_true rfl⟩ (fun r h => ct_X10_in _ _ fu M (a4).toInt64 (0 : Int64) (30 : Int64) r h) rfl rfl (Nat.le_of_ble_eq_true rfl) dX10_tool_43 gz_00 hF (fun x4 hF => ?_)
        refine gz_if_ne 46 56 hC dX10_tool_46 (by decide) hF (fun hF => ?_) (fun hF => ?_)
        · skip
          refine gz_aload_n 56 hC 0 dX10_tool_56 rfl rfl ?_
          refine gz_getR 57 hC fl_X10_7 fk_10_0 dX10_tool_57 hF (fun x5 hF => ?_)
          refine gz_iload_n 60 hC 1 dX10_tool_60 rfl rfl ?_
          refine gz_iconst 61 hC (2 : Int32) dX10_tool_61 gz_k2 ?_
          refine gz_iast 62 hC dX10_tool_62 hF (fun M6 hF => ?_)
          refine gz_aload_n 63 hC 0 dX10_tool_63 rfl rfl ?_
          refine gz_getR 64 hC fl_X10_28 fk_10_5 dX10_tool_64 hF (fun x7 hF => ?_)
          refine gz_iload_n 67 hC 1 dX10_tool_67 rfl rfl ?_
          refine gz_iload_n 68 hC 2 dX10_tool_68 rfl rfl ?_
          refine gz_iast 69 hC dX10_tool_69 hF (fun M8 hF => ?_)
          refine gz_aload_n 70 hC 0 dX10_tool_70 rfl rfl ?_
          refine gz_getR 71 hC fl_X10_31 fk_10_6 dX10_tool_71 hF (fun x9 hF => ?_)
          refine gz_iload_n 74 hC 1 dX10_tool_74 rfl rfl ?_
          refine gz_iload_n 75 hC 3 dX10_tool_75 rfl rfl ?_
          refine gz_iast 76 hC dX10_tool_76 hF (fun M10 hF => ?_)
          refine gz_aload_n 77 hC 0 dX10_tool_77 rfl rfl ?_
          refine gz_getR 78 hC fl_X10_34 fk_10_7 dX10_tool_78 hF (fun x11 hF => ?_)
          refine gz_iload_n 81 hC 1 dX10_tool_81 rfl rfl ?_
          refine gz_iload 82 hC 4 dX10_tool_82 rfl ?_
          refine gz_iast 84 hC dX10_tool_84 hF (fun M12 hF => ?_)
          refine gz_iconst 85 hC (1 : Int32) dX10_tool_85 gz_k1 ?_
          exact gz_iretM 86 hC hX dX10_tool_86 hF
        · skip
          refine gz_sub [0] [(0, .ref a0)] rfl ?_
          exact hj49 hF

theorem dX10_says_0 : decode cX10_says 0 = .ok (.iload_n 1, 1) := by decide +kernel
theorem dX10_says_1 : decode cX10_says 1 = .ok (.i2l, 1) := by decide +kernel
theorem dX10_says_2 : decode cX10_says 2 = .ok (.lconst 0, 1) := by decide +kernel
theorem dX10_says_3 : decode cX10_says 3 = .ok (.ldc2_w 91, 3) := by decide +kernel
theorem dX10_says_6 : decode cX10_says 6 = .ok (.invokestatic 73, 3) := by decide +kernel
theorem dX10_says_9 : decode cX10_says 9 = .ok (.ifCond .eq 15, 3) := by decide +kernel
theorem dX10_says_12 : decode cX10_says 12 = .ok (.iload_n 2, 1) := by decide +kernel
theorem dX10_says_13 : decode cX10_says 13 = .ok (.i2l, 1) := by decide +kernel
theorem dX10_says_14 : decode cX10_says 14 = .ok (.lconst 0, 1) := by decide +kernel
theorem dX10_says_15 : decode cX10_says 15 = .ok (.ldc2_w 104, 3) := by decide +kernel
theorem dX10_says_18 : decode cX10_says 18 = .ok (.invokestatic 73, 3) := by decide +kernel
theorem dX10_says_21 : decode cX10_says 21 = .ok (.ifCond .ne 10, 3) := by decide +kernel
theorem dX10_says_24 : decode cX10_says 24 = .ok (.aload_n 0, 1) := by decide +kernel
theorem dX10_says_25 : decode cX10_says 25 = .ok (.bipush (-2), 2) := by decide +kernel
theorem dX10_says_27 : decode cX10_says 27 = .ok (.invokevirtual 97, 3) := by decide +kernel
theorem dX10_says_30 : decode cX10_says 30 = .ok (.ireturn, 1) := by decide +kernel
theorem dX10_says_31 : decode cX10_says 31 = .ok (.aload_n 0, 1) := by decide +kernel
theorem dX10_says_32 : decode cX10_says 32 = .ok (.getfield 7, 3) := by decide +kernel
theorem dX10_says_35 : decode cX10_says 35 = .ok (.iload_n 1, 1) := by decide +kernel
theorem dX10_says_36 : decode cX10_says 36 = .ok (.iaload, 1) := by decide +kernel
theorem dX10_says_37 : decode cX10_says 37 = .ok (.iconst 2, 1) := by decide +kernel
theorem dX10_says_38 : decode cX10_says 38 = .ok (.if_icmp .ne 36, 3) := by decide +kernel
theorem dX10_says_41 : decode cX10_says 41 = .ok (.iload_n 2, 1) := by decide +kernel
theorem dX10_says_42 : decode cX10_says 42 = .ok (.ifCond .eq 28, 3) := by decide +kernel
theorem dX10_says_45 : decode cX10_says 45 = .ok (.aload_n 0, 1) := by decide +kernel
theorem dX10_says_46 : decode cX10_says 46 = .ok (.getfield 28, 3) := by decide +kernel
theorem dX10_says_49 : decode cX10_says 49 = .ok (.iload_n 1, 1) := by decide +kernel
theorem dX10_says_50 : decode cX10_says 50 = .ok (.iaload, 1) := by decide +kernel
theorem dX10_says_51 : decode cX10_says 51 = .ok (.iload_n 2, 1) := by decide +kernel
theorem dX10_says_52 : decode cX10_says 52 = .ok (.if_icmp .eq 18, 3) := by decide +kernel
theorem dX10_says_55 : decode cX10_says 55 = .ok (.iload_n 2, 1) := by decide +kernel
theorem dX10_says_56 : decode cX10_says 56 = .ok (.iconst 1, 1) := by decide +kernel
theorem dX10_says_57 : decode cX10_says 57 = .ok (.if_icmp .ne 17, 3) := by decide +kernel
theorem dX10_says_60 : decode cX10_says 60 = .ok (.aload_n 0, 1) := by decide +kernel
theorem dX10_says_61 : decode cX10_says 61 = .ok (.getfield 28, 3) := by decide +kernel
theorem dX10_says_64 : decode cX10_says 64 = .ok (.iload_n 1, 1) := by decide +kernel
theorem dX10_says_65 : decode cX10_says 65 = .ok (.iaload, 1) := by decide +kernel
theorem dX10_says_66 : decode cX10_says 66 = .ok (.iconst 3, 1) := by decide +kernel
theorem dX10_says_67 : decode cX10_says 67 = .ok (.if_icmp .eq 7, 3) := by decide +kernel
theorem dX10_says_70 : decode cX10_says 70 = .ok (.iconst 1, 1) := by decide +kernel
theorem dX10_says_71 : decode cX10_says 71 = .ok (.goto 4, 3) := by decide +kernel
theorem dX10_says_74 : decode cX10_says 74 = .ok (.iconst 0, 1) := by decide +kernel
theorem dX10_says_75 : decode cX10_says 75 = .ok (.istore_n 3, 1) := by decide +kernel
theorem dX10_says_76 : decode cX10_says 76 = .ok (.aload_n 0, 1) := by decide +kernel
theorem dX10_says_77 : decode cX10_says 77 = .ok (.getfield 7, 3) := by decide +kernel
theorem dX10_says_80 : decode cX10_says 80 = .ok (.iload_n 1, 1) := by decide +kernel
theorem dX10_says_81 : decode cX10_says 81 = .ok (.iaload, 1) := by decide +kernel
theorem dX10_says_82 : decode cX10_says 82 = .ok (.iconst 1, 1) := by decide +kernel
theorem dX10_says_83 : decode cX10_says 83 = .ok (.if_icmp .eq 17, 3) := by decide +kernel
theorem dX10_says_86 : decode cX10_says 86 = .ok (.aload_n 0, 1) := by decide +kernel
theorem dX10_says_87 : decode cX10_says 87 = .ok (.getfield 7, 3) := by decide +kernel
theorem dX10_says_90 : decode cX10_says 90 = .ok (.iload_n 1, 1) := by decide +kernel
theorem dX10_says_91 : decode cX10_says 91 = .ok (.iaload, 1) := by decide +kernel
theorem dX10_says_92 : decode cX10_says 92 = .ok (.iconst 2, 1) := by decide +kernel
theorem dX10_says_93 : decode cX10_says 93 = .ok (.if_icmp .ne 14, 3) := by decide +kernel
theorem dX10_says_96 : decode cX10_says 96 = .ok (.iload_n 3, 1) := by decide +kernel
theorem dX10_says_97 : decode cX10_says 97 = .ok (.ifCond .ne 10, 3) := by decide +kernel
theorem dX10_says_100 : decode cX10_says 100 = .ok (.aload_n 0, 1) := by decide +kernel
theorem dX10_says_101 : decode cX10_says 101 = .ok (.bipush (-3), 2) := by decide +kernel
theorem dX10_says_103 : decode cX10_says 103 = .ok (.invokevirtual 97, 3) := by decide +kernel
theorem dX10_says_106 : decode cX10_says 106 = .ok (.ireturn, 1) := by decide +kernel
theorem dX10_says_107 : decode cX10_says 107 = .ok (.aload_n 0, 1) := by decide +kernel
theorem dX10_says_108 : decode cX10_says 108 = .ok (.getfield 7, 3) := by decide +kernel
theorem dX10_says_111 : decode cX10_says 111 = .ok (.iload_n 1, 1) := by decide +kernel
theorem dX10_says_112 : decode cX10_says 112 = .ok (.iaload, 1) := by decide +kernel
theorem dX10_says_113 : decode cX10_says 113 = .ok (.ifCond .ne 10, 3) := by decide +kernel
theorem dX10_says_116 : decode cX10_says 116 = .ok (.aload_n 0, 1) := by decide +kernel
theorem dX10_says_117 : decode cX10_says 117 = .ok (.bipush (-4), 2) := by decide +kernel
theorem dX10_says_119 : decode cX10_says 119 = .ok (.invokevirtual 97, 3) := by decide +kernel
theorem dX10_says_122 : decode cX10_says 122 = .ok (.ireturn, 1) := by decide +kernel
theorem dX10_says_123 : decode cX10_says 123 = .ok (.iload_n 2, 1) := by decide +kernel
theorem dX10_says_124 : decode cX10_says 124 = .ok (.lookupswitch 79 #[(0, 28), (1, 35)], 28) := by decide +kernel
theorem dX10_says_152 : decode cX10_says 152 = .ok (.aload_n 0, 1) := by decide +kernel
theorem dX10_says_153 : decode cX10_says 153 = .ok (.getfield 31, 3) := by decide +kernel
theorem dX10_says_156 : decode cX10_says 156 = .ok (.iload_n 1, 1) := by decide +kernel
theorem dX10_says_157 : decode cX10_says 157 = .ok (.iaload, 1) := by decide +kernel
theorem dX10_says_158 : decode cX10_says 158 = .ok (.ireturn, 1) := by decide +kernel
theorem dX10_says_159 : decode cX10_says 159 = .ok (.aload_n 0, 1) := by decide +kernel
theorem dX10_says_160 : decode cX10_says 160 = .ok (.getfield 28, 3) := by decide +kernel
theorem dX10_says_163 : decode cX10_says 163 = .ok (.iload_n 1, 1) := by decide +kernel
theorem dX10_says_164 : decode cX10_says 164 = .ok (.iaload, 1) := by decide +kernel
theorem dX10_says_165 : decode cX10_says 165 = .ok (.iconst 2, 1) := by decide +kernel
theorem dX10_says_166 : decode cX10_says 166 = .ok (.if_icmp .ne 7, 3) := by decide +kernel
theorem dX10_says_169 : decode cX10_says 169 = .ok (.iconst 2, 1) := by decide +kernel
theorem dX10_says_170 : decode cX10_says 170 = .ok (.goto 32, 3) := by decide +kernel
theorem dX10_says_173 : decode cX10_says 173 = .ok (.aload_n 0, 1) := by decide +kernel
theorem dX10_says_174 : decode cX10_says 174 = .ok (.getfield 28, 3) := by decide +kernel
theorem dX10_says_177 : decode cX10_says 177 = .ok (.iload_n 1, 1) := by decide +kernel
theorem dX10_says_178 : decode cX10_says 178 = .ok (.iaload, 1) := by decide +kernel
theorem dX10_says_179 : decode cX10_says 179 = .ok (.iconst 4, 1) := by decide +kernel
theorem dX10_says_180 : decode cX10_says 180 = .ok (.if_icmp .ne 7, 3) := by decide +kernel
theorem dX10_says_183 : decode cX10_says 183 = .ok (.iconst 3, 1) := by decide +kernel
theorem dX10_says_184 : decode cX10_says 184 = .ok (.goto 18, 3) := by decide +kernel
theorem dX10_says_187 : decode cX10_says 187 = .ok (.aload_n 0, 1) := by decide +kernel
theorem dX10_says_188 : decode cX10_says 188 = .ok (.getfield 28, 3) := by decide +kernel
theorem dX10_says_191 : decode cX10_says 191 = .ok (.iload_n 1, 1) := by decide +kernel
theorem dX10_says_192 : decode cX10_says 192 = .ok (.iaload, 1) := by decide +kernel
theorem dX10_says_193 : decode cX10_says 193 = .ok (.iconst 5, 1) := by decide +kernel
theorem dX10_says_194 : decode cX10_says 194 = .ok (.if_icmp .ne 7, 3) := by decide +kernel
theorem dX10_says_197 : decode cX10_says 197 = .ok (.iconst 4, 1) := by decide +kernel
theorem dX10_says_198 : decode cX10_says 198 = .ok (.goto 4, 3) := by decide +kernel
theorem dX10_says_201 : decode cX10_says 201 = .ok (.iconst 1, 1) := by decide +kernel
theorem dX10_says_202 : decode cX10_says 202 = .ok (.ireturn, 1) := by decide +kernel
theorem dX10_says_203 : decode cX10_says 203 = .ok (.aload_n 0, 1) := by decide +kernel
theorem dX10_says_204 : decode cX10_says 204 = .ok (.getfield 34, 3) := by decide +kernel
theorem dX10_says_207 : decode cX10_says 207 = .ok (.iload_n 1, 1) := by decide +kernel
theorem dX10_says_208 : decode cX10_says 208 = .ok (.iaload, 1) := by decide +kernel
theorem dX10_says_209 : decode cX10_says 209 = .ok (.ireturn, 1) := by decide +kernel

def f_X10_says (fu : Nat) (M : gz_M) (a0 : Nat) (a1 : Int32) (a2 : Int32) : Option (Int32 × gz_M) :=
  gz_gd M 10 a0 <|
  (f_X10_in fu M (a1).toInt64 (0 : Int64) (7 : Int64)).bind fun x1 =>
  gz_jn (gz_b2 (f_X10_refuse fu M a0 (-2 : Int32)) fun x31 M32 =>
    some (x31, M32)) fun j24 =>
  if x1 = 0 then
    j24
  else
    (f_X10_in fu M (a2).toInt64 (0 : Int64) (5 : Int64)).bind fun x2 =>
    if x2 = 0 then
      j24
    else
      (gz_gR M 10 0 a0).bind fun x3 =>
      (gz_aI M x3 a1).bind fun x4 =>
      gz_jn (fun (x9 : Int32) =>
      (gz_gR M 10 0 a0).bind fun x10 =>
        (gz_aI M x10 a1).bind fun x11 =>
        gz_jn (gz_b2 (f_X10_refuse fu M a0 (-3 : Int32)) fun x29 M30 =>
          some (x29, M30)) fun j100 =>
        if x11 = (1 : Int32) then
          j100
        else
          (gz_gR M 10 0 a0).bind fun x12 =>
          (gz_aI M x12 a1).bind fun x13 =>
          gz_jn ((gz_gR M 10 0 a0).bind fun x14 =>
            (gz_aI M x14 a1).bind fun x15 =>
            if x15 = 0 then
              gz_b2 (f_X10_refuse fu M a0 (-4 : Int32)) fun x16 M17 =>
              some (x16, M17)
            else
              if a2 = (0 : Int32) then (gz_gR M 10 6 a0).bind fun x27 =>
                (gz_aI M x27 a1).bind fun x28 =>
                some (x28, M) else if a2 = (1 : Int32) then (gz_gR M 10 5 a0).bind fun x20 =>
                (gz_aI M x20 a1).bind fun x21 =>
                gz_jn (fun (x26 : Int32) =>
                some (x26, M)) fun j202 =>
                if x21 = (2 : Int32) then
                  j202 (2 : Int32)
                else
                  (gz_gR M 10 5 a0).bind fun x22 =>
                  (gz_aI M x22 a1).bind fun x23 =>
                  if x23 = (4 : Int32) then
                    j202 (3 : Int32)
                  else
                    (gz_gR M 10 5 a0).bind fun x24 =>
                    (gz_aI M x24 a1).bind fun x25 =>
                    if x25 = (5 : Int32) then
                      j202 (4 : Int32)
                    else
                      j202 (1 : Int32) else (gz_gR M 10 7 a0).bind fun x18 =>
              (gz_aI M x18 a1).bind fun x19 =>
              some (x19, M)) fun j107 =>
          if x13 = (2 : Int32) then
            if x9 = 0 then
              j100
            else
              j107
          else
            j107) fun j75 =>
      gz_jn (j75 (0 : Int32)) fun j74 =>
      if x4 = (2 : Int32) then
        gz_jn (j75 (1 : Int32)) fun j70 =>
        if a2 = 0 then
          j70
        else
          (gz_gR M 10 5 a0).bind fun x5 =>
          (gz_aI M x5 a1).bind fun x6 =>
          if x6 = a2 then
            j70
          else
            if a2 = (1 : Int32) then
              (gz_gR M 10 5 a0).bind fun x7 =>
              (gz_aI M x7 a1).bind fun x8 =>
              if x8 = (3 : Int32) then
                j74
              else
                j70
            else
              j74
      else
        j74

set_option maxHeartbeats 4000000 in
theorem ct_X10_says (l : Launch) (G : gz_G) (fu : Nat) (M : gz_M) (a0 : Nat) (a1 : Int32) (a2 : Int32) (y : Int32 × gz_M) (hF : f_X10_says fu M a0 a1 a2 = some y) : gz_ct l yX10_says cX10_says 4 (some .int) 1 25 0 0 G [.ref a0, .int a1, .int a2] M (some (.int y.1)) y.2 := by
  refine gz_ct.of (by decide) (Nat.le_of_ble_eq_true rfl) (fun C hC hX => ?_)
  unfold f_X10_says at hF
  obtain ⟨-, hF⟩ := gz_gd_some hF
  show gz_go C 0 0 M [(0, .ref a0), (1, .int a1), (2, .int a2)] 0 []
  refine gz_iload_n 0 hC 1 dX10_says_0 rfl rfl ?_
  refine gz_i2l 1 hC dX10_says_1 ?_
  refine gz_lconst 2 hC (0 : Int64) dX10_says_2 gz_l0 ?_
  refine gz_ldc2 3 hC dX10_says_3 q_1169 ?_
  refine gz_csP (st := []) 6 hC hX [.long (a1).toInt64, .long (0 : Int64), .long (7 : Int64)] Value.int yl_X10_in yv_X10_in q_1170 ⟨Nat.le_of_ble_eq_true rfl, Nat.le_of_ble_eq_true rfl⟩ (fun r h => ct_X10_in _ _ fu M (a1).toInt64 (0 : Int64) (7 : Int64) r h) rfl rfl (Nat.le_of_ble_eq_true rfl) dX10_says_6 gz_00 hF (fun x1 hF => ?_)
  refine gz_join (fun (j : Option (Int32 × gz_M)) => j = some y → gz_go C 0 0 M [(0, .ref a0)] 24 []) hF (fun hF => ?_) (fun j24 hj24 hF => ?_)
  · skip
    refine gz_aload_n 24 hC 0 dX10_says_24 rfl rfl ?_
    refine gz_bipush 25 hC (-2 : Int32) dX10_says_25 gz_bm2 ?_
    refine gz_cvM (st := []) 27 hC hX [.int (-2 : Int32)] Value.int yl_X10_refuse yv_X10_refuse q_1175 ⟨Nat.le_of_ble_eq_true rfl, Nat.le_of_ble_eq_true rfl⟩ ⟨_, rfl⟩ (fun r h => ct_X10_refuse _ _ fu M a0 (-2 : Int32) r h) rfl rfl (Nat.le_of_ble_eq_true rfl) dX10_says_27 gz_00 hF (fun x31 M32 hF => ?_)
    exact gz_iretM 30 hC hX dX10_says_30 hF
  refine gz_if_eq 9 24 hC dX10_says_9 (by decide) hF (fun hF => ?_) (fun hF => ?_)
  · skip
    refine gz_sub [0] [(0, .ref a0)] rfl ?_
    exact hj24 hF
  · skip
    refine gz_iload_n 12 hC 2 dX10_says_12 rfl rfl ?_
    refine gz_i2l 13 hC dX10_says_13 ?_
    refine gz_lconst 14 hC (0 : Int64) dX10_says_14 gz_l0 ?_
    refine gz_ldc2 15 hC dX10_says_15 q_1202 ?_
    refine gz_csP (st := []) 18 hC hX [.long (a2).toInt64, .long (0 : Int64), .long (5 : Int64)] Value.int yl_X10_in yv_X10_in q_1170 ⟨Nat.le_of_ble_eq_true rfl, Nat.le_of_ble_eq_true rfl⟩ (fun r h => ct_X10_in _ _ fu M (a2).toInt64 (0 : Int64) (5 : Int64) r h) rfl rfl (Nat.le_of_ble_eq_true rfl) dX10_says_18 gz_00 hF (fun x2 hF => ?_)
    refine gz_if_ne 21 31 hC dX10_says_21 (by decide) hF (fun hF => ?_) (fun hF => ?_)
    · skip
      refine gz_aload_n 31 hC 0 dX10_says_31 rfl rfl ?_
      refine gz_getR 32 hC fl_X10_7 fk_10_0 dX10_says_32 hF (fun x3 hF => ?_)
      refine gz_iload_n 35 hC 1 dX10_says_35 rfl rfl ?_
      refine gz_iald 36 hC dX10_says_36 hF (fun x4 hF => ?_)
      refine gz_iconst 37 hC (2 : Int32) dX10_says_37 gz_k2 ?_
      refine gz_join (fun (j : Int32 → Option (Int32 × gz_M)) => ∀ (x9 : Int32), j x9 = some y → gz_go C 0 0 M [(0, .ref a0), (1, .int a1), (2, .int a2)] 75 [.int x9]) hF (fun x9 hF => ?_) (fun j75 hj75 hF => ?_)
      · skip
        refine gz_istore_n 75 hC [(3, .int x9), (0, .ref a0), (1, .int a1), (2, .int a2)] dX10_says_75 rfl (by decide) rfl ?_
        refine gz_aload_n 76 hC 1 dX10_says_76 rfl rfl ?_
        refine gz_getR 77 hC fl_X10_7 fk_10_0 dX10_says_77 hF (fun x10 hF => ?_)
        refine gz_iload_n 80 hC 2 dX10_says_80 rfl rfl ?_
        refine gz_iald 81 hC dX10_says_81 hF (fun x11 hF => ?_)
        refine gz_iconst 82 hC (1 : Int32) dX10_says_82 gz_k1 ?_
        refine gz_join (fun (j : Option (Int32 × gz_M)) => j = some y → gz_go C 0 0 M [(0, .ref a0)] 100 []) hF (fun hF => ?_) (fun j100 hj100 hF => ?_)
        · skip
          refine gz_aload_n 100 hC 0 dX10_says_100 rfl rfl ?_
          refine gz_bipush 101 hC (-3 : Int32) dX10_says_101 gz_bm3 ?_
          refine gz_cvM (st := []) 103 hC hX [.int (-3 : Int32)] Value.int yl_X10_refuse yv_X10_refuse q_1175 ⟨Nat.le_of_ble_eq_true rfl, Nat.le_of_ble_eq_true rfl⟩ ⟨_, rfl⟩ (fun r h => ct_X10_refuse _ _ fu M a0 (-3 : Int32) r h) rfl rfl (Nat.le_of_ble_eq_true rfl) dX10_says_103 gz_00 hF (fun x29 M30 hF => ?_)
          exact gz_iretM 106 hC hX dX10_says_106 hF
        refine gz_icmp_eq 83 100 hC dX10_says_83 (by decide) hF (fun hF => ?_) (fun hF => ?_)
        · skip
          refine gz_sub [1] [(0, .ref a0)] rfl ?_
          exact hj100 hF
        · skip
          refine gz_aload_n 86 hC 1 dX10_says_86 rfl rfl ?_
          refine gz_getR 87 hC fl_X10_7 fk_10_0 dX10_says_87 hF (fun x12 hF => ?_)
          refine gz_iload_n 90 hC 2 dX10_says_90 rfl rfl ?_
          refine gz_iald 91 hC dX10_says_91 hF (fun x13 hF => ?_)
          refine gz_iconst 92 hC (2 : Int32) dX10_says_92 gz_k2 ?_
          refine gz_join (fun (j : Option (Int32 × gz_M)) => j = some y → gz_go C 0 0 M [(0, .ref a0), (1, .int a1), (2, .int a2)] 107 []) hF (fun hF => ?_) (fun j107 hj107 hF => ?_)
          · skip
            refine gz_aload_n 107 hC 0 dX10_says_107 rfl rfl ?_
            refine gz_getR 108 hC fl_X10_7 fk_10_0 dX10_says_108 hF (fun x14 hF => ?_)
            refine gz_iload_n 111 hC 1 dX10_says_111 rfl rfl ?_
            refine gz_iald 112 hC dX10_says_112 hF (fun x15 hF => ?_)
            refine gz_if_ne 113 123 hC dX10_says_113 (by decide) hF (fun hF => ?_) (fun hF => ?_)
            · skip
              refine gz_iload_n 123 hC 2 dX10_says_123 rfl rfl ?_
              refine gz_cse hF (fun e0 hF => ?_) (fun e0 hF => ?_)
              · skip
                refine gz_lku 124 152 hC (off := 28) dX10_says_124 (by decide) (by rw [e0]; decide) (by decide) ?_
                refine gz_aload_n 152 hC 0 dX10_says_152 rfl rfl ?_
                refine gz_getR 153 hC fl_X10_31 fk_10_6 dX10_says_153 hF (fun x27 hF => ?_)
                refine gz_iload_n 156 hC 1 dX10_says_156 rfl rfl ?_
                refine gz_iald 157 hC dX10_says_157 hF (fun x28 hF => ?_)
                exact gz_iretM 158 hC hX dX10_says_158 hF
              refine gz_cse hF (fun e1 hF => ?_) (fun e1 hF => ?_)
              · skip
                refine gz_lku 124 159 hC (off := 35) dX10_says_124 (by decide) (by rw [e1]; decide) (by decide) ?_
                refine gz_aload_n 159 hC 0 dX10_says_159 rfl rfl ?_
                refine gz_getR 160 hC fl_X10_28 fk_10_5 dX10_says_160 hF (fun x20 hF => ?_)
                refine gz_iload_n 163 hC 1 dX10_says_163 rfl rfl ?_
                refine gz_iald 164 hC dX10_says_164 hF (fun x21 hF => ?_)
                refine gz_iconst 165 hC (2 : Int32) dX10_says_165 gz_k2 ?_
                refine gz_join (fun (j : Int32 → Option (Int32 × gz_M)) => ∀ (x26 : Int32), j x26 = some y → gz_go C 0 0 M [] 202 [.int x26]) hF (fun x26 hF => ?_) (fun j202 hj202 hF => ?_)
                · skip
                  exact gz_iretM 202 hC hX dX10_says_202 hF
                refine gz_icmp_ne 166 173 hC dX10_says_166 (by decide) hF (fun hF => ?_) (fun hF => ?_)
                · skip
                  refine gz_aload_n 173 hC 0 dX10_says_173 rfl rfl ?_
                  refine gz_getR 174 hC fl_X10_28 fk_10_5 dX10_says_174 hF (fun x22 hF => ?_)
                  refine gz_iload_n 177 hC 1 dX10_says_177 rfl rfl ?_
                  refine gz_iald 178 hC dX10_says_178 hF (fun x23 hF => ?_)
                  refine gz_iconst 179 hC (4 : Int32) dX10_says_179 gz_k4 ?_
                  refine gz_icmp_ne 180 187 hC dX10_says_180 (by decide) hF (fun hF => ?_) (fun hF => ?_)
                  · skip
                    refine gz_aload_n 187 hC 0 dX10_says_187 rfl rfl ?_
                    refine gz_getR 188 hC fl_X10_28 fk_10_5 dX10_says_188 hF (fun x24 hF => ?_)
                    refine gz_iload_n 191 hC 1 dX10_says_191 rfl rfl ?_
                    refine gz_iald 192 hC dX10_says_192 hF (fun x25 hF => ?_)
                    refine gz_iconst 193 hC (5 : Int32) dX10_says_193 gz_k5 ?_
                    refine gz_icmp_ne 194 201 hC dX10_says_194 (by decide) hF (fun hF => ?_) (fun hF => ?_)
                    · skip
                      refine gz_iconst 201 hC (1 : Int32) dX10_says_201 gz_k1 ?_
                      refine gz_sub [] [] rfl ?_
                      exact hj202 _ hF
                    · skip
                      refine gz_iconst 197 hC (4 : Int32) dX10_says_197 gz_k4 ?_
                      refine gz_goto 198 202 hC dX10_says_198 (by decide) ?_
                      refine gz_sub [] [] rfl ?_
                      exact hj202 _ hF
                  · skip
                    refine gz_iconst 183 hC (3 : Int32) dX10_says_183 gz_k3 ?_
                    refine gz_goto 184 202 hC dX10_says_184 (by decide) ?_
                    refine gz_sub [] [] rfl ?_
                    exact hj202 _ hF
                · skip
                  refine gz_iconst 169 hC (2 : Int32) dX10_says_169 gz_k2 ?_
                  refine gz_goto 170 202 hC dX10_says_170 (by decide) ?_
                  refine gz_sub [] [] rfl ?_
                  exact hj202 _ hF
              refine gz_lku 124 203 hC (off := 79) dX10_says_124 (by decide) (by rw [lv_osw e0 (by decide)]; rw [lv_osw e1 (by decide)]; rfl) (by decide) ?_
              refine gz_aload_n 203 hC 0 dX10_says_203 rfl rfl ?_
              refine gz_getR 204 hC fl_X10_34 fk_10_7 dX10_says_204 hF (fun x18 hF => ?_)
              refine gz_iload_n 207 hC 1 dX10_says_207 rfl rfl ?_
              refine gz_iald 208 hC dX10_says_208 hF (fun x19 hF => ?_)
              exact gz_iretM 209 hC hX dX10_says_209 hF
            · skip
              refine gz_aload_n 116 hC 0 dX10_says_116 rfl rfl ?_
              refine gz_bipush 117 hC (-4 : Int32) dX10_says_117 gz_bm4 ?_
              refine gz_cvM (st := []) 119 hC hX [.int (-4 : Int32)] Value.int yl_X10_refuse yv_X10_refuse q_1175 ⟨Nat.le_of_ble_eq_true rfl, Nat.le_of_ble_eq_true rfl⟩ ⟨_, rfl⟩ (fun r h => ct_X10_refuse _ _ fu M a0 (-4 : Int32) r h) rfl rfl (Nat.le_of_ble_eq_true rfl) dX10_says_119 gz_00 hF (fun x16 M17 hF => ?_)
              exact gz_iretM 122 hC hX dX10_says_122 hF
          refine gz_icmp_ne 93 107 hC dX10_says_93 (by decide) hF (fun hF => ?_) (fun hF => ?_)
          · skip
            refine gz_sub [1, 2, 3] [(0, .ref a0), (1, .int a1), (2, .int a2)] rfl ?_
            exact hj107 hF
          · skip
            refine gz_iload_n 96 hC 0 dX10_says_96 rfl rfl ?_
            refine gz_if_ne 97 107 hC dX10_says_97 (by decide) hF (fun hF => ?_) (fun hF => ?_)
            · skip
              refine gz_sub [1, 2, 3] [(0, .ref a0), (1, .int a1), (2, .int a2)] rfl ?_
              exact hj107 hF
            · skip
              refine gz_sub [1] [(0, .ref a0)] rfl ?_
              exact hj100 hF
      refine gz_join (fun (j : Option (Int32 × gz_M)) => j = some y → gz_go C 0 0 M [(0, .ref a0), (1, .int a1), (2, .int a2)] 74 []) hF (fun hF => ?_) (fun j74 hj74 hF => ?_)
      · skip
        refine gz_iconst 74 hC (0 : Int32) dX10_says_74 gz_k0 ?_
        exact hj75 _ hF
      refine gz_icmp_ne 38 74 hC dX10_says_38 (by decide) hF (fun hF => ?_) (fun hF => ?_)
      · skip
        exact hj74 hF
      · skip
        refine gz_iload_n 41 hC 2 dX10_says_41 rfl rfl ?_
        refine gz_join (fun (j : Option (Int32 × gz_M)) => j = some y → gz_go C 0 0 M [(0, .ref a0), (1, .int a1), (2, .int a2)] 70 []) hF (fun hF => ?_) (fun j70 hj70 hF => ?_)
        · skip
          refine gz_iconst 70 hC (1 : Int32) dX10_says_70 gz_k1 ?_
          refine gz_goto 71 75 hC dX10_says_71 (by decide) ?_
          exact hj75 _ hF
        refine gz_if_eq 42 70 hC dX10_says_42 (by decide) hF (fun hF => ?_) (fun hF => ?_)
        · skip
          exact hj70 hF
        · skip
          refine gz_aload_n 45 hC 0 dX10_says_45 rfl rfl ?_
          refine gz_getR 46 hC fl_X10_28 fk_10_5 dX10_says_46 hF (fun x5 hF => ?_)
          refine gz_iload_n 49 hC 1 dX10_says_49 rfl rfl ?_
          refine gz_iald 50 hC dX10_says_50 hF (fun x6 hF => ?_)
          refine gz_iload_n 51 hC 2 dX10_says_51 rfl rfl ?_
          refine gz_icmp_eq 52 70 hC dX10_says_52 (by decide) hF (fun hF => ?_) (fun hF => ?_)
          · skip
            exact hj70 hF
          · skip
            refine gz_iload_n 55 hC 2 dX10_says_55 rfl rfl ?_
            refine gz_iconst 56 hC (1 : Int32) dX10_says_56 gz_k1 ?_
            refine gz_icmp_ne 57 74 hC dX10_says_57 (by decide) hF (fun hF => ?_) (fun hF => ?_)
            · skip
              exact hj74 hF
            · skip
              refine gz_aload_n 60 hC 0 dX10_says_60 rfl rfl ?_
              refine gz_getR 61 hC fl_X10_28 fk_10_5 dX10_says_61 hF (fun x7 hF => ?_)
              refine gz_iload_n 64 hC 1 dX10_says_64 rfl rfl ?_
              refine gz_iald 65 hC dX10_says_65 hF (fun x8 hF => ?_)
              refine gz_iconst 66 hC (3 : Int32) dX10_says_66 gz_k3 ?_
              refine gz_icmp_eq 67 74 hC dX10_says_67 (by decide) hF (fun hF => ?_) (fun hF => ?_)
              · skip
                exact hj74 hF
              · skip
                exact hj70 hF
    · skip
      refine gz_sub [0] [(0, .ref a0)] rfl ?_
      exact hj24 hF

theorem dX10_of_0 : decode cX10_of 0 = .ok (.aload_n 0, 1) := by decide +kernel
theorem dX10_of_1 : decode cX10_of 1 = .ok (.getfield 48, 3) := by decide +kernel
theorem dX10_of_4 : decode cX10_of 4 = .ok (.iload_n 1, 1) := by decide +kernel
theorem dX10_of_5 : decode cX10_of 5 = .ok (.aaload, 1) := by decide +kernel
theorem dX10_of_6 : decode cX10_of 6 = .ok (.iconst 5, 1) := by decide +kernel
theorem dX10_of_7 : decode cX10_of 7 = .ok (.iload_n 2, 1) := by decide +kernel
theorem dX10_of_8 : decode cX10_of 8 = .ok (.imul, 1) := by decide +kernel
theorem dX10_of_9 : decode cX10_of 9 = .ok (.iload_n 3, 1) := by decide +kernel
theorem dX10_of_10 : decode cX10_of 10 = .ok (.iadd, 1) := by decide +kernel
theorem dX10_of_11 : decode cX10_of 11 = .ok (.iaload, 1) := by decide +kernel
theorem dX10_of_12 : decode cX10_of 12 = .ok (.ireturn, 1) := by decide +kernel

def f_X10_of (fu : Nat) (M : gz_M) (a0 : Nat) (a1 : Int32) (a2 : Int32) (a3 : Int32) : Option (Int32) :=
  gz_gd M 10 a0 <|
  (gz_gR M 10 13 a0).bind fun x1 =>
  (gz_aR M x1 a1).bind fun x2 =>
  (gz_aI M x2 (((5 : Int32) * a2) + a3)).bind fun x3 =>
  some x3

set_option maxHeartbeats 4000000 in
theorem ct_X10_of (l : Launch) (G : gz_G) (fu : Nat) (M : gz_M) (a0 : Nat) (a1 : Int32) (a2 : Int32) (a3 : Int32) (y : Int32) (hF : f_X10_of fu M a0 a1 a2 a3 = some y) : gz_ct l yX10_of cX10_of 4 (some .int) 0 0 0 0 G [.ref a0, .int a1, .int a2, .int a3] M (some (.int y)) M := by
  refine gz_ct.of (by decide) (Nat.le_of_ble_eq_true rfl) (fun C hC hX => ?_)
  unfold f_X10_of at hF
  obtain ⟨-, hF⟩ := gz_gd_some hF
  show gz_go C 0 0 M [(0, .ref a0), (1, .int a1), (2, .int a2), (3, .int a3)] 0 []
  refine gz_aload_n 0 hC 0 dX10_of_0 rfl rfl ?_
  refine gz_getR 1 hC fl_X10_48 fk_10_13 dX10_of_1 hF (fun x1 hF => ?_)
  refine gz_iload_n 4 hC 1 dX10_of_4 rfl rfl ?_
  refine gz_aald 5 hC dX10_of_5 hF (fun x2 hF => ?_)
  refine gz_iconst 6 hC (5 : Int32) dX10_of_6 gz_k5 ?_
  refine gz_iload_n 7 hC 2 dX10_of_7 rfl rfl ?_
  refine gz_imul 8 hC dX10_of_8 ?_
  refine gz_iload_n 9 hC 3 dX10_of_9 rfl rfl ?_
  refine gz_iadd 10 hC dX10_of_10 ?_
  refine gz_iald 11 hC dX10_of_11 hF (fun x3 hF => ?_)
  exact gz_iretP 12 hC hX dX10_of_12 hF

theorem dX10_lastIs_0 : decode cX10_lastIs 0 = .ok (.aload_n 0, 1) := by decide +kernel
theorem dX10_lastIs_1 : decode cX10_lastIs 1 = .ok (.getfield 51, 3) := by decide +kernel
theorem dX10_lastIs_4 : decode cX10_lastIs 4 = .ok (.iload_n 1, 1) := by decide +kernel
theorem dX10_lastIs_5 : decode cX10_lastIs 5 = .ok (.aaload, 1) := by decide +kernel
theorem dX10_lastIs_6 : decode cX10_lastIs 6 = .ok (.iconst 4, 1) := by decide +kernel
theorem dX10_lastIs_7 : decode cX10_lastIs 7 = .ok (.iload_n 2, 1) := by decide +kernel
theorem dX10_lastIs_8 : decode cX10_lastIs 8 = .ok (.imul, 1) := by decide +kernel
theorem dX10_lastIs_9 : decode cX10_lastIs 9 = .ok (.iload_n 3, 1) := by decide +kernel
theorem dX10_lastIs_10 : decode cX10_lastIs 10 = .ok (.iadd, 1) := by decide +kernel
theorem dX10_lastIs_11 : decode cX10_lastIs 11 = .ok (.iaload, 1) := by decide +kernel
theorem dX10_lastIs_12 : decode cX10_lastIs 12 = .ok (.ireturn, 1) := by decide +kernel

def f_X10_lastIs (fu : Nat) (M : gz_M) (a0 : Nat) (a1 : Int32) (a2 : Int32) (a3 : Int32) : Option (Int32) :=
  gz_gd M 10 a0 <|
  (gz_gR M 10 14 a0).bind fun x1 =>
  (gz_aR M x1 a1).bind fun x2 =>
  (gz_aI M x2 (((4 : Int32) * a2) + a3)).bind fun x3 =>
  some x3

set_option maxHeartbeats 4000000 in
theorem ct_X10_lastIs (l : Launch) (G : gz_G) (fu : Nat) (M : gz_M) (a0 : Nat) (a1 : Int32) (a2 : Int32) (a3 : Int32) (y : Int32) (hF : f_X10_lastIs fu M a0 a1 a2 a3 = some y) : gz_ct l yX10_lastIs cX10_lastIs 4 (some .int) 0 0 0 0 G [.ref a0, .int a1, .int a2, .int a3] M (some (.int y)) M := by
  refine gz_ct.of (by decide) (Nat.le_of_ble_eq_true rfl) (fun C hC hX => ?_)
  unfold f_X10_lastIs at hF
  obtain ⟨-, hF⟩ := gz_gd_some hF
  show gz_go C 0 0 M [(0, .ref a0), (1, .int a1), (2, .int a2), (3, .int a3)] 0 []
  refine gz_aload_n 0 hC 0 dX10_lastIs_0 rfl rfl ?_
  refine gz_getR 1 hC fl_X10_51 fk_10_14 dX10_lastIs_1 hF (fun x1 hF => ?_)
  refine gz_iload_n 4 hC 1 dX10_lastIs_4 rfl rfl ?_
  refine gz_aald 5 hC dX10_lastIs_5 hF (fun x2 hF => ?_)
  refine gz_iconst 6 hC (4 : Int32) dX10_lastIs_6 gz_k4 ?_
  refine gz_iload_n 7 hC 2 dX10_lastIs_7 rfl rfl ?_
  refine gz_imul 8 hC dX10_lastIs_8 ?_
  refine gz_iload_n 9 hC 3 dX10_lastIs_9 rfl rfl ?_
  refine gz_iadd 10 hC dX10_lastIs_10 ?_
  refine gz_iald 11 hC dX10_lastIs_11 hF (fun x3 hF => ?_)
  exact gz_iretP 12 hC hX dX10_lastIs_12 hF

theorem dX10_badBy_0 : decode cX10_badBy 0 = .ok (.iconst 0, 1) := by decide +kernel
theorem dX10_badBy_1 : decode cX10_badBy 1 = .ok (.istore 9, 2) := by decide +kernel
theorem dX10_badBy_3 : decode cX10_badBy 3 = .ok (.iconst 0, 1) := by decide +kernel
theorem dX10_badBy_4 : decode cX10_badBy 4 = .ok (.istore 10, 2) := by decide +kernel
theorem dX10_badBy_6 : decode cX10_badBy 6 = .ok (.iload 10, 2) := by decide +kernel
theorem dX10_badBy_8 : decode cX10_badBy 8 = .ok (.iconst 3, 1) := by decide +kernel
theorem dX10_badBy_9 : decode cX10_badBy 9 = .ok (.if_icmp .ge 122, 3) := by decide +kernel
theorem dX10_badBy_12 : decode cX10_badBy 12 = .ok (.iload 10, 2) := by decide +kernel
theorem dX10_badBy_14 : decode cX10_badBy 14 = .ok (.ifCond .ne 7, 3) := by decide +kernel
theorem dX10_badBy_17 : decode cX10_badBy 17 = .ok (.iload_n 2, 1) := by decide +kernel
theorem dX10_badBy_18 : decode cX10_badBy 18 = .ok (.goto 15, 3) := by decide +kernel
theorem dX10_badBy_21 : decode cX10_badBy 21 = .ok (.iload 10, 2) := by decide +kernel
theorem dX10_badBy_23 : decode cX10_badBy 23 = .ok (.iconst 1, 1) := by decide +kernel
theorem dX10_badBy_24 : decode cX10_badBy 24 = .ok (.if_icmp .ne 7, 3) := by decide +kernel
theorem dX10_badBy_27 : decode cX10_badBy 27 = .ok (.iload_n 3, 1) := by decide +kernel
theorem dX10_badBy_28 : decode cX10_badBy 28 = .ok (.goto 5, 3) := by decide +kernel
theorem dX10_badBy_31 : decode cX10_badBy 31 = .ok (.iload 4, 2) := by decide +kernel
theorem dX10_badBy_33 : decode cX10_badBy 33 = .ok (.istore 11, 2) := by decide +kernel
theorem dX10_badBy_35 : decode cX10_badBy 35 = .ok (.iload 10, 2) := by decide +kernel
theorem dX10_badBy_37 : decode cX10_badBy 37 = .ok (.ifCond .ne 8, 3) := by decide +kernel
theorem dX10_badBy_40 : decode cX10_badBy 40 = .ok (.iload 5, 2) := by decide +kernel
theorem dX10_badBy_42 : decode cX10_badBy 42 = .ok (.goto 16, 3) := by decide +kernel
theorem dX10_badBy_45 : decode cX10_badBy 45 = .ok (.iload 10, 2) := by decide +kernel
theorem dX10_badBy_47 : decode cX10_badBy 47 = .ok (.iconst 1, 1) := by decide +kernel
theorem dX10_badBy_48 : decode cX10_badBy 48 = .ok (.if_icmp .ne 8, 3) := by decide +kernel
theorem dX10_badBy_51 : decode cX10_badBy 51 = .ok (.iload 6, 2) := by decide +kernel
theorem dX10_badBy_53 : decode cX10_badBy 53 = .ok (.goto 5, 3) := by decide +kernel
theorem dX10_badBy_56 : decode cX10_badBy 56 = .ok (.iload 7, 2) := by decide +kernel
theorem dX10_badBy_58 : decode cX10_badBy 58 = .ok (.istore 12, 2) := by decide +kernel
theorem dX10_badBy_60 : decode cX10_badBy 60 = .ok (.iload 11, 2) := by decide +kernel
theorem dX10_badBy_62 : decode cX10_badBy 62 = .ok (.iload 12, 2) := by decide +kernel
theorem dX10_badBy_64 : decode cX10_badBy 64 = .ok (.iload 8, 2) := by decide +kernel
theorem dX10_badBy_66 : decode cX10_badBy 66 = .ok (.isub, 1) := by decide +kernel
theorem dX10_badBy_67 : decode cX10_badBy 67 = .ok (.if_icmp .lt 23, 3) := by decide +kernel
theorem dX10_badBy_70 : decode cX10_badBy 70 = .ok (.iload 11, 2) := by decide +kernel
theorem dX10_badBy_72 : decode cX10_badBy 72 = .ok (.iload 12, 2) := by decide +kernel
theorem dX10_badBy_74 : decode cX10_badBy 74 = .ok (.aload_n 0, 1) := by decide +kernel
theorem dX10_badBy_75 : decode cX10_badBy 75 = .ok (.getfield 45, 3) := by decide +kernel
theorem dX10_badBy_78 : decode cX10_badBy 78 = .ok (.iload_n 1, 1) := by decide +kernel
theorem dX10_badBy_79 : decode cX10_badBy 79 = .ok (.aaload, 1) := by decide +kernel
theorem dX10_badBy_80 : decode cX10_badBy 80 = .ok (.bipush 7, 2) := by decide +kernel
theorem dX10_badBy_82 : decode cX10_badBy 82 = .ok (.iload 10, 2) := by decide +kernel
theorem dX10_badBy_84 : decode cX10_badBy 84 = .ok (.iadd, 1) := by decide +kernel
theorem dX10_badBy_85 : decode cX10_badBy 85 = .ok (.iaload, 1) := by decide +kernel
theorem dX10_badBy_86 : decode cX10_badBy 86 = .ok (.iadd, 1) := by decide +kernel
theorem dX10_badBy_87 : decode cX10_badBy 87 = .ok (.if_icmp .le 5, 3) := by decide +kernel
theorem dX10_badBy_90 : decode cX10_badBy 90 = .ok (.iconst (-1), 1) := by decide +kernel
theorem dX10_badBy_91 : decode cX10_badBy 91 = .ok (.ireturn, 1) := by decide +kernel
theorem dX10_badBy_92 : decode cX10_badBy 92 = .ok (.iload 9, 2) := by decide +kernel
theorem dX10_badBy_94 : decode cX10_badBy 94 = .ok (.iload 11, 2) := by decide +kernel
theorem dX10_badBy_96 : decode cX10_badBy 96 = .ok (.iload 12, 2) := by decide +kernel
theorem dX10_badBy_98 : decode cX10_badBy 98 = .ok (.if_icmp .le 23, 3) := by decide +kernel
theorem dX10_badBy_101 : decode cX10_badBy 101 = .ok (.aload_n 0, 1) := by decide +kernel
theorem dX10_badBy_102 : decode cX10_badBy 102 = .ok (.getfield 45, 3) := by decide +kernel
theorem dX10_badBy_105 : decode cX10_badBy 105 = .ok (.iload_n 1, 1) := by decide +kernel
theorem dX10_badBy_106 : decode cX10_badBy 106 = .ok (.aaload, 1) := by decide +kernel
theorem dX10_badBy_107 : decode cX10_badBy 107 = .ok (.iconst 4, 1) := by decide +kernel
theorem dX10_badBy_108 : decode cX10_badBy 108 = .ok (.iload 10, 2) := by decide +kernel
theorem dX10_badBy_110 : decode cX10_badBy 110 = .ok (.iadd, 1) := by decide +kernel
theorem dX10_badBy_111 : decode cX10_badBy 111 = .ok (.iaload, 1) := by decide +kernel
theorem dX10_badBy_112 : decode cX10_badBy 112 = .ok (.iload 11, 2) := by decide +kernel
theorem dX10_badBy_114 : decode cX10_badBy 114 = .ok (.iload 12, 2) := by decide +kernel
theorem dX10_badBy_116 : decode cX10_badBy 116 = .ok (.isub, 1) := by decide +kernel
theorem dX10_badBy_117 : decode cX10_badBy 117 = .ok (.imul, 1) := by decide +kernel
theorem dX10_badBy_118 : decode cX10_badBy 118 = .ok (.goto 4, 3) := by decide +kernel
theorem dX10_badBy_121 : decode cX10_badBy 121 = .ok (.iconst 0, 1) := by decide +kernel
theorem dX10_badBy_122 : decode cX10_badBy 122 = .ok (.iadd, 1) := by decide +kernel
theorem dX10_badBy_123 : decode cX10_badBy 123 = .ok (.istore 9, 2) := by decide +kernel
theorem dX10_badBy_125 : decode cX10_badBy 125 = .ok (.iinc 10 1, 3) := by decide +kernel
theorem dX10_badBy_128 : decode cX10_badBy 128 = .ok (.goto (-122), 3) := by decide +kernel
theorem dX10_badBy_131 : decode cX10_badBy 131 = .ok (.iload 9, 2) := by decide +kernel
theorem dX10_badBy_133 : decode cX10_badBy 133 = .ok (.ireturn, 1) := by decide +kernel
def lp_X10_badBy_6 (j90 : Option (Int32)) (M : gz_M) (a0 : Nat) (a1 : Int32) (a2 : Int32) (a3 : Int32) (a4 : Int32) (a5 : Int32) (a6 : Int32) (a7 : Int32) (a8 : Int32) : Nat → Int32 → Int32 → Option (Int32)
  | 0, _, _ => none
  | n6 + 1, x1, x2 =>
    if (3 : Int32) ≤ x2 then
      some x1
    else
      gz_jn (fun (x3 : Int32) =>
      gz_jn (fun (x4 : Int32) =>
        if x3 < (x4 - a8) then
            j90
          else
            (gz_gR M 10 12 a0).bind fun x5 =>
            (gz_aR M x5 a1).bind fun x6 =>
            (gz_aI M x6 ((7 : Int32) + x2)).bind fun x7 =>
            if x3 ≤ (x4 + x7) then
              gz_jn (fun (x11 : Int32) =>
              lp_X10_badBy_6 j90 M a0 a1 a2 a3 a4 a5 a6 a7 a8 n6 (x1 + x11) (x2 + (1 : Int32))) fun j122 =>
              if x3 ≤ x4 then
                j122 (0 : Int32)
              else
                (gz_gR M 10 12 a0).bind fun x8 =>
                (gz_aR M x8 a1).bind fun x9 =>
                (gz_aI M x9 ((4 : Int32) + x2)).bind fun x10 =>
                j122 (x10 * (x3 - x4))
            else
              j90) fun j58 =>
        if x2 = 0 then
          j58 a5
        else
          if x2 = (1 : Int32) then
            j58 a6
          else
            j58 a7) fun j33 =>
      if x2 = 0 then
        j33 a2
      else
        if x2 = (1 : Int32) then
          j33 a3
        else
          j33 a4
def f_X10_badBy (fu : Nat) (M : gz_M) (a0 : Nat) (a1 : Int32) (a2 : Int32) (a3 : Int32) (a4 : Int32) (a5 : Int32) (a6 : Int32) (a7 : Int32) (a8 : Int32) : Option (Int32) :=
  gz_gd M 10 a0 <|
  lp_X10_badBy_6 (some (-1 : Int32)) M a0 a1 a2 a3 a4 a5 a6 a7 a8 fu (0 : Int32) (0 : Int32)
set_option maxHeartbeats 4000000 in
theorem w_X10_badBy_6 {C : gz_C} {y : Int32} {M : gz_M} {a0 : Nat} {a1 : Int32} {a2 : Int32} {a3 : Int32} {a4 : Int32} {a5 : Int32} {a6 : Int32} {a7 : Int32} {a8 : Int32} {j90 : Option (Int32)} (hC : gz_ok C cX10_badBy RX10 13) (hX : gz_cx C 0 0 0 0 (some .int) (some (.int y)) M "badBy") (hj90 : j90 = some y → gz_go C 0 0 M [] 90 []) : ∀ (n : Nat) (x1 : Int32) (x2 : Int32), lp_X10_badBy_6 j90 M a0 a1 a2 a3 a4 a5 a6 a7 a8 n x1 x2 = some y → gz_go C 0 0 M [(0, .ref a0), (1, .int a1), (2, .int a2), (3, .int a3), (4, .int a4), (5, .int a5), (6, .int a6), (7, .int a7), (8, .int a8), (9, .int x1), (10, .int x2)] 6 [] := by
  intro n
  induction n with
  | zero => intro x1 x2 hF; exact nomatch (show (none : Option (Int32)) = some y from hF)
  | succ n6 ih6 =>
    intro x1 x2 hF
    rw [lp_X10_badBy_6.eq_2] at hF
    refine gz_iload 6 hC 10 dX10_badBy_6 rfl ?_
    refine gz_iconst 8 hC (3 : Int32) dX10_badBy_8 gz_k3 ?_
    refine gz_icmp_ge 9 131 hC dX10_badBy_9 (by decide) hF (fun hF => ?_) (fun hF => ?_)
    · skip
      refine gz_iload 131 hC 9 dX10_badBy_131 rfl ?_
      exact gz_iretP 133 hC hX dX10_badBy_133 hF
    · skip
      refine gz_iload 12 hC 10 dX10_badBy_12 rfl ?_
      refine gz_join (fun (j : Int32 → Option (Int32)) => ∀ (x3 : Int32), j x3 = some y → gz_go C 0 0 M [(0, .ref a0), (1, .int a1), (2, .int a2), (3, .int a3), (4, .int a4), (5, .int a5), (6, .int a6), (7, .int a7), (8, .int a8), (9, .int x1), (10, .int x2)] 33 [.int x3]) hF (fun x3 hF => ?_) (fun j33 hj33 hF => ?_)
      · skip
        refine gz_istore 33 hC [(11, .int x3), (0, .ref a0), (1, .int a1), (2, .int a2), (3, .int a3), (4, .int a4), (5, .int a5), (6, .int a6), (7, .int a7), (8, .int a8), (9, .int x1), (10, .int x2)] dX10_badBy_33 (by decide) rfl ?_
        refine gz_iload 35 hC 11 dX10_badBy_35 rfl ?_
        refine gz_join (fun (j : Int32 → Option (Int32)) => ∀ (x4 : Int32), j x4 = some y → gz_go C 0 0 M [(0, .ref a0), (1, .int a1), (2, .int a2), (3, .int a3), (4, .int a4), (5, .int a5), (6, .int a6), (7, .int a7), (8, .int a8), (9, .int x1), (10, .int x2), (11, .int x3)] 58 [.int x4]) hF (fun x4 hF => ?_) (fun j58 hj58 hF => ?_)
        · skip
          refine gz_istore 58 hC [(12, .int x4), (0, .ref a0), (1, .int a1), (2, .int a2), (3, .int a3), (4, .int a4), (5, .int a5), (6, .int a6), (7, .int a7), (8, .int a8), (9, .int x1), (10, .int x2), (11, .int x3)] dX10_badBy_58 (by decide) rfl ?_
          refine gz_iload 60 hC 12 dX10_badBy_60 rfl ?_
          refine gz_iload 62 hC 0 dX10_badBy_62 rfl ?_
          refine gz_iload 64 hC 9 dX10_badBy_64 rfl ?_
          refine gz_isub 66 hC dX10_badBy_66 ?_
          refine gz_icmp_lt 67 90 hC dX10_badBy_67 (by decide) hF (fun hF => ?_) (fun hF => ?_)
          · skip
            refine gz_sub [] [] rfl ?_
            exact hj90 hF
          · skip
            refine gz_iload 70 hC 12 dX10_badBy_70 rfl ?_
            refine gz_iload 72 hC 0 dX10_badBy_72 rfl ?_
            refine gz_aload_n 74 hC 1 dX10_badBy_74 rfl rfl ?_
            refine gz_getR 75 hC fl_X10_45 fk_10_12 dX10_badBy_75 hF (fun x5 hF => ?_)
            refine gz_iload_n 78 hC 2 dX10_badBy_78 rfl rfl ?_
            refine gz_aald 79 hC dX10_badBy_79 hF (fun x6 hF => ?_)
            refine gz_bipush 80 hC (7 : Int32) dX10_badBy_80 gz_b7 ?_
            refine gz_iload 82 hC 11 dX10_badBy_82 rfl ?_
            refine gz_iadd 84 hC dX10_badBy_84 ?_
            refine gz_iald 85 hC dX10_badBy_85 hF (fun x7 hF => ?_)
            refine gz_iadd 86 hC dX10_badBy_86 ?_
            refine gz_icmp_le 87 92 hC dX10_badBy_87 (by decide) hF (fun hF => ?_) (fun hF => ?_)
            · skip
              refine gz_iload 92 hC 10 dX10_badBy_92 rfl ?_
              refine gz_iload 94 hC 12 dX10_badBy_94 rfl ?_
              refine gz_iload 96 hC 0 dX10_badBy_96 rfl ?_
              refine gz_join (fun (j : Int32 → Option (Int32)) => ∀ (x11 : Int32), j x11 = some y → gz_go C 0 0 M [(0, .ref a0), (1, .int a1), (2, .int a2), (3, .int a3), (4, .int a4), (5, .int a5), (6, .int a6), (7, .int a7), (8, .int a8), (10, .int x2)] 122 [.int x11, .int x1]) hF (fun x11 hF => ?_) (fun j122 hj122 hF => ?_)
              · skip
                refine gz_iadd 122 hC dX10_badBy_122 ?_
                refine gz_istore 123 hC [(9, .int (x1 + x11)), (0, .ref a0), (1, .int a1), (2, .int a2), (3, .int a3), (4, .int a4), (5, .int a5), (6, .int a6), (7, .int a7), (8, .int a8), (10, .int x2)] dX10_badBy_123 (by decide) rfl ?_
                refine gz_iinc 125 hC (x2 + (1 : Int32)) 10 [(10, .int (x2 + (1 : Int32))), (9, .int (x1 + x11)), (0, .ref a0), (1, .int a1), (2, .int a2), (3, .int a3), (4, .int a4), (5, .int a5), (6, .int a6), (7, .int a7), (8, .int a8)] dX10_badBy_125 rfl rfl (by decide) rfl ?_
                refine gz_goto 128 6 hC dX10_badBy_128 (by decide) ?_
                refine gz_sub [2, 3, 4, 5, 6, 7, 8, 9, 10, 1, 0] [(0, .ref a0), (1, .int a1), (2, .int a2), (3, .int a3), (4, .int a4), (5, .int a5), (6, .int a6), (7, .int a7), (8, .int a8), (9, .int (x1 + x11)), (10, .int (x2 + (1 : Int32)))] rfl ?_
                exact ih6 _ _ hF
              refine gz_icmp_le 98 121 hC dX10_badBy_98 (by decide) hF (fun hF => ?_) (fun hF => ?_)
              · skip
                refine gz_iconst 121 hC (0 : Int32) dX10_badBy_121 gz_k0 ?_
                refine gz_sub [1, 2, 3, 4, 5, 6, 7, 8, 9, 11] [(0, .ref a0), (1, .int a1), (2, .int a2), (3, .int a3), (4, .int a4), (5, .int a5), (6, .int a6), (7, .int a7), (8, .int a8), (10, .int x2)] rfl ?_
                exact hj122 _ hF
              · skip
                refine gz_aload_n 101 hC 1 dX10_badBy_101 rfl rfl ?_
                refine gz_getR 102 hC fl_X10_45 fk_10_12 dX10_badBy_102 hF (fun x8 hF => ?_)
                refine gz_iload_n 105 hC 2 dX10_badBy_105 rfl rfl ?_
                refine gz_aald 106 hC dX10_badBy_106 hF (fun x9 hF => ?_)
                refine gz_iconst 107 hC (4 : Int32) dX10_badBy_107 gz_k4 ?_
                refine gz_iload 108 hC 11 dX10_badBy_108 rfl ?_
                refine gz_iadd 110 hC dX10_badBy_110 ?_
                refine gz_iald 111 hC dX10_badBy_111 hF (fun x10 hF => ?_)
                refine gz_iload 112 hC 12 dX10_badBy_112 rfl ?_
                refine gz_iload 114 hC 0 dX10_badBy_114 rfl ?_
                refine gz_isub 116 hC dX10_badBy_116 ?_
                refine gz_imul 117 hC dX10_badBy_117 ?_
                refine gz_goto 118 122 hC dX10_badBy_118 (by decide) ?_
                refine gz_sub [1, 2, 3, 4, 5, 6, 7, 8, 9, 11] [(0, .ref a0), (1, .int a1), (2, .int a2), (3, .int a3), (4, .int a4), (5, .int a5), (6, .int a6), (7, .int a7), (8, .int a8), (10, .int x2)] rfl ?_
                exact hj122 _ hF
            · skip
              refine gz_sub [] [] rfl ?_
              exact hj90 hF
        refine gz_if_ne 37 45 hC dX10_badBy_37 (by decide) hF (fun hF => ?_) (fun hF => ?_)
        · skip
          refine gz_iload 45 hC 11 dX10_badBy_45 rfl ?_
          refine gz_iconst 47 hC (1 : Int32) dX10_badBy_47 gz_k1 ?_
          refine gz_icmp_ne 48 56 hC dX10_badBy_48 (by decide) hF (fun hF => ?_) (fun hF => ?_)
          · skip
            refine gz_iload 56 hC 8 dX10_badBy_56 rfl ?_
            refine gz_sub [1, 2, 3, 4, 5, 6, 7, 8, 9, 10, 11, 0] [(0, .ref a0), (1, .int a1), (2, .int a2), (3, .int a3), (4, .int a4), (5, .int a5), (6, .int a6), (7, .int a7), (8, .int a8), (9, .int x1), (10, .int x2), (11, .int x3)] rfl ?_
            exact hj58 _ hF
          · skip
            refine gz_iload 51 hC 7 dX10_badBy_51 rfl ?_
            refine gz_goto 53 58 hC dX10_badBy_53 (by decide) ?_
            refine gz_sub [1, 2, 3, 4, 5, 6, 7, 8, 9, 10, 11, 0] [(0, .ref a0), (1, .int a1), (2, .int a2), (3, .int a3), (4, .int a4), (5, .int a5), (6, .int a6), (7, .int a7), (8, .int a8), (9, .int x1), (10, .int x2), (11, .int x3)] rfl ?_
            exact hj58 _ hF
        · skip
          refine gz_iload 40 hC 6 dX10_badBy_40 rfl ?_
          refine gz_goto 42 58 hC dX10_badBy_42 (by decide) ?_
          refine gz_sub [1, 2, 3, 4, 5, 6, 7, 8, 9, 10, 11, 0] [(0, .ref a0), (1, .int a1), (2, .int a2), (3, .int a3), (4, .int a4), (5, .int a5), (6, .int a6), (7, .int a7), (8, .int a8), (9, .int x1), (10, .int x2), (11, .int x3)] rfl ?_
          exact hj58 _ hF
      refine gz_if_ne 14 21 hC dX10_badBy_14 (by decide) hF (fun hF => ?_) (fun hF => ?_)
      · skip
        refine gz_iload 21 hC 10 dX10_badBy_21 rfl ?_
        refine gz_iconst 23 hC (1 : Int32) dX10_badBy_23 gz_k1 ?_
        refine gz_icmp_ne 24 31 hC dX10_badBy_24 (by decide) hF (fun hF => ?_) (fun hF => ?_)
        · skip
          refine gz_iload 31 hC 4 dX10_badBy_31 rfl ?_
          exact hj33 _ hF
        · skip
          refine gz_iload_n 27 hC 3 dX10_badBy_27 rfl rfl ?_
          refine gz_goto 28 33 hC dX10_badBy_28 (by decide) ?_
          exact hj33 _ hF
      · skip
        refine gz_iload_n 17 hC 2 dX10_badBy_17 rfl rfl ?_
        refine gz_goto 18 33 hC dX10_badBy_18 (by decide) ?_
        exact hj33 _ hF
set_option maxHeartbeats 4000000 in
theorem ct_X10_badBy (l : Launch) (G : gz_G) (fu : Nat) (M : gz_M) (a0 : Nat) (a1 : Int32) (a2 : Int32) (a3 : Int32) (a4 : Int32) (a5 : Int32) (a6 : Int32) (a7 : Int32) (a8 : Int32) (y : Int32) (hF : f_X10_badBy fu M a0 a1 a2 a3 a4 a5 a6 a7 a8 = some y) : gz_ct l yX10_badBy cX10_badBy 13 (some .int) 0 0 0 0 G [.ref a0, .int a1, .int a2, .int a3, .int a4, .int a5, .int a6, .int a7, .int a8] M (some (.int y)) M := by
  refine gz_ct.of (by decide) (Nat.le_of_ble_eq_true rfl) (fun C hC hX => ?_)
  unfold f_X10_badBy at hF
  obtain ⟨-, hF⟩ := gz_gd_some hF
  show gz_go C 0 0 M [(0, .ref a0), (1, .int a1), (2, .int a2), (3, .int a3), (4, .int a4), (5, .int a5), (6, .int a6), (7, .int a7), (8, .int a8)] 0 []
  refine gz_iconst 0 hC (0 : Int32) dX10_badBy_0 gz_k0 ?_
  refine gz_istore 1 hC [(9, .int (0 : Int32)), (0, .ref a0), (1, .int a1), (2, .int a2), (3, .int a3), (4, .int a4), (5, .int a5), (6, .int a6), (7, .int a7), (8, .int a8)] dX10_badBy_1 (by decide) rfl ?_
  refine gz_iconst 3 hC (0 : Int32) dX10_badBy_3 gz_k0 ?_
  refine gz_istore 4 hC [(10, .int (0 : Int32)), (9, .int (0 : Int32)), (0, .ref a0), (1, .int a1), (2, .int a2), (3, .int a3), (4, .int a4), (5, .int a5), (6, .int a6), (7, .int a7), (8, .int a8)] dX10_badBy_4 (by decide) rfl ?_
  refine gz_sub [2, 3, 4, 5, 6, 7, 8, 9, 10, 1, 0] [(0, .ref a0), (1, .int a1), (2, .int a2), (3, .int a3), (4, .int a4), (5, .int a5), (6, .int a6), (7, .int a7), (8, .int a8), (9, .int (0 : Int32)), (10, .int (0 : Int32))] rfl ?_
  refine w_X10_badBy_6 hC hX ?_ _ _ _ hF
  intro hF
  refine gz_iconst 90 hC (-1 : Int32) dX10_badBy_90 gz_km1 ?_
  exact gz_iretP 91 hC hX dX10_badBy_91 hF

theorem dX10_badOf_0 : decode cX10_badOf 0 = .ok (.aload_n 0, 1) := by decide +kernel
theorem dX10_badOf_1 : decode cX10_badOf 1 = .ok (.iload_n 3, 1) := by decide +kernel
theorem dX10_badOf_2 : decode cX10_badOf 2 = .ok (.aload_n 0, 1) := by decide +kernel
theorem dX10_badOf_3 : decode cX10_badOf 3 = .ok (.iload_n 1, 1) := by decide +kernel
theorem dX10_badOf_4 : decode cX10_badOf 4 = .ok (.iload_n 2, 1) := by decide +kernel
theorem dX10_badOf_5 : decode cX10_badOf 5 = .ok (.iconst 0, 1) := by decide +kernel
theorem dX10_badOf_6 : decode cX10_badOf 6 = .ok (.invokevirtual 110, 3) := by decide +kernel
theorem dX10_badOf_9 : decode cX10_badOf 9 = .ok (.aload_n 0, 1) := by decide +kernel
theorem dX10_badOf_10 : decode cX10_badOf 10 = .ok (.iload_n 1, 1) := by decide +kernel
theorem dX10_badOf_11 : decode cX10_badOf 11 = .ok (.iload_n 2, 1) := by decide +kernel
theorem dX10_badOf_12 : decode cX10_badOf 12 = .ok (.iconst 1, 1) := by decide +kernel
theorem dX10_badOf_13 : decode cX10_badOf 13 = .ok (.invokevirtual 110, 3) := by decide +kernel
theorem dX10_badOf_16 : decode cX10_badOf 16 = .ok (.aload_n 0, 1) := by decide +kernel
theorem dX10_badOf_17 : decode cX10_badOf 17 = .ok (.iload_n 1, 1) := by decide +kernel
theorem dX10_badOf_18 : decode cX10_badOf 18 = .ok (.iload_n 2, 1) := by decide +kernel
theorem dX10_badOf_19 : decode cX10_badOf 19 = .ok (.iconst 2, 1) := by decide +kernel
theorem dX10_badOf_20 : decode cX10_badOf 20 = .ok (.invokevirtual 110, 3) := by decide +kernel
theorem dX10_badOf_23 : decode cX10_badOf 23 = .ok (.aload_n 0, 1) := by decide +kernel
theorem dX10_badOf_24 : decode cX10_badOf 24 = .ok (.iload_n 3, 1) := by decide +kernel
theorem dX10_badOf_25 : decode cX10_badOf 25 = .ok (.iload 4, 2) := by decide +kernel
theorem dX10_badOf_27 : decode cX10_badOf 27 = .ok (.iconst 0, 1) := by decide +kernel
theorem dX10_badOf_28 : decode cX10_badOf 28 = .ok (.invokevirtual 114, 3) := by decide +kernel
theorem dX10_badOf_31 : decode cX10_badOf 31 = .ok (.aload_n 0, 1) := by decide +kernel
theorem dX10_badOf_32 : decode cX10_badOf 32 = .ok (.iload_n 3, 1) := by decide +kernel
theorem dX10_badOf_33 : decode cX10_badOf 33 = .ok (.iload 4, 2) := by decide +kernel
theorem dX10_badOf_35 : decode cX10_badOf 35 = .ok (.iconst 1, 1) := by decide +kernel
theorem dX10_badOf_36 : decode cX10_badOf 36 = .ok (.invokevirtual 114, 3) := by decide +kernel
theorem dX10_badOf_39 : decode cX10_badOf 39 = .ok (.aload_n 0, 1) := by decide +kernel
theorem dX10_badOf_40 : decode cX10_badOf 40 = .ok (.iload_n 3, 1) := by decide +kernel
theorem dX10_badOf_41 : decode cX10_badOf 41 = .ok (.iload 4, 2) := by decide +kernel
theorem dX10_badOf_43 : decode cX10_badOf 43 = .ok (.iconst 2, 1) := by decide +kernel
theorem dX10_badOf_44 : decode cX10_badOf 44 = .ok (.invokevirtual 114, 3) := by decide +kernel
theorem dX10_badOf_47 : decode cX10_badOf 47 = .ok (.aload_n 0, 1) := by decide +kernel
theorem dX10_badOf_48 : decode cX10_badOf 48 = .ok (.iload_n 3, 1) := by decide +kernel
theorem dX10_badOf_49 : decode cX10_badOf 49 = .ok (.iload 4, 2) := by decide +kernel
theorem dX10_badOf_51 : decode cX10_badOf 51 = .ok (.iconst 4, 1) := by decide +kernel
theorem dX10_badOf_52 : decode cX10_badOf 52 = .ok (.invokevirtual 114, 3) := by decide +kernel
theorem dX10_badOf_55 : decode cX10_badOf 55 = .ok (.invokevirtual 117, 3) := by decide +kernel
theorem dX10_badOf_58 : decode cX10_badOf 58 = .ok (.ireturn, 1) := by decide +kernel

def f_X10_badOf (fu : Nat) (M : gz_M) (a0 : Nat) (a1 : Int32) (a2 : Int32) (a3 : Int32) (a4 : Int32) : Option (Int32) :=
  gz_gd M 10 a0 <|
  (f_X10_lastIs fu M a0 a1 a2 (0 : Int32)).bind fun x1 =>
  (f_X10_lastIs fu M a0 a1 a2 (1 : Int32)).bind fun x2 =>
  (f_X10_lastIs fu M a0 a1 a2 (2 : Int32)).bind fun x3 =>
  (f_X10_of fu M a0 a3 a4 (0 : Int32)).bind fun x4 =>
  (f_X10_of fu M a0 a3 a4 (1 : Int32)).bind fun x5 =>
  (f_X10_of fu M a0 a3 a4 (2 : Int32)).bind fun x6 =>
  (f_X10_of fu M a0 a3 a4 (4 : Int32)).bind fun x7 =>
  (f_X10_badBy fu M a0 a3 x1 x2 x3 x4 x5 x6 x7).bind fun x8 =>
  some x8

set_option maxHeartbeats 4000000 in
theorem ct_X10_badOf (l : Launch) (G : gz_G) (fu : Nat) (M : gz_M) (a0 : Nat) (a1 : Int32) (a2 : Int32) (a3 : Int32) (a4 : Int32) (y : Int32) (hF : f_X10_badOf fu M a0 a1 a2 a3 a4 = some y) : gz_ct l yX10_badOf cX10_badOf 5 (some .int) 1 32 0 0 G [.ref a0, .int a1, .int a2, .int a3, .int a4] M (some (.int y)) M := by
  refine gz_ct.of (by decide) (Nat.le_of_ble_eq_true rfl) (fun C hC hX => ?_)
  unfold f_X10_badOf at hF
  obtain ⟨-, hF⟩ := gz_gd_some hF
  show gz_go C 0 0 M [(0, .ref a0), (1, .int a1), (2, .int a2), (3, .int a3), (4, .int a4)] 0 []
  refine gz_aload_n 0 hC 0 dX10_badOf_0 rfl rfl ?_
  refine gz_iload_n 1 hC 3 dX10_badOf_1 rfl rfl ?_
  refine gz_aload_n 2 hC 0 dX10_badOf_2 rfl rfl ?_
  refine gz_iload_n 3 hC 1 dX10_badOf_3 rfl rfl ?_
  refine gz_iload_n 4 hC 2 dX10_badOf_4 rfl rfl ?_
  refine gz_iconst 5 hC (0 : Int32) dX10_badOf_5 gz_k0 ?_
  refine gz_cvP (st := [.int a3, .ref a0]) 6 hC hX [.int a1, .int a2, .int (0 : Int32)] Value.int yl_X10_lastIs yv_X10_lastIs q_1237 ⟨Nat.le_of_ble_eq_true rfl, Nat.le_of_ble_eq_true rfl⟩ ⟨_, rfl⟩ (fun r h => ct_X10_lastIs _ _ fu M a0 a1 a2 (0 : Int32) r h) rfl rfl (Nat.le_of_ble_eq_true rfl) dX10_badOf_6 gz_00 hF (fun x1 hF => ?_)
  refine gz_aload_n 9 hC 0 dX10_badOf_9 rfl rfl ?_
  refine gz_iload_n 10 hC 1 dX10_badOf_10 rfl rfl ?_
  refine gz_iload_n 11 hC 2 dX10_badOf_11 rfl rfl ?_
  refine gz_iconst 12 hC (1 : Int32) dX10_badOf_12 gz_k1 ?_
  refine gz_cvP (st := [.int x1, .int a3, .ref a0]) 13 hC hX [.int a1, .int a2, .int (1 : Int32)] Value.int yl_X10_lastIs yv_X10_lastIs q_1237 ⟨Nat.le_of_ble_eq_true rfl, Nat.le_of_ble_eq_true rfl⟩ ⟨_, rfl⟩ (fun r h => ct_X10_lastIs _ _ fu M a0 a1 a2 (1 : Int32) r h) rfl rfl (Nat.le_of_ble_eq_true rfl) dX10_badOf_13 gz_00 hF (fun x2 hF => ?_)
  refine gz_aload_n 16 hC 0 dX10_badOf_16 rfl rfl ?_
  refine gz_iload_n 17 hC 1 dX10_badOf_17 rfl rfl ?_
  refine gz_iload_n 18 hC 2 dX10_badOf_18 rfl rfl ?_
  refine gz_iconst 19 hC (2 : Int32) dX10_badOf_19 gz_k2 ?_
  refine gz_cvP (st := [.int x2, .int x1, .int a3, .ref a0]) 20 hC hX [.int a1, .int a2, .int (2 : Int32)] Value.int yl_X10_lastIs yv_X10_lastIs q_1237 ⟨Nat.le_of_ble_eq_true rfl, Nat.le_of_ble_eq_true rfl⟩ ⟨_, rfl⟩ (fun r h => ct_X10_lastIs _ _ fu M a0 a1 a2 (2 : Int32) r h) rfl rfl (Nat.le_of_ble_eq_true rfl) dX10_badOf_20 gz_00 hF (fun x3 hF => ?_)
  refine gz_aload_n 23 hC 0 dX10_badOf_23 rfl rfl ?_
  refine gz_iload_n 24 hC 3 dX10_badOf_24 rfl rfl ?_
  refine gz_iload 25 hC 4 dX10_badOf_25 rfl ?_
  refine gz_iconst 27 hC (0 : Int32) dX10_badOf_27 gz_k0 ?_
  refine gz_cvP (st := [.int x3, .int x2, .int x1, .int a3, .ref a0]) 28 hC hX [.int a3, .int a4, .int (0 : Int32)] Value.int yl_X10_of yv_X10_of q_1241 ⟨Nat.le_of_ble_eq_true rfl, Nat.le_of_ble_eq_true rfl⟩ ⟨_, rfl⟩ (fun r h => ct_X10_of _ _ fu M a0 a3 a4 (0 : Int32) r h) rfl rfl (Nat.le_of_ble_eq_true rfl) dX10_badOf_28 gz_00 hF (fun x4 hF => ?_)
  refine gz_aload_n 31 hC 0 dX10_badOf_31 rfl rfl ?_
  refine gz_iload_n 32 hC 3 dX10_badOf_32 rfl rfl ?_
  refine gz_iload 33 hC 4 dX10_badOf_33 rfl ?_
  refine gz_iconst 35 hC (1 : Int32) dX10_badOf_35 gz_k1 ?_
  refine gz_cvP (st := [.int x4, .int x3, .int x2, .int x1, .int a3, .ref a0]) 36 hC hX [.int a3, .int a4, .int (1 : Int32)] Value.int yl_X10_of yv_X10_of q_1241 ⟨Nat.le_of_ble_eq_true rfl, Nat.le_of_ble_eq_true rfl⟩ ⟨_, rfl⟩ (fun r h => ct_X10_of _ _ fu M a0 a3 a4 (1 : Int32) r h) rfl rfl (Nat.le_of_ble_eq_true rfl) dX10_badOf_36 gz_00 hF (fun x5 hF => ?_)
  refine gz_aload_n 39 hC 0 dX10_badOf_39 rfl rfl ?_
  refine gz_iload_n 40 hC 3 dX10_badOf_40 rfl rfl ?_
  refine gz_iload 41 hC 4 dX10_badOf_41 rfl ?_
  refine gz_iconst 43 hC (2 : Int32) dX10_badOf_43 gz_k2 ?_
  refine gz_cvP (st := [.int x5, .int x4, .int x3, .int x2, .int x1, .int a3, .ref a0]) 44 hC hX [.int a3, .int a4, .int (2 : Int32)] Value.int yl_X10_of yv_X10_of q_1241 ⟨Nat.le_of_ble_eq_true rfl, Nat.le_of_ble_eq_true rfl⟩ ⟨_, rfl⟩ (fun r h => ct_X10_of _ _ fu M a0 a3 a4 (2 : Int32) r h) rfl rfl (Nat.le_of_ble_eq_true rfl) dX10_badOf_44 gz_00 hF (fun x6 hF => ?_)
  refine gz_aload_n 47 hC 0 dX10_badOf_47 rfl rfl ?_
  refine gz_iload_n 48 hC 3 dX10_badOf_48 rfl rfl ?_
  refine gz_iload 49 hC 4 dX10_badOf_49 rfl ?_
  refine gz_iconst 51 hC (4 : Int32) dX10_badOf_51 gz_k4 ?_
  refine gz_cvP (st := [.int x6, .int x5, .int x4, .int x3, .int x2, .int x1, .int a3, .ref a0]) 52 hC hX [.int a3, .int a4, .int (4 : Int32)] Value.int yl_X10_of yv_X10_of q_1241 ⟨Nat.le_of_ble_eq_true rfl, Nat.le_of_ble_eq_true rfl⟩ ⟨_, rfl⟩ (fun r h => ct_X10_of _ _ fu M a0 a3 a4 (4 : Int32) r h) rfl rfl (Nat.le_of_ble_eq_true rfl) dX10_badOf_52 gz_00 hF (fun x7 hF => ?_)
  refine gz_cvP (st := []) 55 hC hX [.int a3, .int x1, .int x2, .int x3, .int x4, .int x5, .int x6, .int x7] Value.int yl_X10_badBy yv_X10_badBy q_1245 ⟨Nat.le_of_ble_eq_true rfl, Nat.le_of_ble_eq_true rfl⟩ ⟨_, rfl⟩ (fun r h => ct_X10_badBy _ _ fu M a0 a3 x1 x2 x3 x4 x5 x6 x7 r h) rfl rfl (Nat.le_of_ble_eq_true rfl) dX10_badOf_55 gz_00 hF (fun x8 hF => ?_)
  exact gz_iretP 58 hC hX dX10_badOf_58 hF
