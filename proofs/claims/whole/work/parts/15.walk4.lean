theorem dX4_toldLast_0 : decode cX4_toldLast 0 = .ok (.iload_n 1, 1) := by decide +kernel
theorem dX4_toldLast_1 : decode cX4_toldLast 1 = .ok (.aload_n 0, 1) := by decide +kernel
theorem dX4_toldLast_2 : decode cX4_toldLast 2 = .ok (.getfield 19, 3) := by decide +kernel
theorem dX4_toldLast_5 : decode cX4_toldLast 5 = .ok (.if_icmp .ge 26, 3) := by decide +kernel
theorem dX4_toldLast_8 : decode cX4_toldLast 8 = .ok (.aload_n 0, 1) := by decide +kernel
theorem dX4_toldLast_9 : decode cX4_toldLast 9 = .ok (.getfield 9, 3) := by decide +kernel
theorem dX4_toldLast_12 : decode cX4_toldLast 12 = .ok (.iload_n 1, 1) := by decide +kernel
theorem dX4_toldLast_13 : decode cX4_toldLast 13 = .ok (.laload, 1) := by decide +kernel
theorem dX4_toldLast_14 : decode cX4_toldLast 14 = .ok (.lconst 0, 1) := by decide +kernel
theorem dX4_toldLast_15 : decode cX4_toldLast 15 = .ok (.lcmp, 1) := by decide +kernel
theorem dX4_toldLast_16 : decode cX4_toldLast 16 = .ok (.ifCond .lt 15, 3) := by decide +kernel
theorem dX4_toldLast_19 : decode cX4_toldLast 19 = .ok (.aload_n 0, 1) := by decide +kernel
theorem dX4_toldLast_20 : decode cX4_toldLast 20 = .ok (.getfield 9, 3) := by decide +kernel
theorem dX4_toldLast_23 : decode cX4_toldLast 23 = .ok (.iload_n 1, 1) := by decide +kernel
theorem dX4_toldLast_24 : decode cX4_toldLast 24 = .ok (.laload, 1) := by decide +kernel
theorem dX4_toldLast_25 : decode cX4_toldLast 25 = .ok (.iload_n 2, 1) := by decide +kernel
theorem dX4_toldLast_26 : decode cX4_toldLast 26 = .ok (.i2l, 1) := by decide +kernel
theorem dX4_toldLast_27 : decode cX4_toldLast 27 = .ok (.lcmp, 1) := by decide +kernel
theorem dX4_toldLast_28 : decode cX4_toldLast 28 = .ok (.ifCond .lt 5, 3) := by decide +kernel
theorem dX4_toldLast_31 : decode cX4_toldLast 31 = .ok (.iconst (-1), 1) := by decide +kernel
theorem dX4_toldLast_32 : decode cX4_toldLast 32 = .ok (.ireturn, 1) := by decide +kernel
theorem dX4_toldLast_33 : decode cX4_toldLast 33 = .ok (.aload_n 0, 1) := by decide +kernel
theorem dX4_toldLast_34 : decode cX4_toldLast 34 = .ok (.getfield 9, 3) := by decide +kernel
theorem dX4_toldLast_37 : decode cX4_toldLast 37 = .ok (.iload_n 1, 1) := by decide +kernel
theorem dX4_toldLast_38 : decode cX4_toldLast 38 = .ok (.laload, 1) := by decide +kernel
theorem dX4_toldLast_39 : decode cX4_toldLast 39 = .ok (.l2i, 1) := by decide +kernel
theorem dX4_toldLast_40 : decode cX4_toldLast 40 = .ok (.ireturn, 1) := by decide +kernel

def f_X4_toldLast (fu : Nat) (M : gz_M) (a0 : Nat) (a1 : Int32) (a2 : Int32) : Option (Int32) :=
  gz_gd M 4 a0 <|
  (gz_gI M 4 2 a0).bind fun x1 =>
  gz_jn (some (-1 : Int32)) fun j31 =>
  if x1 ≤ a1 then
    j31
  else
    (gz_gR M 4 0 a0).bind fun x2 =>
    (gz_aL M x2 a1).bind fun x3 =>
    if (lg_cmp x3 (0 : Int64)) < 0 then
      j31
    else
      (gz_gR M 4 0 a0).bind fun x4 =>
      (gz_aL M x4 a1).bind fun x5 =>
      if (lg_cmp x5 (a2).toInt64) < 0 then
        (gz_gR M 4 0 a0).bind fun x6 =>
        (gz_aL M x6 a1).bind fun x7 =>
        some (x7).toInt32
      else
        j31

set_option maxHeartbeats 4000000 in
theorem ct_X4_toldLast (l : Launch) (G : gz_G) (fu : Nat) (M : gz_M) (a0 : Nat) (a1 : Int32) (a2 : Int32) (y : Int32) (hF : f_X4_toldLast fu M a0 a1 a2 = some y) : gz_ct l yX4_toldLast cX4_toldLast 3 (some .int) 0 0 0 0 G [.ref a0, .int a1, .int a2] M (some (.int y)) M := by
  refine gz_ct.of (by decide) (Nat.le_of_ble_eq_true rfl) (fun C hC hX => ?_)
  unfold f_X4_toldLast at hF
  obtain ⟨-, hF⟩ := gz_gd_some hF
  show gz_go C 0 0 M [(0, .ref a0), (1, .int a1), (2, .int a2)] 0 []
  refine gz_iload_n 0 hC 1 dX4_toldLast_0 rfl rfl ?_
  refine gz_aload_n 1 hC 0 dX4_toldLast_1 rfl rfl ?_
  refine gz_getI 2 hC fl_X4_19 fk_4_2 dX4_toldLast_2 hF (fun x1 hF => ?_)
  refine gz_join (fun (j : Option (Int32)) => j = some y → gz_go C 0 0 M [] 31 []) hF (fun hF => ?_) (fun j31 hj31 hF => ?_)
  · skip
    refine gz_iconst 31 hC (-1 : Int32) dX4_toldLast_31 gz_km1 ?_
    exact gz_iretP 32 hC hX dX4_toldLast_32 hF
  refine gz_icmp_ge 5 31 hC dX4_toldLast_5 (by decide) hF (fun hF => ?_) (fun hF => ?_)
  · skip
    refine gz_sub [] [] rfl ?_
    exact hj31 hF
  · skip
    refine gz_aload_n 8 hC 0 dX4_toldLast_8 rfl rfl ?_
    refine gz_getR 9 hC fl_X4_9 fk_4_0 dX4_toldLast_9 hF (fun x2 hF => ?_)
    refine gz_iload_n 12 hC 1 dX4_toldLast_12 rfl rfl ?_
    refine gz_lald 13 hC dX4_toldLast_13 hF (fun x3 hF => ?_)
    refine gz_lconst 14 hC (0 : Int64) dX4_toldLast_14 gz_l0 ?_
    refine gz_lcmp 15 hC dX4_toldLast_15 ?_
    refine gz_if_lt 16 31 hC dX4_toldLast_16 (by decide) hF (fun hF => ?_) (fun hF => ?_)
    · skip
      refine gz_sub [] [] rfl ?_
      exact hj31 hF
    · skip
      refine gz_aload_n 19 hC 0 dX4_toldLast_19 rfl rfl ?_
      refine gz_getR 20 hC fl_X4_9 fk_4_0 dX4_toldLast_20 hF (fun x4 hF => ?_)
      refine gz_iload_n 23 hC 1 dX4_toldLast_23 rfl rfl ?_
      refine gz_lald 24 hC dX4_toldLast_24 hF (fun x5 hF => ?_)
      refine gz_iload_n 25 hC 2 dX4_toldLast_25 rfl rfl ?_
      refine gz_i2l 26 hC dX4_toldLast_26 ?_
      refine gz_lcmp 27 hC dX4_toldLast_27 ?_
      refine gz_if_lt 28 33 hC dX4_toldLast_28 (by decide) hF (fun hF => ?_) (fun hF => ?_)
      · skip
        refine gz_aload_n 33 hC 0 dX4_toldLast_33 rfl rfl ?_
        refine gz_getR 34 hC fl_X4_9 fk_4_0 dX4_toldLast_34 hF (fun x6 hF => ?_)
        refine gz_iload_n 37 hC 1 dX4_toldLast_37 rfl rfl ?_
        refine gz_lald 38 hC dX4_toldLast_38 hF (fun x7 hF => ?_)
        refine gz_l2i 39 hC dX4_toldLast_39 ?_
        exact gz_iretP 40 hC hX dX4_toldLast_40 hF
      · skip
        refine gz_sub [] [] rfl ?_
        exact hj31 hF

theorem dX4_isOfKind_0 : decode cX4_isOfKind 0 = .ok (.aload_n 0, 1) := by decide +kernel
theorem dX4_isOfKind_1 : decode cX4_isOfKind 1 = .ok (.getfield 15, 3) := by decide +kernel
theorem dX4_isOfKind_4 : decode cX4_isOfKind 4 = .ok (.bipush 10, 2) := by decide +kernel
theorem dX4_isOfKind_6 : decode cX4_isOfKind 6 = .ok (.isub, 1) := by decide +kernel
theorem dX4_isOfKind_7 : decode cX4_isOfKind 7 = .ok (.istore_n 2, 1) := by decide +kernel
theorem dX4_isOfKind_8 : decode cX4_isOfKind 8 = .ok (.iload_n 2, 1) := by decide +kernel
theorem dX4_isOfKind_9 : decode cX4_isOfKind 9 = .ok (.iconst 1, 1) := by decide +kernel
theorem dX4_isOfKind_10 : decode cX4_isOfKind 10 = .ok (.if_icmp .eq 18, 3) := by decide +kernel
theorem dX4_isOfKind_13 : decode cX4_isOfKind 13 = .ok (.iload_n 2, 1) := by decide +kernel
theorem dX4_isOfKind_14 : decode cX4_isOfKind 14 = .ok (.iconst 2, 1) := by decide +kernel
theorem dX4_isOfKind_15 : decode cX4_isOfKind 15 = .ok (.if_icmp .eq 13, 3) := by decide +kernel
theorem dX4_isOfKind_18 : decode cX4_isOfKind 18 = .ok (.iload_n 2, 1) := by decide +kernel
theorem dX4_isOfKind_19 : decode cX4_isOfKind 19 = .ok (.iconst 4, 1) := by decide +kernel
theorem dX4_isOfKind_20 : decode cX4_isOfKind 20 = .ok (.if_icmp .eq 8, 3) := by decide +kernel
theorem dX4_isOfKind_23 : decode cX4_isOfKind 23 = .ok (.iload_n 2, 1) := by decide +kernel
theorem dX4_isOfKind_24 : decode cX4_isOfKind 24 = .ok (.iconst 5, 1) := by decide +kernel
theorem dX4_isOfKind_25 : decode cX4_isOfKind 25 = .ok (.if_icmp .ne 7, 3) := by decide +kernel
theorem dX4_isOfKind_28 : decode cX4_isOfKind 28 = .ok (.iconst 1, 1) := by decide +kernel
theorem dX4_isOfKind_29 : decode cX4_isOfKind 29 = .ok (.goto 4, 3) := by decide +kernel
theorem dX4_isOfKind_32 : decode cX4_isOfKind 32 = .ok (.iconst 0, 1) := by decide +kernel
theorem dX4_isOfKind_33 : decode cX4_isOfKind 33 = .ok (.istore_n 3, 1) := by decide +kernel
theorem dX4_isOfKind_34 : decode cX4_isOfKind 34 = .ok (.iload_n 1, 1) := by decide +kernel
theorem dX4_isOfKind_35 : decode cX4_isOfKind 35 = .ok (.ifCond .eq 17, 3) := by decide +kernel
theorem dX4_isOfKind_38 : decode cX4_isOfKind 38 = .ok (.iload_n 1, 1) := by decide +kernel
theorem dX4_isOfKind_39 : decode cX4_isOfKind 39 = .ok (.iload_n 2, 1) := by decide +kernel
theorem dX4_isOfKind_40 : decode cX4_isOfKind 40 = .ok (.if_icmp .eq 12, 3) := by decide +kernel
theorem dX4_isOfKind_43 : decode cX4_isOfKind 43 = .ok (.iload_n 1, 1) := by decide +kernel
theorem dX4_isOfKind_44 : decode cX4_isOfKind 44 = .ok (.iconst 1, 1) := by decide +kernel
theorem dX4_isOfKind_45 : decode cX4_isOfKind 45 = .ok (.if_icmp .ne 11, 3) := by decide +kernel
theorem dX4_isOfKind_48 : decode cX4_isOfKind 48 = .ok (.iload_n 3, 1) := by decide +kernel
theorem dX4_isOfKind_49 : decode cX4_isOfKind 49 = .ok (.ifCond .eq 7, 3) := by decide +kernel
theorem dX4_isOfKind_52 : decode cX4_isOfKind 52 = .ok (.iconst 1, 1) := by decide +kernel
theorem dX4_isOfKind_53 : decode cX4_isOfKind 53 = .ok (.goto 4, 3) := by decide +kernel
theorem dX4_isOfKind_56 : decode cX4_isOfKind 56 = .ok (.iconst 0, 1) := by decide +kernel
theorem dX4_isOfKind_57 : decode cX4_isOfKind 57 = .ok (.ireturn, 1) := by decide +kernel

def f_X4_isOfKind (fu : Nat) (M : gz_M) (a0 : Nat) (a1 : Int32) : Option (Int32) :=
  gz_gd M 4 a0 <|
  (gz_gI M 4 1 a0).bind fun x1 =>
  gz_jn (fun (x2 : Int32) =>
  gz_jn (fun (x3 : Int32) =>
    gz_z x3 (some x3)) fun j57 =>
    gz_jn (j57 (1 : Int32)) fun j52 =>
    if a1 = 0 then
      j52
    else
      if a1 = (x1 - (10 : Int32)) then
        j52
      else
        gz_jn (j57 (0 : Int32)) fun j56 =>
        if a1 = (1 : Int32) then
          if x2 = 0 then
            j56
          else
            j52
        else
          j56) fun j33 =>
  gz_jn (j33 (1 : Int32)) fun j28 =>
  if (x1 - (10 : Int32)) = (1 : Int32) then
    j28
  else
    if (x1 - (10 : Int32)) = (2 : Int32) then
      j28
    else
      if (x1 - (10 : Int32)) = (4 : Int32) then
        j28
      else
        if (x1 - (10 : Int32)) = (5 : Int32) then
          j28
        else
          j33 (0 : Int32)

set_option maxHeartbeats 4000000 in
theorem ct_X4_isOfKind (l : Launch) (G : gz_G) (fu : Nat) (M : gz_M) (a0 : Nat) (a1 : Int32) (y : Int32) (hF : f_X4_isOfKind fu M a0 a1 = some y) : gz_ct l yX4_isOfKind cX4_isOfKind 4 (some .boolean) 0 0 0 0 G [.ref a0, .int a1] M (some (.int y)) M := by
  refine gz_ct.of (by decide) (Nat.le_of_ble_eq_true rfl) (fun C hC hX => ?_)
  unfold f_X4_isOfKind at hF
  obtain ⟨-, hF⟩ := gz_gd_some hF
  show gz_go C 0 0 M [(0, .ref a0), (1, .int a1)] 0 []
  refine gz_aload_n 0 hC 0 dX4_isOfKind_0 rfl rfl ?_
  refine gz_getI 1 hC fl_X4_15 fk_4_1 dX4_isOfKind_1 hF (fun x1 hF => ?_)
  refine gz_bipush 4 hC (10 : Int32) dX4_isOfKind_4 gz_b10 ?_
  refine gz_isub 6 hC dX4_isOfKind_6 ?_
  refine gz_istore_n 7 hC [(2, .int (x1 - (10 : Int32))), (0, .ref a0), (1, .int a1)] dX4_isOfKind_7 rfl (by decide) rfl ?_
  refine gz_iload_n 8 hC 0 dX4_isOfKind_8 rfl rfl ?_
  refine gz_iconst 9 hC (1 : Int32) dX4_isOfKind_9 gz_k1 ?_
  refine gz_join (fun (j : Int32 → Option (Int32)) => ∀ (x2 : Int32), j x2 = some y → gz_go C 0 0 M [(1, .int a1), (2, .int (x1 - (10 : Int32)))] 33 [.int x2]) hF (fun x2 hF => ?_) (fun j33 hj33 hF => ?_)
  · skip
    refine gz_istore_n 33 hC [(3, .int x2), (1, .int a1), (2, .int (x1 - (10 : Int32)))] dX4_isOfKind_33 rfl (by decide) rfl ?_
    refine gz_iload_n 34 hC 1 dX4_isOfKind_34 rfl rfl ?_
    refine gz_join (fun (j : Int32 → Option (Int32)) => ∀ (x3 : Int32), j x3 = some y → gz_go C 0 0 M [] 57 [.int x3]) hF (fun x3 hF => ?_) (fun j57 hj57 hF => ?_)
    · skip
      exact gz_zretP 57 hC hX dX4_isOfKind_57 hF
    refine gz_join (fun (j : Option (Int32)) => j = some y → gz_go C 0 0 M [] 52 []) hF (fun hF => ?_) (fun j52 hj52 hF => ?_)
    · skip
      refine gz_iconst 52 hC (1 : Int32) dX4_isOfKind_52 gz_k1 ?_
      refine gz_goto 53 57 hC dX4_isOfKind_53 (by decide) ?_
      exact hj57 _ hF
    refine gz_if_eq 35 52 hC dX4_isOfKind_35 (by decide) hF (fun hF => ?_) (fun hF => ?_)
    · skip
      refine gz_sub [] [] rfl ?_
      exact hj52 hF
    · skip
      refine gz_iload_n 38 hC 1 dX4_isOfKind_38 rfl rfl ?_
      refine gz_iload_n 39 hC 2 dX4_isOfKind_39 rfl rfl ?_
      refine gz_icmp_eq 40 52 hC dX4_isOfKind_40 (by decide) hF (fun hF => ?_) (fun hF => ?_)
      · skip
        refine gz_sub [] [] rfl ?_
        exact hj52 hF
      · skip
        refine gz_iload_n 43 hC 1 dX4_isOfKind_43 rfl rfl ?_
        refine gz_iconst 44 hC (1 : Int32) dX4_isOfKind_44 gz_k1 ?_
        refine gz_join (fun (j : Option (Int32)) => j = some y → gz_go C 0 0 M [] 56 []) hF (fun hF => ?_) (fun j56 hj56 hF => ?_)
        · skip
          refine gz_iconst 56 hC (0 : Int32) dX4_isOfKind_56 gz_k0 ?_
          exact hj57 _ hF
        refine gz_icmp_ne 45 56 hC dX4_isOfKind_45 (by decide) hF (fun hF => ?_) (fun hF => ?_)
        · skip
          refine gz_sub [] [] rfl ?_
          exact hj56 hF
        · skip
          refine gz_iload_n 48 hC 0 dX4_isOfKind_48 rfl rfl ?_
          refine gz_if_eq 49 56 hC dX4_isOfKind_49 (by decide) hF (fun hF => ?_) (fun hF => ?_)
          · skip
            refine gz_sub [] [] rfl ?_
            exact hj56 hF
          · skip
            refine gz_sub [] [] rfl ?_
            exact hj52 hF
  refine gz_join (fun (j : Option (Int32)) => j = some y → gz_go C 0 0 M [(1, .int a1), (2, .int (x1 - (10 : Int32)))] 28 []) hF (fun hF => ?_) (fun j28 hj28 hF => ?_)
  · skip
    refine gz_iconst 28 hC (1 : Int32) dX4_isOfKind_28 gz_k1 ?_
    refine gz_goto 29 33 hC dX4_isOfKind_29 (by decide) ?_
    exact hj33 _ hF
  refine gz_icmp_eq 10 28 hC dX4_isOfKind_10 (by decide) hF (fun hF => ?_) (fun hF => ?_)
  · skip
    refine gz_sub [2, 0] [(1, .int a1), (2, .int (x1 - (10 : Int32)))] rfl ?_
    exact hj28 hF
  · skip
    refine gz_iload_n 13 hC 0 dX4_isOfKind_13 rfl rfl ?_
    refine gz_iconst 14 hC (2 : Int32) dX4_isOfKind_14 gz_k2 ?_
    refine gz_icmp_eq 15 28 hC dX4_isOfKind_15 (by decide) hF (fun hF => ?_) (fun hF => ?_)
    · skip
      refine gz_sub [2, 0] [(1, .int a1), (2, .int (x1 - (10 : Int32)))] rfl ?_
      exact hj28 hF
    · skip
      refine gz_iload_n 18 hC 0 dX4_isOfKind_18 rfl rfl ?_
      refine gz_iconst 19 hC (4 : Int32) dX4_isOfKind_19 gz_k4 ?_
      refine gz_icmp_eq 20 28 hC dX4_isOfKind_20 (by decide) hF (fun hF => ?_) (fun hF => ?_)
      · skip
        refine gz_sub [2, 0] [(1, .int a1), (2, .int (x1 - (10 : Int32)))] rfl ?_
        exact hj28 hF
      · skip
        refine gz_iload_n 23 hC 0 dX4_isOfKind_23 rfl rfl ?_
        refine gz_iconst 24 hC (5 : Int32) dX4_isOfKind_24 gz_k5 ?_
        refine gz_icmp_ne 25 32 hC dX4_isOfKind_25 (by decide) hF (fun hF => ?_) (fun hF => ?_)
        · skip
          refine gz_iconst 32 hC (0 : Int32) dX4_isOfKind_32 gz_k0 ?_
          refine gz_sub [2, 0] [(1, .int a1), (2, .int (x1 - (10 : Int32)))] rfl ?_
          exact hj33 _ hF
        · skip
          refine gz_sub [2, 0] [(1, .int a1), (2, .int (x1 - (10 : Int32)))] rfl ?_
          exact hj28 hF

theorem dX4_saysAs_0 : decode cX4_saysAs 0 = .ok (.iload_n 1, 1) := by decide +kernel
theorem dX4_saysAs_1 : decode cX4_saysAs 1 = .ok (.ifCond .ne 8, 3) := by decide +kernel
theorem dX4_saysAs_4 : decode cX4_saysAs 4 = .ok (.aload_n 0, 1) := by decide +kernel
theorem dX4_saysAs_5 : decode cX4_saysAs 5 = .ok (.getfield 22, 3) := by decide +kernel
theorem dX4_saysAs_8 : decode cX4_saysAs 8 = .ok (.ireturn, 1) := by decide +kernel
theorem dX4_saysAs_9 : decode cX4_saysAs 9 = .ok (.iload_n 1, 1) := by decide +kernel
theorem dX4_saysAs_10 : decode cX4_saysAs 10 = .ok (.iconst 1, 1) := by decide +kernel
theorem dX4_saysAs_11 : decode cX4_saysAs 11 = .ok (.if_icmp .eq 8, 3) := by decide +kernel
theorem dX4_saysAs_14 : decode cX4_saysAs 14 = .ok (.aload_n 0, 1) := by decide +kernel
theorem dX4_saysAs_15 : decode cX4_saysAs 15 = .ok (.getfield 25, 3) := by decide +kernel
theorem dX4_saysAs_18 : decode cX4_saysAs 18 = .ok (.ireturn, 1) := by decide +kernel
theorem dX4_saysAs_19 : decode cX4_saysAs 19 = .ok (.aload_n 0, 1) := by decide +kernel
theorem dX4_saysAs_20 : decode cX4_saysAs 20 = .ok (.getfield 15, 3) := by decide +kernel
theorem dX4_saysAs_23 : decode cX4_saysAs 23 = .ok (.bipush 10, 2) := by decide +kernel
theorem dX4_saysAs_25 : decode cX4_saysAs 25 = .ok (.isub, 1) := by decide +kernel
theorem dX4_saysAs_26 : decode cX4_saysAs 26 = .ok (.tableswitch 36 2 5 #[30, 36, 32, 34], 30) := by decide +kernel
theorem dX4_saysAs_56 : decode cX4_saysAs 56 = .ok (.iconst 2, 1) := by decide +kernel
theorem dX4_saysAs_57 : decode cX4_saysAs 57 = .ok (.ireturn, 1) := by decide +kernel
theorem dX4_saysAs_58 : decode cX4_saysAs 58 = .ok (.iconst 3, 1) := by decide +kernel
theorem dX4_saysAs_59 : decode cX4_saysAs 59 = .ok (.ireturn, 1) := by decide +kernel
theorem dX4_saysAs_60 : decode cX4_saysAs 60 = .ok (.iconst 4, 1) := by decide +kernel
theorem dX4_saysAs_61 : decode cX4_saysAs 61 = .ok (.ireturn, 1) := by decide +kernel
theorem dX4_saysAs_62 : decode cX4_saysAs 62 = .ok (.iconst 1, 1) := by decide +kernel
theorem dX4_saysAs_63 : decode cX4_saysAs 63 = .ok (.ireturn, 1) := by decide +kernel

def f_X4_saysAs (fu : Nat) (M : gz_M) (a0 : Nat) (a1 : Int32) : Option (Int32) :=
  gz_gd M 4 a0 <|
  if a1 = 0 then
    (gz_gI M 4 3 a0).bind fun x1 =>
    some x1
  else
    if a1 = (1 : Int32) then
      (gz_gI M 4 1 a0).bind fun x3 =>
      gz_jn (some (1 : Int32)) fun j62 =>
      if (x3 - (10 : Int32)) = (2 : Int32) then some (2 : Int32) else if (x3 - (10 : Int32)) = (3 : Int32) then j62 else if (x3 - (10 : Int32)) = (4 : Int32) then some (3 : Int32) else if (x3 - (10 : Int32)) = (5 : Int32) then some (4 : Int32) else j62
    else
      (gz_gI M 4 4 a0).bind fun x2 =>
      some x2

set_option maxHeartbeats 4000000 in
theorem ct_X4_saysAs (l : Launch) (G : gz_G) (fu : Nat) (M : gz_M) (a0 : Nat) (a1 : Int32) (y : Int32) (hF : f_X4_saysAs fu M a0 a1 = some y) : gz_ct l yX4_saysAs cX4_saysAs 2 (some .int) 0 0 0 0 G [.ref a0, .int a1] M (some (.int y)) M := by
  refine gz_ct.of (by decide) (Nat.le_of_ble_eq_true rfl) (fun C hC hX => ?_)
  unfold f_X4_saysAs at hF
  obtain ⟨-, hF⟩ := gz_gd_some hF
  show gz_go C 0 0 M [(0, .ref a0), (1, .int a1)] 0 []
  refine gz_iload_n 0 hC 1 dX4_saysAs_0 rfl rfl ?_
  refine gz_if_ne 1 9 hC dX4_saysAs_1 (by decide) hF (fun hF => ?_) (fun hF => ?_)
  · skip
    refine gz_iload_n 9 hC 1 dX4_saysAs_9 rfl rfl ?_
    refine gz_iconst 10 hC (1 : Int32) dX4_saysAs_10 gz_k1 ?_
    refine gz_icmp_eq 11 19 hC dX4_saysAs_11 (by decide) hF (fun hF => ?_) (fun hF => ?_)
    · skip
      refine gz_aload_n 19 hC 0 dX4_saysAs_19 rfl rfl ?_
      refine gz_getI 20 hC fl_X4_15 fk_4_1 dX4_saysAs_20 hF (fun x3 hF => ?_)
      refine gz_bipush 23 hC (10 : Int32) dX4_saysAs_23 gz_b10 ?_
      refine gz_isub 25 hC dX4_saysAs_25 ?_
      refine gz_join (fun (j : Option (Int32)) => j = some y → gz_go C 0 0 M [] 62 []) hF (fun hF => ?_) (fun j62 hj62 hF => ?_)
      · skip
        refine gz_iconst 62 hC (1 : Int32) dX4_saysAs_62 gz_k1 ?_
        exact gz_iretP 63 hC hX dX4_saysAs_63 hF
      refine gz_cse hF (fun e0 hF => ?_) (fun e0 hF => ?_)
      · skip
        refine gz_tin 26 56 hC (off := 30) dX4_saysAs_26 e0 (by decide) (by decide) (by decide) ?_
        refine gz_iconst 56 hC (2 : Int32) dX4_saysAs_56 gz_k2 ?_
        exact gz_iretP 57 hC hX dX4_saysAs_57 hF
      refine gz_cse hF (fun e1 hF => ?_) (fun e1 hF => ?_)
      · skip
        refine gz_tin 26 62 hC (off := 36) dX4_saysAs_26 e1 (by decide) (by decide) (by decide) ?_
        refine gz_sub [] [] rfl ?_
        exact hj62 hF
      refine gz_cse hF (fun e2 hF => ?_) (fun e2 hF => ?_)
      · skip
        refine gz_tin 26 58 hC (off := 32) dX4_saysAs_26 e2 (by decide) (by decide) (by decide) ?_
        refine gz_iconst 58 hC (3 : Int32) dX4_saysAs_58 gz_k3 ?_
        exact gz_iretP 59 hC hX dX4_saysAs_59 hF
      refine gz_cse hF (fun e3 hF => ?_) (fun e3 hF => ?_)
      · skip
        refine gz_tin 26 60 hC (off := 34) dX4_saysAs_26 e3 (by decide) (by decide) (by decide) ?_
        refine gz_iconst 60 hC (4 : Int32) dX4_saysAs_60 gz_k4 ?_
        exact gz_iretP 61 hC hX dX4_saysAs_61 hF
      refine gz_tout 26 62 hC dX4_saysAs_26 (by have h0 := lv_neT (a := 2) e0 (by decide); have h1 := lv_neT (a := 3) e1 (by decide); have h2 := lv_neT (a := 4) e2 (by decide); have h3 := lv_neT (a := 5) e3 (by decide); omega) (by decide) ?_
      refine gz_sub [] [] rfl ?_
      exact hj62 hF
    · skip
      refine gz_aload_n 14 hC 0 dX4_saysAs_14 rfl rfl ?_
      refine gz_getI 15 hC fl_X4_25 fk_4_4 dX4_saysAs_15 hF (fun x2 hF => ?_)
      exact gz_iretP 18 hC hX dX4_saysAs_18 hF
  · skip
    refine gz_aload_n 4 hC 0 dX4_saysAs_4 rfl rfl ?_
    refine gz_getI 5 hC fl_X4_22 fk_4_3 dX4_saysAs_5 hF (fun x1 hF => ?_)
    exact gz_iretP 8 hC hX dX4_saysAs_8 hF

theorem dX4_builtBadness_0 : decode cX4_builtBadness 0 = .ok (.aload_n 1, 1) := by decide +kernel
theorem dX4_builtBadness_1 : decode cX4_builtBadness 1 = .ok (.aload_n 1, 1) := by decide +kernel
theorem dX4_builtBadness_2 : decode cX4_builtBadness 2 = .ok (.aload_n 0, 1) := by decide +kernel
theorem dX4_builtBadness_3 : decode cX4_builtBadness 3 = .ok (.getfield 22, 3) := by decide +kernel
theorem dX4_builtBadness_6 : decode cX4_builtBadness 6 = .ok (.aload_n 0, 1) := by decide +kernel
theorem dX4_builtBadness_7 : decode cX4_builtBadness 7 = .ok (.getfield 25, 3) := by decide +kernel
theorem dX4_builtBadness_10 : decode cX4_builtBadness 10 = .ok (.iload_n 2, 1) := by decide +kernel
theorem dX4_builtBadness_11 : decode cX4_builtBadness 11 = .ok (.iconst 0, 1) := by decide +kernel
theorem dX4_builtBadness_12 : decode cX4_builtBadness 12 = .ok (.iconst 0, 1) := by decide +kernel
theorem dX4_builtBadness_13 : decode cX4_builtBadness 13 = .ok (.invokevirtual 63, 3) := by decide +kernel
theorem dX4_builtBadness_16 : decode cX4_builtBadness 16 = .ok (.istore_n 3, 1) := by decide +kernel
theorem dX4_builtBadness_17 : decode cX4_builtBadness 17 = .ok (.iload_n 3, 1) := by decide +kernel
theorem dX4_builtBadness_18 : decode cX4_builtBadness 18 = .ok (.iconst (-1), 1) := by decide +kernel
theorem dX4_builtBadness_19 : decode cX4_builtBadness 19 = .ok (.if_icmp .ne 7, 3) := by decide +kernel
theorem dX4_builtBadness_22 : decode cX4_builtBadness 22 = .ok (.iconst (-1), 1) := by decide +kernel
theorem dX4_builtBadness_23 : decode cX4_builtBadness 23 = .ok (.goto 11, 3) := by decide +kernel
theorem dX4_builtBadness_26 : decode cX4_builtBadness 26 = .ok (.iload_n 3, 1) := by decide +kernel
theorem dX4_builtBadness_27 : decode cX4_builtBadness 27 = .ok (.aload_n 0, 1) := by decide +kernel
theorem dX4_builtBadness_28 : decode cX4_builtBadness 28 = .ok (.getfield 25, 3) := by decide +kernel
theorem dX4_builtBadness_31 : decode cX4_builtBadness 31 = .ok (.iconst 2, 1) := by decide +kernel
theorem dX4_builtBadness_32 : decode cX4_builtBadness 32 = .ok (.idiv, 1) := by decide +kernel
theorem dX4_builtBadness_33 : decode cX4_builtBadness 33 = .ok (.iadd, 1) := by decide +kernel
theorem dX4_builtBadness_34 : decode cX4_builtBadness 34 = .ok (.ireturn, 1) := by decide +kernel

def f_X4_builtBadness (fu : Nat) (M : gz_M) (a0 : Nat) (a1 : Nat) (a2 : Int32) : Option (Int32) :=
  gz_gd M 4 a0 <|
  (gz_gI M 4 3 a0).bind fun x1 =>
  (gz_gI M 4 4 a0).bind fun x2 =>
  (f_X7_badness fu M a1 a1 x1 x2 a2 (0 : Int32) (0 : Int32)).bind fun x3 =>
  gz_jn (fun (x5 : Int32) =>
  some x5) fun j34 =>
  if x3 = (-1 : Int32) then
    j34 (-1 : Int32)
  else
    (gz_gI M 4 4 a0).bind fun x4 =>
    j34 (x3 + (x4 / (2 : Int32)))

set_option maxHeartbeats 4000000 in
theorem ct_X4_builtBadness (l : Launch) (G : gz_G) (fu : Nat) (M : gz_M) (a0 : Nat) (a1 : Nat) (a2 : Int32) (y : Int32) (hF : f_X4_builtBadness fu M a0 a1 a2 = some y) : gz_ct l yX4_builtBadness cX4_builtBadness 4 (some .int) 3 76 0 0 G [.ref a0, .ref a1, .int a2] M (some (.int y)) M := by
  refine gz_ct.of (by decide) (Nat.le_of_ble_eq_true rfl) (fun C hC hX => ?_)
  unfold f_X4_builtBadness at hF
  obtain ⟨-, hF⟩ := gz_gd_some hF
  show gz_go C 0 0 M [(0, .ref a0), (1, .ref a1), (2, .int a2)] 0 []
  refine gz_aload_n 0 hC 1 dX4_builtBadness_0 rfl rfl ?_
  refine gz_aload_n 1 hC 1 dX4_builtBadness_1 rfl rfl ?_
  refine gz_aload_n 2 hC 0 dX4_builtBadness_2 rfl rfl ?_
  refine gz_getI 3 hC fl_X4_22 fk_4_3 dX4_builtBadness_3 hF (fun x1 hF => ?_)
  refine gz_aload_n 6 hC 0 dX4_builtBadness_6 rfl rfl ?_
  refine gz_getI 7 hC fl_X4_25 fk_4_4 dX4_builtBadness_7 hF (fun x2 hF => ?_)
  refine gz_iload_n 10 hC 2 dX4_builtBadness_10 rfl rfl ?_
  refine gz_iconst 11 hC (0 : Int32) dX4_builtBadness_11 gz_k0 ?_
  refine gz_iconst 12 hC (0 : Int32) dX4_builtBadness_12 gz_k0 ?_
  refine gz_cvP (st := []) 13 hC hX [.ref a1, .int x1, .int x2, .int a2, .int (0 : Int32), .int (0 : Int32)] Value.int yl_X7_badness yv_X7_badness q_525 ⟨Nat.le_of_ble_eq_true rfl, Nat.le_of_ble_eq_true rfl⟩ ⟨_, rfl⟩ (fun r h => ct_X7_badness _ _ fu M a1 a1 x1 x2 a2 (0 : Int32) (0 : Int32) r h) rfl rfl (Nat.le_of_ble_eq_true rfl) dX4_builtBadness_13 gz_00 hF (fun x3 hF => ?_)
  refine gz_istore_n 16 hC [(3, .int x3), (0, .ref a0), (1, .ref a1), (2, .int a2)] dX4_builtBadness_16 rfl (by decide) rfl ?_
  refine gz_iload_n 17 hC 0 dX4_builtBadness_17 rfl rfl ?_
  refine gz_iconst 18 hC (-1 : Int32) dX4_builtBadness_18 gz_km1 ?_
  refine gz_join (fun (j : Int32 → Option (Int32)) => ∀ (x5 : Int32), j x5 = some y → gz_go C 0 0 M [] 34 [.int x5]) hF (fun x5 hF => ?_) (fun j34 hj34 hF => ?_)
  · skip
    exact gz_iretP 34 hC hX dX4_builtBadness_34 hF
  refine gz_icmp_ne 19 26 hC dX4_builtBadness_19 (by decide) hF (fun hF => ?_) (fun hF => ?_)
  · skip
    refine gz_iload_n 26 hC 0 dX4_builtBadness_26 rfl rfl ?_
    refine gz_aload_n 27 hC 1 dX4_builtBadness_27 rfl rfl ?_
    refine gz_getI 28 hC fl_X4_25 fk_4_4 dX4_builtBadness_28 hF (fun x4 hF => ?_)
    refine gz_iconst 31 hC (2 : Int32) dX4_builtBadness_31 gz_k2 ?_
    refine gz_idivC 32 hC (by decide) dX4_builtBadness_32 ?_
    refine gz_iadd 33 hC dX4_builtBadness_33 ?_
    refine gz_sub [] [] rfl ?_
    exact hj34 _ hF
  · skip
    refine gz_iconst 22 hC (-1 : Int32) dX4_builtBadness_22 gz_km1 ?_
    refine gz_goto 23 34 hC dX4_builtBadness_23 (by decide) ?_
    refine gz_sub [] [] rfl ?_
    exact hj34 _ hF

theorem dX4_pairBadness_0 : decode cX4_pairBadness 0 = .ok (.aload_n 1, 1) := by decide +kernel
theorem dX4_pairBadness_1 : decode cX4_pairBadness 1 = .ok (.aload_n 0, 1) := by decide +kernel
theorem dX4_pairBadness_2 : decode cX4_pairBadness 2 = .ok (.getfield 22, 3) := by decide +kernel
theorem dX4_pairBadness_5 : decode cX4_pairBadness 5 = .ok (.iconst 0, 1) := by decide +kernel
theorem dX4_pairBadness_6 : decode cX4_pairBadness 6 = .ok (.invokevirtual 71, 3) := by decide +kernel
theorem dX4_pairBadness_9 : decode cX4_pairBadness 9 = .ok (.aload_n 1, 1) := by decide +kernel
theorem dX4_pairBadness_10 : decode cX4_pairBadness 10 = .ok (.iload_n 2, 1) := by decide +kernel
theorem dX4_pairBadness_11 : decode cX4_pairBadness 11 = .ok (.iconst 0, 1) := by decide +kernel
theorem dX4_pairBadness_12 : decode cX4_pairBadness 12 = .ok (.invokevirtual 74, 3) := by decide +kernel
theorem dX4_pairBadness_15 : decode cX4_pairBadness 15 = .ok (.isub, 1) := by decide +kernel
theorem dX4_pairBadness_16 : decode cX4_pairBadness 16 = .ok (.iconst 1, 1) := by decide +kernel
theorem dX4_pairBadness_17 : decode cX4_pairBadness 17 = .ok (.if_icmp .le 7, 3) := by decide +kernel
theorem dX4_pairBadness_20 : decode cX4_pairBadness 20 = .ok (.iconst 1, 1) := by decide +kernel
theorem dX4_pairBadness_21 : decode cX4_pairBadness 21 = .ok (.goto 4, 3) := by decide +kernel
theorem dX4_pairBadness_24 : decode cX4_pairBadness 24 = .ok (.iconst 0, 1) := by decide +kernel
theorem dX4_pairBadness_25 : decode cX4_pairBadness 25 = .ok (.istore_n 3, 1) := by decide +kernel
theorem dX4_pairBadness_26 : decode cX4_pairBadness 26 = .ok (.aload_n 1, 1) := by decide +kernel
theorem dX4_pairBadness_27 : decode cX4_pairBadness 27 = .ok (.aload_n 0, 1) := by decide +kernel
theorem dX4_pairBadness_28 : decode cX4_pairBadness 28 = .ok (.getfield 22, 3) := by decide +kernel
theorem dX4_pairBadness_31 : decode cX4_pairBadness 31 = .ok (.iload_n 2, 1) := by decide +kernel
theorem dX4_pairBadness_32 : decode cX4_pairBadness 32 = .ok (.invokevirtual 67, 3) := by decide +kernel
theorem dX4_pairBadness_35 : decode cX4_pairBadness 35 = .ok (.istore 4, 2) := by decide +kernel
theorem dX4_pairBadness_37 : decode cX4_pairBadness 37 = .ok (.iload 4, 2) := by decide +kernel
theorem dX4_pairBadness_39 : decode cX4_pairBadness 39 = .ok (.iconst (-1), 1) := by decide +kernel
theorem dX4_pairBadness_40 : decode cX4_pairBadness 40 = .ok (.if_icmp .eq 16, 3) := by decide +kernel
theorem dX4_pairBadness_43 : decode cX4_pairBadness 43 = .ok (.aload_n 0, 1) := by decide +kernel
theorem dX4_pairBadness_44 : decode cX4_pairBadness 44 = .ok (.getfield 25, 3) := by decide +kernel
theorem dX4_pairBadness_47 : decode cX4_pairBadness 47 = .ok (.iconst 2, 1) := by decide +kernel
theorem dX4_pairBadness_48 : decode cX4_pairBadness 48 = .ok (.irem, 1) := by decide +kernel
theorem dX4_pairBadness_49 : decode cX4_pairBadness 49 = .ok (.ifCond .eq 9, 3) := by decide +kernel
theorem dX4_pairBadness_52 : decode cX4_pairBadness 52 = .ok (.iload_n 3, 1) := by decide +kernel
theorem dX4_pairBadness_53 : decode cX4_pairBadness 53 = .ok (.ifCond .eq 5, 3) := by decide +kernel
theorem dX4_pairBadness_56 : decode cX4_pairBadness 56 = .ok (.iconst (-1), 1) := by decide +kernel
theorem dX4_pairBadness_57 : decode cX4_pairBadness 57 = .ok (.ireturn, 1) := by decide +kernel
theorem dX4_pairBadness_58 : decode cX4_pairBadness 58 = .ok (.iconst 2, 1) := by decide +kernel
theorem dX4_pairBadness_59 : decode cX4_pairBadness 59 = .ok (.iload 4, 2) := by decide +kernel
theorem dX4_pairBadness_61 : decode cX4_pairBadness 61 = .ok (.imul, 1) := by decide +kernel
theorem dX4_pairBadness_62 : decode cX4_pairBadness 62 = .ok (.ireturn, 1) := by decide +kernel

def f_X4_pairBadness (fu : Nat) (M : gz_M) (a0 : Nat) (a1 : Nat) (a2 : Int32) : Option (Int32) :=
  gz_gd M 4 a0 <|
  (gz_gI M 4 3 a0).bind fun x1 =>
  (f_X7_lastPart fu M a1 x1 (0 : Int32)).bind fun x2 =>
  (f_X7_footPart fu M a1 a2 (0 : Int32)).bind fun x3 =>
  gz_jn (fun (x4 : Int32) =>
  (gz_gI M 4 3 a0).bind fun x5 =>
    (f_X7_badnessOf fu M a1 x5 a2).bind fun x6 =>
    gz_jn (some (-1 : Int32)) fun j56 =>
    if x6 = (-1 : Int32) then
      j56
    else
      (gz_gI M 4 4 a0).bind fun x7 =>
      gz_jn (some ((2 : Int32) * x6)) fun j58 =>
      if (x7 - x7 / (2 : Int32) * (2 : Int32)) = 0 then
        j58
      else
        if x4 = 0 then
          j58
        else
          j56) fun j25 =>
  if (x2 - x3) ≤ (1 : Int32) then
    j25 (0 : Int32)
  else
    j25 (1 : Int32)

set_option maxHeartbeats 4000000 in
theorem ct_X4_pairBadness (l : Launch) (G : gz_G) (fu : Nat) (M : gz_M) (a0 : Nat) (a1 : Nat) (a2 : Int32) (y : Int32) (hF : f_X4_pairBadness fu M a0 a1 a2 = some y) : gz_ct l yX4_pairBadness cX4_pairBadness 5 (some .int) 4 98 0 0 G [.ref a0, .ref a1, .int a2] M (some (.int y)) M := by
  refine gz_ct.of (by decide) (Nat.le_of_ble_eq_true rfl) (fun C hC hX => ?_)
  unfold f_X4_pairBadness at hF
  obtain ⟨-, hF⟩ := gz_gd_some hF
  show gz_go C 0 0 M [(0, .ref a0), (1, .ref a1), (2, .int a2)] 0 []
  refine gz_aload_n 0 hC 1 dX4_pairBadness_0 rfl rfl ?_
  refine gz_aload_n 1 hC 0 dX4_pairBadness_1 rfl rfl ?_
  refine gz_getI 2 hC fl_X4_22 fk_4_3 dX4_pairBadness_2 hF (fun x1 hF => ?_)
  refine gz_iconst 5 hC (0 : Int32) dX4_pairBadness_5 gz_k0 ?_
  refine gz_cvP (st := []) 6 hC hX [.int x1, .int (0 : Int32)] Value.int yl_X7_lastPart yv_X7_lastPart q_545 ⟨Nat.le_of_ble_eq_true rfl, Nat.le_of_ble_eq_true rfl⟩ ⟨_, rfl⟩ (fun r h => ct_X7_lastPart _ _ fu M a1 x1 (0 : Int32) r h) rfl rfl (Nat.le_of_ble_eq_true rfl) dX4_pairBadness_6 gz_00 hF (fun x2 hF => ?_)
  refine gz_aload_n 9 hC 1 dX4_pairBadness_9 rfl rfl ?_
  refine gz_iload_n 10 hC 2 dX4_pairBadness_10 rfl rfl ?_
  refine gz_iconst 11 hC (0 : Int32) dX4_pairBadness_11 gz_k0 ?_
  refine gz_cvP (st := [.int x2]) 12 hC hX [.int a2, .int (0 : Int32)] Value.int yl_X7_footPart yv_X7_footPart q_546 ⟨Nat.le_of_ble_eq_true rfl, Nat.le_of_ble_eq_true rfl⟩ ⟨_, rfl⟩ (fun r h => ct_X7_footPart _ _ fu M a1 a2 (0 : Int32) r h) rfl rfl (Nat.le_of_ble_eq_true rfl) dX4_pairBadness_12 gz_00 hF (fun x3 hF => ?_)
  refine gz_isub 15 hC dX4_pairBadness_15 ?_
  refine gz_iconst 16 hC (1 : Int32) dX4_pairBadness_16 gz_k1 ?_
  refine gz_join (fun (j : Int32 → Option (Int32)) => ∀ (x4 : Int32), j x4 = some y → gz_go C 0 0 M [(0, .ref a0), (1, .ref a1), (2, .int a2)] 25 [.int x4]) hF (fun x4 hF => ?_) (fun j25 hj25 hF => ?_)
  · skip
    refine gz_istore_n 25 hC [(3, .int x4), (0, .ref a0), (1, .ref a1), (2, .int a2)] dX4_pairBadness_25 rfl (by decide) rfl ?_
    refine gz_aload_n 26 hC 2 dX4_pairBadness_26 rfl rfl ?_
    refine gz_aload_n 27 hC 1 dX4_pairBadness_27 rfl rfl ?_
    refine gz_getI 28 hC fl_X4_22 fk_4_3 dX4_pairBadness_28 hF (fun x5 hF => ?_)
    refine gz_iload_n 31 hC 3 dX4_pairBadness_31 rfl rfl ?_
    refine gz_cvP (st := []) 32 hC hX [.int x5, .int a2] Value.int yl_X7_badnessOf yv_X7_badnessOf q_547 ⟨Nat.le_of_ble_eq_true rfl, Nat.le_of_ble_eq_true rfl⟩ ⟨_, rfl⟩ (fun r h => ct_X7_badnessOf _ _ fu M a1 x5 a2 r h) rfl rfl (Nat.le_of_ble_eq_true rfl) dX4_pairBadness_32 gz_00 hF (fun x6 hF => ?_)
    refine gz_istore 35 hC [(4, .int x6), (3, .int x4), (0, .ref a0), (1, .ref a1), (2, .int a2)] dX4_pairBadness_35 (by decide) rfl ?_
    refine gz_iload 37 hC 0 dX4_pairBadness_37 rfl ?_
    refine gz_iconst 39 hC (-1 : Int32) dX4_pairBadness_39 gz_km1 ?_
    refine gz_join (fun (j : Option (Int32)) => j = some y → gz_go C 0 0 M [] 56 []) hF (fun hF => ?_) (fun j56 hj56 hF => ?_)
    · skip
      refine gz_iconst 56 hC (-1 : Int32) dX4_pairBadness_56 gz_km1 ?_
      exact gz_iretP 57 hC hX dX4_pairBadness_57 hF
    refine gz_icmp_eq 40 56 hC dX4_pairBadness_40 (by decide) hF (fun hF => ?_) (fun hF => ?_)
    · skip
      refine gz_sub [] [] rfl ?_
      exact hj56 hF
    · skip
      refine gz_aload_n 43 hC 2 dX4_pairBadness_43 rfl rfl ?_
      refine gz_getI 44 hC fl_X4_25 fk_4_4 dX4_pairBadness_44 hF (fun x7 hF => ?_)
      refine gz_iconst 47 hC (2 : Int32) dX4_pairBadness_47 gz_k2 ?_
      refine gz_iremC 48 hC (by decide) dX4_pairBadness_48 ?_
      refine gz_join (fun (j : Option (Int32)) => j = some y → gz_go C 0 0 M [(4, .int x6)] 58 []) hF (fun hF => ?_) (fun j58 hj58 hF => ?_)
      · skip
        refine gz_iconst 58 hC (2 : Int32) dX4_pairBadness_58 gz_k2 ?_
        refine gz_iload 59 hC 0 dX4_pairBadness_59 rfl ?_
        refine gz_imul 61 hC dX4_pairBadness_61 ?_
        exact gz_iretP 62 hC hX dX4_pairBadness_62 hF
      refine gz_if_eq 49 58 hC dX4_pairBadness_49 (by decide) hF (fun hF => ?_) (fun hF => ?_)
      · skip
        refine gz_sub [0] [(4, .int x6)] rfl ?_
        exact hj58 hF
      · skip
        refine gz_iload_n 52 hC 1 dX4_pairBadness_52 rfl rfl ?_
        refine gz_if_eq 53 58 hC dX4_pairBadness_53 (by decide) hF (fun hF => ?_) (fun hF => ?_)
        · skip
          refine gz_sub [0] [(4, .int x6)] rfl ?_
          exact hj58 hF
        · skip
          refine gz_sub [] [] rfl ?_
          exact hj56 hF
  refine gz_icmp_le 17 24 hC dX4_pairBadness_17 (by decide) hF (fun hF => ?_) (fun hF => ?_)
  · skip
    refine gz_iconst 24 hC (0 : Int32) dX4_pairBadness_24 gz_k0 ?_
    exact hj25 _ hF
  · skip
    refine gz_iconst 20 hC (1 : Int32) dX4_pairBadness_20 gz_k1 ?_
    refine gz_goto 21 25 hC dX4_pairBadness_21 (by decide) ?_
    exact hj25 _ hF

theorem dX4_badnessFor_0 : decode cX4_badnessFor 0 = .ok (.aload_n 0, 1) := by decide +kernel
theorem dX4_badnessFor_1 : decode cX4_badnessFor 1 = .ok (.getfield 15, 3) := by decide +kernel
theorem dX4_badnessFor_4 : decode cX4_badnessFor 4 = .ok (.bipush 10, 2) := by decide +kernel
theorem dX4_badnessFor_6 : decode cX4_badnessFor 6 = .ok (.isub, 1) := by decide +kernel
theorem dX4_badnessFor_7 : decode cX4_badnessFor 7 = .ok (.tableswitch 89 2 5 #[29, 36, 50, 57], 29) := by decide +kernel
theorem dX4_badnessFor_36 : decode cX4_badnessFor 36 = .ok (.aload_n 0, 1) := by decide +kernel
theorem dX4_badnessFor_37 : decode cX4_badnessFor 37 = .ok (.aload_n 1, 1) := by decide +kernel
theorem dX4_badnessFor_38 : decode cX4_badnessFor 38 = .ok (.iload_n 2, 1) := by decide +kernel
theorem dX4_badnessFor_39 : decode cX4_badnessFor 39 = .ok (.invokevirtual 53, 3) := by decide +kernel
theorem dX4_badnessFor_42 : decode cX4_badnessFor 42 = .ok (.ireturn, 1) := by decide +kernel
theorem dX4_badnessFor_43 : decode cX4_badnessFor 43 = .ok (.iload_n 2, 1) := by decide +kernel
theorem dX4_badnessFor_44 : decode cX4_badnessFor 44 = .ok (.aload_n 0, 1) := by decide +kernel
theorem dX4_badnessFor_45 : decode cX4_badnessFor 45 = .ok (.getfield 25, 3) := by decide +kernel
theorem dX4_badnessFor_48 : decode cX4_badnessFor 48 = .ok (.if_icmp .ne 7, 3) := by decide +kernel
theorem dX4_badnessFor_51 : decode cX4_badnessFor 51 = .ok (.iconst 0, 1) := by decide +kernel
theorem dX4_badnessFor_52 : decode cX4_badnessFor 52 = .ok (.goto 4, 3) := by decide +kernel
theorem dX4_badnessFor_55 : decode cX4_badnessFor 55 = .ok (.iconst (-1), 1) := by decide +kernel
theorem dX4_badnessFor_56 : decode cX4_badnessFor 56 = .ok (.ireturn, 1) := by decide +kernel
theorem dX4_badnessFor_57 : decode cX4_badnessFor 57 = .ok (.aload_n 0, 1) := by decide +kernel
theorem dX4_badnessFor_58 : decode cX4_badnessFor 58 = .ok (.aload_n 1, 1) := by decide +kernel
theorem dX4_badnessFor_59 : decode cX4_badnessFor 59 = .ok (.iload_n 2, 1) := by decide +kernel
theorem dX4_badnessFor_60 : decode cX4_badnessFor 60 = .ok (.invokevirtual 57, 3) := by decide +kernel
theorem dX4_badnessFor_63 : decode cX4_badnessFor 63 = .ok (.ireturn, 1) := by decide +kernel
theorem dX4_badnessFor_64 : decode cX4_badnessFor 64 = .ok (.aload_n 1, 1) := by decide +kernel
theorem dX4_badnessFor_65 : decode cX4_badnessFor 65 = .ok (.aload_n 1, 1) := by decide +kernel
theorem dX4_badnessFor_66 : decode cX4_badnessFor 66 = .ok (.aload_n 0, 1) := by decide +kernel
theorem dX4_badnessFor_67 : decode cX4_badnessFor 67 = .ok (.getfield 22, 3) := by decide +kernel
theorem dX4_badnessFor_70 : decode cX4_badnessFor 70 = .ok (.iconst 0, 1) := by decide +kernel
theorem dX4_badnessFor_71 : decode cX4_badnessFor 71 = .ok (.iload_n 2, 1) := by decide +kernel
theorem dX4_badnessFor_72 : decode cX4_badnessFor 72 = .ok (.aload_n 1, 1) := by decide +kernel
theorem dX4_badnessFor_73 : decode cX4_badnessFor 73 = .ok (.getfield 60, 3) := by decide +kernel
theorem dX4_badnessFor_76 : decode cX4_badnessFor 76 = .ok (.aload_n 0, 1) := by decide +kernel
theorem dX4_badnessFor_77 : decode cX4_badnessFor 77 = .ok (.getfield 25, 3) := by decide +kernel
theorem dX4_badnessFor_80 : decode cX4_badnessFor 80 = .ok (.imul, 1) := by decide +kernel
theorem dX4_badnessFor_81 : decode cX4_badnessFor 81 = .ok (.aload_n 1, 1) := by decide +kernel
theorem dX4_badnessFor_82 : decode cX4_badnessFor 82 = .ok (.getfield 60, 3) := by decide +kernel
theorem dX4_badnessFor_85 : decode cX4_badnessFor 85 = .ok (.aload_n 0, 1) := by decide +kernel
theorem dX4_badnessFor_86 : decode cX4_badnessFor 86 = .ok (.getfield 25, 3) := by decide +kernel
theorem dX4_badnessFor_89 : decode cX4_badnessFor 89 = .ok (.imul, 1) := by decide +kernel
theorem dX4_badnessFor_90 : decode cX4_badnessFor 90 = .ok (.iconst 2, 1) := by decide +kernel
theorem dX4_badnessFor_91 : decode cX4_badnessFor 91 = .ok (.idiv, 1) := by decide +kernel
theorem dX4_badnessFor_92 : decode cX4_badnessFor 92 = .ok (.invokevirtual 63, 3) := by decide +kernel
theorem dX4_badnessFor_95 : decode cX4_badnessFor 95 = .ok (.ireturn, 1) := by decide +kernel
theorem dX4_badnessFor_96 : decode cX4_badnessFor 96 = .ok (.aload_n 1, 1) := by decide +kernel
theorem dX4_badnessFor_97 : decode cX4_badnessFor 97 = .ok (.aload_n 0, 1) := by decide +kernel
theorem dX4_badnessFor_98 : decode cX4_badnessFor 98 = .ok (.getfield 22, 3) := by decide +kernel
theorem dX4_badnessFor_101 : decode cX4_badnessFor 101 = .ok (.iload_n 2, 1) := by decide +kernel
theorem dX4_badnessFor_102 : decode cX4_badnessFor 102 = .ok (.invokevirtual 67, 3) := by decide +kernel
theorem dX4_badnessFor_105 : decode cX4_badnessFor 105 = .ok (.ireturn, 1) := by decide +kernel

def f_X4_badnessFor (fu : Nat) (M : gz_M) (a0 : Nat) (a1 : Nat) (a2 : Int32) : Option (Int32) :=
  gz_gd M 4 a0 <|
  (gz_gI M 4 1 a0).bind fun x1 =>
  if (x1 - (10 : Int32)) = (2 : Int32) then (f_X4_builtBadness fu M a0 a1 a2).bind fun x13 =>
    some x13 else if (x1 - (10 : Int32)) = (3 : Int32) then (gz_gI M 4 4 a0).bind fun x11 =>
    gz_jn (fun (x12 : Int32) =>
    some x12) fun j56 =>
    if a2 = x11 then
      j56 (0 : Int32)
    else
      j56 (-1 : Int32) else if (x1 - (10 : Int32)) = (4 : Int32) then (f_X4_pairBadness fu M a0 a1 a2).bind fun x10 =>
    some x10 else if (x1 - (10 : Int32)) = (5 : Int32) then (gz_gI M 4 3 a0).bind fun x4 =>
    (gz_gI M 7 7 a1).bind fun x5 =>
    (gz_gI M 4 4 a0).bind fun x6 =>
    (gz_gI M 7 7 a1).bind fun x7 =>
    (gz_gI M 4 4 a0).bind fun x8 =>
    (f_X7_badness fu M a1 a1 x4 (0 : Int32) a2 (x5 * x6) ((x7 * x8) / (2 : Int32))).bind fun x9 =>
    some x9 else (gz_gI M 4 3 a0).bind fun x2 =>
  (f_X7_badnessOf fu M a1 x2 a2).bind fun x3 =>
  some x3

set_option maxHeartbeats 4000000 in
theorem ct_X4_badnessFor (l : Launch) (G : gz_G) (fu : Nat) (M : gz_M) (a0 : Nat) (a1 : Nat) (a2 : Int32) (y : Int32) (hF : f_X4_badnessFor fu M a0 a1 a2 = some y) : gz_ct l yX4_badnessFor cX4_badnessFor 3 (some .int) 5 122 0 0 G [.ref a0, .ref a1, .int a2] M (some (.int y)) M := by
  refine gz_ct.of (by decide) (Nat.le_of_ble_eq_true rfl) (fun C hC hX => ?_)
  unfold f_X4_badnessFor at hF
  obtain ⟨-, hF⟩ := gz_gd_some hF
  show gz_go C 0 0 M [(0, .ref a0), (1, .ref a1), (2, .int a2)] 0 []
  refine gz_aload_n 0 hC 0 dX4_badnessFor_0 rfl rfl ?_
  refine gz_getI 1 hC fl_X4_15 fk_4_1 dX4_badnessFor_1 hF (fun x1 hF => ?_)
  refine gz_bipush 4 hC (10 : Int32) dX4_badnessFor_4 gz_b10 ?_
  refine gz_isub 6 hC dX4_badnessFor_6 ?_
  refine gz_cse hF (fun e0 hF => ?_) (fun e0 hF => ?_)
  · skip
    refine gz_tin 7 36 hC (off := 29) dX4_badnessFor_7 e0 (by decide) (by decide) (by decide) ?_
    refine gz_aload_n 36 hC 0 dX4_badnessFor_36 rfl rfl ?_
    refine gz_aload_n 37 hC 1 dX4_badnessFor_37 rfl rfl ?_
    refine gz_iload_n 38 hC 2 dX4_badnessFor_38 rfl rfl ?_
    refine gz_cvP (st := []) 39 hC hX [.ref a1, .int a2] Value.int yl_X4_builtBadness yv_X4_builtBadness q_521 ⟨Nat.le_of_ble_eq_true rfl, Nat.le_of_ble_eq_true rfl⟩ ⟨_, rfl⟩ (fun r h => ct_X4_builtBadness _ _ fu M a0 a1 a2 r h) rfl rfl (Nat.le_of_ble_eq_true rfl) dX4_badnessFor_39 gz_00 hF (fun x13 hF => ?_)
    exact gz_iretP 42 hC hX dX4_badnessFor_42 hF
  refine gz_cse hF (fun e1 hF => ?_) (fun e1 hF => ?_)
  · skip
    refine gz_tin 7 43 hC (off := 36) dX4_badnessFor_7 e1 (by decide) (by decide) (by decide) ?_
    refine gz_iload_n 43 hC 2 dX4_badnessFor_43 rfl rfl ?_
    refine gz_aload_n 44 hC 0 dX4_badnessFor_44 rfl rfl ?_
    refine gz_getI 45 hC fl_X4_25 fk_4_4 dX4_badnessFor_45 hF (fun x11 hF => ?_)
    refine gz_join (fun (j : Int32 → Option (Int32)) => ∀ (x12 : Int32), j x12 = some y → gz_go C 0 0 M [] 56 [.int x12]) hF (fun x12 hF => ?_) (fun j56 hj56 hF => ?_)
    · skip
      exact gz_iretP 56 hC hX dX4_badnessFor_56 hF
    refine gz_icmp_ne 48 55 hC dX4_badnessFor_48 (by decide) hF (fun hF => ?_) (fun hF => ?_)
    · skip
      refine gz_iconst 55 hC (-1 : Int32) dX4_badnessFor_55 gz_km1 ?_
      refine gz_sub [] [] rfl ?_
      exact hj56 _ hF
    · skip
      refine gz_iconst 51 hC (0 : Int32) dX4_badnessFor_51 gz_k0 ?_
      refine gz_goto 52 56 hC dX4_badnessFor_52 (by decide) ?_
      refine gz_sub [] [] rfl ?_
      exact hj56 _ hF
  refine gz_cse hF (fun e2 hF => ?_) (fun e2 hF => ?_)
  · skip
    refine gz_tin 7 57 hC (off := 50) dX4_badnessFor_7 e2 (by decide) (by decide) (by decide) ?_
    refine gz_aload_n 57 hC 0 dX4_badnessFor_57 rfl rfl ?_
    refine gz_aload_n 58 hC 1 dX4_badnessFor_58 rfl rfl ?_
    refine gz_iload_n 59 hC 2 dX4_badnessFor_59 rfl rfl ?_
    refine gz_cvP (st := []) 60 hC hX [.ref a1, .int a2] Value.int yl_X4_pairBadness yv_X4_pairBadness q_541 ⟨Nat.le_of_ble_eq_true rfl, Nat.le_of_ble_eq_true rfl⟩ ⟨_, rfl⟩ (fun r h => ct_X4_pairBadness _ _ fu M a0 a1 a2 r h) rfl rfl (Nat.le_of_ble_eq_true rfl) dX4_badnessFor_60 gz_00 hF (fun x10 hF => ?_)
    exact gz_iretP 63 hC hX dX4_badnessFor_63 hF
  refine gz_cse hF (fun e3 hF => ?_) (fun e3 hF => ?_)
  · skip
    refine gz_tin 7 64 hC (off := 57) dX4_badnessFor_7 e3 (by decide) (by decide) (by decide) ?_
    refine gz_aload_n 64 hC 1 dX4_badnessFor_64 rfl rfl ?_
    refine gz_aload_n 65 hC 1 dX4_badnessFor_65 rfl rfl ?_
    refine gz_aload_n 66 hC 0 dX4_badnessFor_66 rfl rfl ?_
    refine gz_getI 67 hC fl_X4_22 fk_4_3 dX4_badnessFor_67 hF (fun x4 hF => ?_)
    refine gz_iconst 70 hC (0 : Int32) dX4_badnessFor_70 gz_k0 ?_
    refine gz_iload_n 71 hC 2 dX4_badnessFor_71 rfl rfl ?_
    refine gz_aload_n 72 hC 1 dX4_badnessFor_72 rfl rfl ?_
    refine gz_getI 73 hC fl_X4_60 fk_7_7 dX4_badnessFor_73 hF (fun x5 hF => ?_)
    refine gz_aload_n 76 hC 0 dX4_badnessFor_76 rfl rfl ?_
    refine gz_getI 77 hC fl_X4_25 fk_4_4 dX4_badnessFor_77 hF (fun x6 hF => ?_)
    refine gz_imul 80 hC dX4_badnessFor_80 ?_
    refine gz_aload_n 81 hC 1 dX4_badnessFor_81 rfl rfl ?_
    refine gz_getI 82 hC fl_X4_60 fk_7_7 dX4_badnessFor_82 hF (fun x7 hF => ?_)
    refine gz_aload_n 85 hC 0 dX4_badnessFor_85 rfl rfl ?_
    refine gz_getI 86 hC fl_X4_25 fk_4_4 dX4_badnessFor_86 hF (fun x8 hF => ?_)
    refine gz_imul 89 hC dX4_badnessFor_89 ?_
    refine gz_iconst 90 hC (2 : Int32) dX4_badnessFor_90 gz_k2 ?_
    refine gz_idivC 91 hC (by decide) dX4_badnessFor_91 ?_
    refine gz_cvP (st := []) 92 hC hX [.ref a1, .int x4, .int (0 : Int32), .int a2, .int (x5 * x6), .int ((x7 * x8) / (2 : Int32))] Value.int yl_X7_badness yv_X7_badness q_525 ⟨Nat.le_of_ble_eq_true rfl, Nat.le_of_ble_eq_true rfl⟩ ⟨_, rfl⟩ (fun r h => ct_X7_badness _ _ fu M a1 a1 x4 (0 : Int32) a2 (x5 * x6) ((x7 * x8) / (2 : Int32)) r h) rfl rfl (Nat.le_of_ble_eq_true rfl) dX4_badnessFor_92 gz_00 hF (fun x9 hF => ?_)
    exact gz_iretP 95 hC hX dX4_badnessFor_95 hF
  refine gz_tout 7 96 hC dX4_badnessFor_7 (by have h0 := lv_neT (a := 2) e0 (by decide); have h1 := lv_neT (a := 3) e1 (by decide); have h2 := lv_neT (a := 4) e2 (by decide); have h3 := lv_neT (a := 5) e3 (by decide); omega) (by decide) ?_
  refine gz_aload_n 96 hC 1 dX4_badnessFor_96 rfl rfl ?_
  refine gz_aload_n 97 hC 0 dX4_badnessFor_97 rfl rfl ?_
  refine gz_getI 98 hC fl_X4_22 fk_4_3 dX4_badnessFor_98 hF (fun x2 hF => ?_)
  refine gz_iload_n 101 hC 2 dX4_badnessFor_101 rfl rfl ?_
  refine gz_cvP (st := []) 102 hC hX [.int x2, .int a2] Value.int yl_X7_badnessOf yv_X7_badnessOf q_547 ⟨Nat.le_of_ble_eq_true rfl, Nat.le_of_ble_eq_true rfl⟩ ⟨_, rfl⟩ (fun r h => ct_X7_badnessOf _ _ fu M a1 x2 a2 r h) rfl rfl (Nat.le_of_ble_eq_true rfl) dX4_badnessFor_102 gz_00 hF (fun x3 hF => ?_)
  exact gz_iretP 105 hC hX dX4_badnessFor_105 hF

theorem dX5_weigh_0 : decode cX5_weigh 0 = .ok (.iconst 0, 1) := by decide +kernel
theorem dX5_weigh_1 : decode cX5_weigh 1 = .ok (.istore_n 3, 1) := by decide +kernel
theorem dX5_weigh_2 : decode cX5_weigh 2 = .ok (.iload_n 3, 1) := by decide +kernel
theorem dX5_weigh_3 : decode cX5_weigh 3 = .ok (.aload_n 0, 1) := by decide +kernel
theorem dX5_weigh_4 : decode cX5_weigh 4 = .ok (.getfield 33, 3) := by decide +kernel
theorem dX5_weigh_7 : decode cX5_weigh 7 = .ok (.if_icmp .ge 73, 3) := by decide +kernel
theorem dX5_weigh_10 : decode cX5_weigh 10 = .ok (.iconst 0, 1) := by decide +kernel
theorem dX5_weigh_11 : decode cX5_weigh 11 = .ok (.istore 4, 2) := by decide +kernel
theorem dX5_weigh_13 : decode cX5_weigh 13 = .ok (.iconst 0, 1) := by decide +kernel
theorem dX5_weigh_14 : decode cX5_weigh 14 = .ok (.istore 5, 2) := by decide +kernel
theorem dX5_weigh_16 : decode cX5_weigh 16 = .ok (.iload 5, 2) := by decide +kernel
theorem dX5_weigh_18 : decode cX5_weigh 18 = .ok (.aload_n 1, 1) := by decide +kernel
theorem dX5_weigh_19 : decode cX5_weigh 19 = .ok (.getfield 53, 3) := by decide +kernel
theorem dX5_weigh_22 : decode cX5_weigh 22 = .ok (.if_icmp .ge 37, 3) := by decide +kernel
theorem dX5_weigh_25 : decode cX5_weigh 25 = .ok (.aload_n 1, 1) := by decide +kernel
theorem dX5_weigh_26 : decode cX5_weigh 26 = .ok (.iload 5, 2) := by decide +kernel
theorem dX5_weigh_28 : decode cX5_weigh 28 = .ok (.iload_n 2, 1) := by decide +kernel
theorem dX5_weigh_29 : decode cX5_weigh 29 = .ok (.invokevirtual 56, 3) := by decide +kernel
theorem dX5_weigh_32 : decode cX5_weigh 32 = .ok (.aload_n 0, 1) := by decide +kernel
theorem dX5_weigh_33 : decode cX5_weigh 33 = .ok (.getfield 22, 3) := by decide +kernel
theorem dX5_weigh_36 : decode cX5_weigh 36 = .ok (.iload_n 3, 1) := by decide +kernel
theorem dX5_weigh_37 : decode cX5_weigh 37 = .ok (.iaload, 1) := by decide +kernel
theorem dX5_weigh_38 : decode cX5_weigh 38 = .ok (.if_icmp .ne 15, 3) := by decide +kernel
theorem dX5_weigh_41 : decode cX5_weigh 41 = .ok (.iload 4, 2) := by decide +kernel
theorem dX5_weigh_43 : decode cX5_weigh 43 = .ok (.aload_n 1, 1) := by decide +kernel
theorem dX5_weigh_44 : decode cX5_weigh 44 = .ok (.iload 5, 2) := by decide +kernel
theorem dX5_weigh_46 : decode cX5_weigh 46 = .ok (.iconst 3, 1) := by decide +kernel
theorem dX5_weigh_47 : decode cX5_weigh 47 = .ok (.invokevirtual 56, 3) := by decide +kernel
theorem dX5_weigh_50 : decode cX5_weigh 50 = .ok (.iadd, 1) := by decide +kernel
theorem dX5_weigh_51 : decode cX5_weigh 51 = .ok (.istore 4, 2) := by decide +kernel
theorem dX5_weigh_53 : decode cX5_weigh 53 = .ok (.iinc 5 1, 3) := by decide +kernel
theorem dX5_weigh_56 : decode cX5_weigh 56 = .ok (.goto (-40), 3) := by decide +kernel
theorem dX5_weigh_59 : decode cX5_weigh 59 = .ok (.aload_n 0, 1) := by decide +kernel
theorem dX5_weigh_60 : decode cX5_weigh 60 = .ok (.getfield 25, 3) := by decide +kernel
theorem dX5_weigh_63 : decode cX5_weigh 63 = .ok (.iload_n 3, 1) := by decide +kernel
theorem dX5_weigh_64 : decode cX5_weigh 64 = .ok (.iload 4, 2) := by decide +kernel
theorem dX5_weigh_66 : decode cX5_weigh 66 = .ok (.aload_n 1, 1) := by decide +kernel
theorem dX5_weigh_67 : decode cX5_weigh 67 = .ok (.getfield 60, 3) := by decide +kernel
theorem dX5_weigh_70 : decode cX5_weigh 70 = .ok (.iload_n 2, 1) := by decide +kernel
theorem dX5_weigh_71 : decode cX5_weigh 71 = .ok (.iaload, 1) := by decide +kernel
theorem dX5_weigh_72 : decode cX5_weigh 72 = .ok (.imul, 1) := by decide +kernel
theorem dX5_weigh_73 : decode cX5_weigh 73 = .ok (.iastore, 1) := by decide +kernel
theorem dX5_weigh_74 : decode cX5_weigh 74 = .ok (.iinc 3 1, 3) := by decide +kernel
theorem dX5_weigh_77 : decode cX5_weigh 77 = .ok (.goto (-75), 3) := by decide +kernel
theorem dX5_weigh_80 : decode cX5_weigh 80 = .ok (.return_, 1) := by decide +kernel
def lp_X5_weigh_16 (j59 : Int32 → Option (gz_M)) (fu : Nat) (M2 : gz_M) (a0 : Nat) (a1 : Nat) (a2 : Int32) (x1 : Int32) : Nat → Int32 → Int32 → Option (gz_M)
  | 0, _, _ => none
  | n16 + 1, x4, x5 =>
    (gz_gI M2 7 4 a1).bind fun x6 =>
    if x6 ≤ x5 then
      j59 x4
    else
      (f_X7_footPart fu M2 a1 x5 a2).bind fun x7 =>
      (gz_gR M2 5 3 a0).bind fun x8 =>
      (gz_aI M2 x8 x1).bind fun x9 =>
      gz_jn (fun (x11 : Int32) =>
      lp_X5_weigh_16 j59 fu M2 a0 a1 a2 x1 n16 x11 (x5 + (1 : Int32))) fun j53 =>
      if x7 = x9 then
        (f_X7_footPart fu M2 a1 x5 (3 : Int32)).bind fun x10 =>
        j53 (x4 + x10)
      else
        j53 x4
def lp_X5_weigh_2 (j80 : gz_M → Option (gz_M)) (fu : Nat) (a0 : Nat) (a1 : Nat) (a2 : Int32) : Nat → Int32 → gz_M → Option (gz_M)
  | 0, _, _ => none
  | n2 + 1, x1, M2 =>
    (gz_gI M2 5 6 a0).bind fun x3 =>
    if x3 ≤ x1 then
      j80 M2
    else
      lp_X5_weigh_16 (fun (x12 : Int32) => (gz_gR M2 5 4 a0).bind fun x13 =>
        (gz_gR M2 7 2 a1).bind fun x14 =>
        (gz_aI M2 x14 a2).bind fun x15 =>
        (gz_tI M2 x13 x1 (x12 * x15)).bind fun M16 =>
        lp_X5_weigh_2 j80 fu a0 a1 a2 n2 (x1 + (1 : Int32)) M16) fu M2 a0 a1 a2 x1 fu (0 : Int32) (0 : Int32)
def f_X5_weigh (fu : Nat) (M : gz_M) (a0 : Nat) (a1 : Nat) (a2 : Int32) : Option (gz_M) :=
  gz_gd M 5 a0 <|
  lp_X5_weigh_2 (fun (M17 : gz_M) => some M17) fu a0 a1 a2 fu (0 : Int32) M
set_option maxHeartbeats 4000000 in
theorem w_X5_weigh_16 {C : gz_C} {y : gz_M} {fu : Nat} {M2 : gz_M} {a0 : Nat} {a1 : Nat} {a2 : Int32} {x1 : Int32} {j59 : Int32 → Option (gz_M)} (hC : gz_ok C cX5_weigh RX5 6) (hX : gz_cx C 1 22 0 0 none none y "weigh") (hj59 : ∀ (x12 : Int32), j59 x12 = some y → gz_go C 0 0 M2 [(0, .ref a0), (1, .ref a1), (2, .int a2), (3, .int x1), (4, .int x12)] 59 []) : ∀ (n : Nat) (x4 : Int32) (x5 : Int32), lp_X5_weigh_16 j59 fu M2 a0 a1 a2 x1 n x4 x5 = some y → gz_go C 0 0 M2 [(0, .ref a0), (1, .ref a1), (2, .int a2), (3, .int x1), (4, .int x4), (5, .int x5)] 16 [] := by
  intro n
  induction n with
  | zero => intro x4 x5 hF; exact nomatch (show (none : Option (gz_M)) = some y from hF)
  | succ n16 ih16 =>
    intro x4 x5 hF
    rw [lp_X5_weigh_16.eq_2] at hF
    refine gz_iload 16 hC 5 dX5_weigh_16 rfl ?_
    refine gz_aload_n 18 hC 1 dX5_weigh_18 rfl rfl ?_
    refine gz_getI 19 hC fl_X5_53 fk_7_4 dX5_weigh_19 hF (fun x6 hF => ?_)
    refine gz_icmp_ge 22 59 hC dX5_weigh_22 (by decide) hF (fun hF => ?_) (fun hF => ?_)
    · skip
      refine gz_sub [0, 1, 2, 3, 4] [(0, .ref a0), (1, .ref a1), (2, .int a2), (3, .int x1), (4, .int x4)] rfl ?_
      exact hj59 _ hF
    · skip
      refine gz_aload_n 25 hC 1 dX5_weigh_25 rfl rfl ?_
      refine gz_iload 26 hC 5 dX5_weigh_26 rfl ?_
      refine gz_iload_n 28 hC 2 dX5_weigh_28 rfl rfl ?_
      refine gz_cvP (st := []) 29 hC hX [.int x5, .int a2] Value.int yl_X7_footPart yv_X7_footPart q_925 ⟨Nat.le_of_ble_eq_true rfl, Nat.le_of_ble_eq_true rfl⟩ ⟨_, rfl⟩ (fun r h => ct_X7_footPart _ _ fu M2 a1 x5 a2 r h) rfl rfl (Nat.le_of_ble_eq_true rfl) dX5_weigh_29 gz_00 hF (fun x7 hF => ?_)
      refine gz_aload_n 32 hC 0 dX5_weigh_32 rfl rfl ?_
      refine gz_getR 33 hC fl_X5_22 fk_5_3 dX5_weigh_33 hF (fun x8 hF => ?_)
      refine gz_iload_n 36 hC 3 dX5_weigh_36 rfl rfl ?_
      refine gz_iald 37 hC dX5_weigh_37 hF (fun x9 hF => ?_)
      refine gz_join (fun (j : Int32 → Option (gz_M)) => ∀ (x11 : Int32), j x11 = some y → gz_go C 0 0 M2 [(0, .ref a0), (1, .ref a1), (2, .int a2), (3, .int x1), (4, .int x11), (5, .int x5)] 53 []) hF (fun x11 hF => ?_) (fun j53 hj53 hF => ?_)
      · skip
        refine gz_iinc 53 hC (x5 + (1 : Int32)) 5 [(5, .int (x5 + (1 : Int32))), (0, .ref a0), (1, .ref a1), (2, .int a2), (3, .int x1), (4, .int x11)] dX5_weigh_53 rfl rfl (by decide) rfl ?_
        refine gz_goto 56 16 hC dX5_weigh_56 (by decide) ?_
        refine gz_sub [1, 2, 3, 4, 5, 0] [(0, .ref a0), (1, .ref a1), (2, .int a2), (3, .int x1), (4, .int x11), (5, .int (x5 + (1 : Int32)))] rfl ?_
        exact ih16 _ _ hF
      refine gz_icmp_ne 38 53 hC dX5_weigh_38 (by decide) hF (fun hF => ?_) (fun hF => ?_)
      · skip
        exact hj53 _ hF
      · skip
        refine gz_iload 41 hC 4 dX5_weigh_41 rfl ?_
        refine gz_aload_n 43 hC 1 dX5_weigh_43 rfl rfl ?_
        refine gz_iload 44 hC 5 dX5_weigh_44 rfl ?_
        refine gz_iconst 46 hC (3 : Int32) dX5_weigh_46 gz_k3 ?_
        refine gz_cvP (st := [.int x4]) 47 hC hX [.int x5, .int (3 : Int32)] Value.int yl_X7_footPart yv_X7_footPart q_925 ⟨Nat.le_of_ble_eq_true rfl, Nat.le_of_ble_eq_true rfl⟩ ⟨_, rfl⟩ (fun r h => ct_X7_footPart _ _ fu M2 a1 x5 (3 : Int32) r h) rfl rfl (Nat.le_of_ble_eq_true rfl) dX5_weigh_47 gz_00 hF (fun x10 hF => ?_)
        refine gz_iadd 50 hC dX5_weigh_50 ?_
        refine gz_istore 51 hC [(4, .int (x4 + x10)), (0, .ref a0), (1, .ref a1), (2, .int a2), (3, .int x1), (5, .int x5)] dX5_weigh_51 (by decide) rfl ?_
        refine gz_sub [1, 2, 3, 4, 0, 5] [(0, .ref a0), (1, .ref a1), (2, .int a2), (3, .int x1), (4, .int (x4 + x10)), (5, .int x5)] rfl ?_
        exact hj53 _ hF
set_option maxHeartbeats 4000000 in
theorem w_X5_weigh_2 {C : gz_C} {y : gz_M} {fu : Nat} {a0 : Nat} {a1 : Nat} {a2 : Int32} {j80 : gz_M → Option (gz_M)} (hC : gz_ok C cX5_weigh RX5 6) (hX : gz_cx C 1 22 0 0 none none y "weigh") (hj80 : ∀ (M17 : gz_M), j80 M17 = some y → gz_go C 0 0 M17 [] 80 []) : ∀ (n : Nat) (x1 : Int32) (M2 : gz_M), lp_X5_weigh_2 j80 fu a0 a1 a2 n x1 M2 = some y → gz_go C 0 0 M2 [(0, .ref a0), (1, .ref a1), (2, .int a2), (3, .int x1)] 2 [] := by
  intro n
  induction n with
  | zero => intro x1 M2 hF; exact nomatch (show (none : Option (gz_M)) = some y from hF)
  | succ n2 ih2 =>
    intro x1 M2 hF
    rw [lp_X5_weigh_2.eq_2] at hF
    refine gz_iload_n 2 hC 3 dX5_weigh_2 rfl rfl ?_
    refine gz_aload_n 3 hC 0 dX5_weigh_3 rfl rfl ?_
    refine gz_getI 4 hC fl_X5_33 fk_5_6 dX5_weigh_4 hF (fun x3 hF => ?_)
    refine gz_icmp_ge 7 80 hC dX5_weigh_7 (by decide) hF (fun hF => ?_) (fun hF => ?_)
    · skip
      refine gz_sub [] [] rfl ?_
      exact hj80 _ hF
    · skip
      refine gz_iconst 10 hC (0 : Int32) dX5_weigh_10 gz_k0 ?_
      refine gz_istore 11 hC [(4, .int (0 : Int32)), (0, .ref a0), (1, .ref a1), (2, .int a2), (3, .int x1)] dX5_weigh_11 (by decide) rfl ?_
      refine gz_iconst 13 hC (0 : Int32) dX5_weigh_13 gz_k0 ?_
      refine gz_istore 14 hC [(5, .int (0 : Int32)), (4, .int (0 : Int32)), (0, .ref a0), (1, .ref a1), (2, .int a2), (3, .int x1)] dX5_weigh_14 (by decide) rfl ?_
      refine gz_sub [2, 3, 4, 5, 1, 0] [(0, .ref a0), (1, .ref a1), (2, .int a2), (3, .int x1), (4, .int (0 : Int32)), (5, .int (0 : Int32))] rfl ?_
      refine w_X5_weigh_16 hC hX ?_ _ _ _ hF
      intro x12 hF
      refine gz_aload_n 59 hC 0 dX5_weigh_59 rfl rfl ?_
      refine gz_getR 60 hC fl_X5_25 fk_5_4 dX5_weigh_60 hF (fun x13 hF => ?_)
      refine gz_iload_n 63 hC 3 dX5_weigh_63 rfl rfl ?_
      refine gz_iload 64 hC 4 dX5_weigh_64 rfl ?_
      refine gz_aload_n 66 hC 1 dX5_weigh_66 rfl rfl ?_
      refine gz_getR 67 hC fl_X5_60 fk_7_2 dX5_weigh_67 hF (fun x14 hF => ?_)
      refine gz_iload_n 70 hC 2 dX5_weigh_70 rfl rfl ?_
      refine gz_iald 71 hC dX5_weigh_71 hF (fun x15 hF => ?_)
      refine gz_imul 72 hC dX5_weigh_72 ?_
      refine gz_iast 73 hC dX5_weigh_73 hF (fun M16 hF => ?_)
      refine gz_iinc 74 hC (x1 + (1 : Int32)) 3 [(3, .int (x1 + (1 : Int32))), (0, .ref a0), (1, .ref a1), (2, .int a2), (4, .int x12)] dX5_weigh_74 rfl rfl (by decide) rfl ?_
      refine gz_goto 77 2 hC dX5_weigh_77 (by decide) ?_
      refine gz_sub [1, 2, 3, 0] [(0, .ref a0), (1, .ref a1), (2, .int a2), (3, .int (x1 + (1 : Int32)))] rfl ?_
      exact ih2 _ _ hF
set_option maxHeartbeats 4000000 in
theorem ct_X5_weigh (l : Launch) (G : gz_G) (fu : Nat) (M : gz_M) (a0 : Nat) (a1 : Nat) (a2 : Int32) (y : gz_M) (hF : f_X5_weigh fu M a0 a1 a2 = some y) : gz_ct l yX5_weigh cX5_weigh 6 none 1 22 0 0 G [.ref a0, .ref a1, .int a2] M none y := by
  refine gz_ct.of (by decide) (Nat.le_of_ble_eq_true rfl) (fun C hC hX => ?_)
  unfold f_X5_weigh at hF
  obtain ⟨-, hF⟩ := gz_gd_some hF
  show gz_go C 0 0 M [(0, .ref a0), (1, .ref a1), (2, .int a2)] 0 []
  refine gz_iconst 0 hC (0 : Int32) dX5_weigh_0 gz_k0 ?_
  refine gz_istore_n 1 hC [(3, .int (0 : Int32)), (0, .ref a0), (1, .ref a1), (2, .int a2)] dX5_weigh_1 rfl (by decide) rfl ?_
  refine gz_sub [1, 2, 3, 0] [(0, .ref a0), (1, .ref a1), (2, .int a2), (3, .int (0 : Int32))] rfl ?_
  refine w_X5_weigh_2 hC hX ?_ _ _ _ hF
  intro M17 hF
  exact gz_vretM 80 hC hX dX5_weigh_80 hF

theorem dX5_sumBy_0 : decode cX5_sumBy 0 = .ok (.aload_n 0, 1) := by decide +kernel
theorem dX5_sumBy_1 : decode cX5_sumBy 1 = .ok (.getfield 30, 3) := by decide +kernel
theorem dX5_sumBy_4 : decode cX5_sumBy 4 = .ok (.iload_n 1, 1) := by decide +kernel
theorem dX5_sumBy_5 : decode cX5_sumBy 5 = .ok (.iconst 1, 1) := by decide +kernel
theorem dX5_sumBy_6 : decode cX5_sumBy 6 = .ok (.isub, 1) := by decide +kernel
theorem dX5_sumBy_7 : decode cX5_sumBy 7 = .ok (.aaload, 1) := by decide +kernel
theorem dX5_sumBy_8 : decode cX5_sumBy 8 = .ok (.iload_n 3, 1) := by decide +kernel
theorem dX5_sumBy_9 : decode cX5_sumBy 9 = .ok (.iconst 1, 1) := by decide +kernel
theorem dX5_sumBy_10 : decode cX5_sumBy 10 = .ok (.iadd, 1) := by decide +kernel
theorem dX5_sumBy_11 : decode cX5_sumBy 11 = .ok (.iaload, 1) := by decide +kernel
theorem dX5_sumBy_12 : decode cX5_sumBy 12 = .ok (.istore 4, 2) := by decide +kernel
theorem dX5_sumBy_14 : decode cX5_sumBy 14 = .ok (.iload 4, 2) := by decide +kernel
theorem dX5_sumBy_16 : decode cX5_sumBy 16 = .ok (.ldc 63, 2) := by decide +kernel
theorem dX5_sumBy_18 : decode cX5_sumBy 18 = .ok (.if_icmp .ne 6, 3) := by decide +kernel
theorem dX5_sumBy_21 : decode cX5_sumBy 21 = .ok (.ldc 63, 2) := by decide +kernel
theorem dX5_sumBy_23 : decode cX5_sumBy 23 = .ok (.ireturn, 1) := by decide +kernel
theorem dX5_sumBy_24 : decode cX5_sumBy 24 = .ok (.iconst 0, 1) := by decide +kernel
theorem dX5_sumBy_25 : decode cX5_sumBy 25 = .ok (.istore 5, 2) := by decide +kernel
theorem dX5_sumBy_27 : decode cX5_sumBy 27 = .ok (.iload_n 2, 1) := by decide +kernel
theorem dX5_sumBy_28 : decode cX5_sumBy 28 = .ok (.istore 6, 2) := by decide +kernel
theorem dX5_sumBy_30 : decode cX5_sumBy 30 = .ok (.iload 6, 2) := by decide +kernel
theorem dX5_sumBy_32 : decode cX5_sumBy 32 = .ok (.iload_n 3, 1) := by decide +kernel
theorem dX5_sumBy_33 : decode cX5_sumBy 33 = .ok (.if_icmp .ge 36, 3) := by decide +kernel
theorem dX5_sumBy_36 : decode cX5_sumBy 36 = .ok (.iload 5, 2) := by decide +kernel
theorem dX5_sumBy_38 : decode cX5_sumBy 38 = .ok (.aload_n 0, 1) := by decide +kernel
theorem dX5_sumBy_39 : decode cX5_sumBy 39 = .ok (.getfield 25, 3) := by decide +kernel
theorem dX5_sumBy_42 : decode cX5_sumBy 42 = .ok (.iload 6, 2) := by decide +kernel
theorem dX5_sumBy_44 : decode cX5_sumBy 44 = .ok (.iaload, 1) := by decide +kernel
theorem dX5_sumBy_45 : decode cX5_sumBy 45 = .ok (.aload_n 0, 1) := by decide +kernel
theorem dX5_sumBy_46 : decode cX5_sumBy 46 = .ok (.getfield 22, 3) := by decide +kernel
theorem dX5_sumBy_49 : decode cX5_sumBy 49 = .ok (.iload_n 3, 1) := by decide +kernel
theorem dX5_sumBy_50 : decode cX5_sumBy 50 = .ok (.iaload, 1) := by decide +kernel
theorem dX5_sumBy_51 : decode cX5_sumBy 51 = .ok (.aload_n 0, 1) := by decide +kernel
theorem dX5_sumBy_52 : decode cX5_sumBy 52 = .ok (.getfield 22, 3) := by decide +kernel
theorem dX5_sumBy_55 : decode cX5_sumBy 55 = .ok (.iload 6, 2) := by decide +kernel
theorem dX5_sumBy_57 : decode cX5_sumBy 57 = .ok (.iaload, 1) := by decide +kernel
theorem dX5_sumBy_58 : decode cX5_sumBy 58 = .ok (.isub, 1) := by decide +kernel
theorem dX5_sumBy_59 : decode cX5_sumBy 59 = .ok (.imul, 1) := by decide +kernel
theorem dX5_sumBy_60 : decode cX5_sumBy 60 = .ok (.iadd, 1) := by decide +kernel
theorem dX5_sumBy_61 : decode cX5_sumBy 61 = .ok (.istore 5, 2) := by decide +kernel
theorem dX5_sumBy_63 : decode cX5_sumBy 63 = .ok (.iinc 6 1, 3) := by decide +kernel
theorem dX5_sumBy_66 : decode cX5_sumBy 66 = .ok (.goto (-36), 3) := by decide +kernel
theorem dX5_sumBy_69 : decode cX5_sumBy 69 = .ok (.iload 5, 2) := by decide +kernel
theorem dX5_sumBy_71 : decode cX5_sumBy 71 = .ok (.iload 4, 2) := by decide +kernel
theorem dX5_sumBy_73 : decode cX5_sumBy 73 = .ok (.iadd, 1) := by decide +kernel
theorem dX5_sumBy_74 : decode cX5_sumBy 74 = .ok (.ireturn, 1) := by decide +kernel
def lp_X5_sumBy_30 (j69 : Int32 → Option (Int32)) (M : gz_M) (a0 : Nat) (a3 : Int32) : Nat → Int32 → Int32 → Option (Int32)
  | 0, _, _ => none
  | n30 + 1, x4, x5 =>
    if a3 ≤ x5 then
      j69 x4
    else
      (gz_gR M 5 4 a0).bind fun x6 =>
      (gz_aI M x6 x5).bind fun x7 =>
      (gz_gR M 5 3 a0).bind fun x8 =>
      (gz_aI M x8 a3).bind fun x9 =>
      (gz_gR M 5 3 a0).bind fun x10 =>
      (gz_aI M x10 x5).bind fun x11 =>
      lp_X5_sumBy_30 j69 M a0 a3 n30 (x4 + (x7 * (x9 - x11))) (x5 + (1 : Int32))
def f_X5_sumBy (fu : Nat) (M : gz_M) (a0 : Nat) (a1 : Int32) (a2 : Int32) (a3 : Int32) : Option (Int32) :=
  gz_gd M 5 a0 <|
  (gz_gR M 5 5 a0).bind fun x1 =>
  (gz_aR M x1 (a1 - (1 : Int32))).bind fun x2 =>
  (gz_aI M x2 (a3 + (1 : Int32))).bind fun x3 =>
  if x3 = (2147483647 : Int32) then
    some (2147483647 : Int32)
  else
    lp_X5_sumBy_30 (fun (x12 : Int32) => some (x12 + x3)) M a0 a3 fu (0 : Int32) a2
set_option maxHeartbeats 4000000 in
theorem w_X5_sumBy_30 {C : gz_C} {y : Int32} {M : gz_M} {a0 : Nat} {a3 : Int32} {x3 : Int32} {j69 : Int32 → Option (Int32)} (hC : gz_ok C cX5_sumBy RX5 7) (hX : gz_cx C 0 0 0 0 (some .int) (some (.int y)) M "sumBy") (hj69 : ∀ (x12 : Int32), j69 x12 = some y → gz_go C 0 0 M [(4, .int x3), (5, .int x12)] 69 []) : ∀ (n : Nat) (x4 : Int32) (x5 : Int32), lp_X5_sumBy_30 j69 M a0 a3 n x4 x5 = some y → gz_go C 0 0 M [(0, .ref a0), (3, .int a3), (4, .int x3), (5, .int x4), (6, .int x5)] 30 [] := by
  intro n
  induction n with
  | zero => intro x4 x5 hF; exact nomatch (show (none : Option (Int32)) = some y from hF)
  | succ n30 ih30 =>
    intro x4 x5 hF
    rw [lp_X5_sumBy_30.eq_2] at hF
    refine gz_iload 30 hC 4 dX5_sumBy_30 rfl ?_
    refine gz_iload_n 32 hC 1 dX5_sumBy_32 rfl rfl ?_
    refine gz_icmp_ge 33 69 hC dX5_sumBy_33 (by decide) hF (fun hF => ?_) (fun hF => ?_)
    · skip
      refine gz_sub [2, 3] [(4, .int x3), (5, .int x4)] rfl ?_
      exact hj69 _ hF
    · skip
      refine gz_iload 36 hC 3 dX5_sumBy_36 rfl ?_
      refine gz_aload_n 38 hC 0 dX5_sumBy_38 rfl rfl ?_
      refine gz_getR 39 hC fl_X5_25 fk_5_4 dX5_sumBy_39 hF (fun x6 hF => ?_)
      refine gz_iload 42 hC 4 dX5_sumBy_42 rfl ?_
      refine gz_iald 44 hC dX5_sumBy_44 hF (fun x7 hF => ?_)
      refine gz_aload_n 45 hC 0 dX5_sumBy_45 rfl rfl ?_
      refine gz_getR 46 hC fl_X5_22 fk_5_3 dX5_sumBy_46 hF (fun x8 hF => ?_)
      refine gz_iload_n 49 hC 1 dX5_sumBy_49 rfl rfl ?_
      refine gz_iald 50 hC dX5_sumBy_50 hF (fun x9 hF => ?_)
      refine gz_aload_n 51 hC 0 dX5_sumBy_51 rfl rfl ?_
      refine gz_getR 52 hC fl_X5_22 fk_5_3 dX5_sumBy_52 hF (fun x10 hF => ?_)
      refine gz_iload 55 hC 4 dX5_sumBy_55 rfl ?_
      refine gz_iald 57 hC dX5_sumBy_57 hF (fun x11 hF => ?_)
      refine gz_isub 58 hC dX5_sumBy_58 ?_
      refine gz_imul 59 hC dX5_sumBy_59 ?_
      refine gz_iadd 60 hC dX5_sumBy_60 ?_
      refine gz_istore 61 hC [(5, .int (x4 + (x7 * (x9 - x11)))), (0, .ref a0), (3, .int a3), (4, .int x3), (6, .int x5)] dX5_sumBy_61 (by decide) rfl ?_
      refine gz_iinc 63 hC (x5 + (1 : Int32)) 4 [(6, .int (x5 + (1 : Int32))), (5, .int (x4 + (x7 * (x9 - x11)))), (0, .ref a0), (3, .int a3), (4, .int x3)] dX5_sumBy_63 rfl rfl (by decide) rfl ?_
      refine gz_goto 66 30 hC dX5_sumBy_66 (by decide) ?_
      refine gz_sub [2, 3, 4, 1, 0] [(0, .ref a0), (3, .int a3), (4, .int x3), (5, .int (x4 + (x7 * (x9 - x11)))), (6, .int (x5 + (1 : Int32)))] rfl ?_
      exact ih30 _ _ hF
set_option maxHeartbeats 4000000 in
theorem ct_X5_sumBy (l : Launch) (G : gz_G) (fu : Nat) (M : gz_M) (a0 : Nat) (a1 : Int32) (a2 : Int32) (a3 : Int32) (y : Int32) (hF : f_X5_sumBy fu M a0 a1 a2 a3 = some y) : gz_ct l yX5_sumBy cX5_sumBy 7 (some .int) 0 0 0 0 G [.ref a0, .int a1, .int a2, .int a3] M (some (.int y)) M := by
  refine gz_ct.of (by decide) (Nat.le_of_ble_eq_true rfl) (fun C hC hX => ?_)
  unfold f_X5_sumBy at hF
  obtain ⟨-, hF⟩ := gz_gd_some hF
  show gz_go C 0 0 M [(0, .ref a0), (1, .int a1), (2, .int a2), (3, .int a3)] 0 []
  refine gz_aload_n 0 hC 0 dX5_sumBy_0 rfl rfl ?_
  refine gz_getR 1 hC fl_X5_30 fk_5_5 dX5_sumBy_1 hF (fun x1 hF => ?_)
  refine gz_iload_n 4 hC 1 dX5_sumBy_4 rfl rfl ?_
  refine gz_iconst 5 hC (1 : Int32) dX5_sumBy_5 gz_k1 ?_
  refine gz_isub 6 hC dX5_sumBy_6 ?_
  refine gz_aald 7 hC dX5_sumBy_7 hF (fun x2 hF => ?_)
  refine gz_iload_n 8 hC 3 dX5_sumBy_8 rfl rfl ?_
  refine gz_iconst 9 hC (1 : Int32) dX5_sumBy_9 gz_k1 ?_
  refine gz_iadd 10 hC dX5_sumBy_10 ?_
  refine gz_iald 11 hC dX5_sumBy_11 hF (fun x3 hF => ?_)
  refine gz_istore 12 hC [(4, .int x3), (0, .ref a0), (1, .int a1), (2, .int a2), (3, .int a3)] dX5_sumBy_12 (by decide) rfl ?_
  refine gz_iload 14 hC 0 dX5_sumBy_14 rfl ?_
  refine gz_ldc 16 hC dX5_sumBy_16 q_930 ?_
  refine gz_icmp_ne 18 24 hC dX5_sumBy_18 (by decide) hF (fun hF => ?_) (fun hF => ?_)
  · skip
    refine gz_iconst 24 hC (0 : Int32) dX5_sumBy_24 gz_k0 ?_
    refine gz_istore 25 hC [(5, .int (0 : Int32)), (4, .int x3), (0, .ref a0), (1, .int a1), (2, .int a2), (3, .int a3)] dX5_sumBy_25 (by decide) rfl ?_
    refine gz_iload_n 27 hC 4 dX5_sumBy_27 rfl rfl ?_
    refine gz_istore 28 hC [(6, .int a2), (5, .int (0 : Int32)), (4, .int x3), (0, .ref a0), (1, .int a1), (2, .int a2), (3, .int a3)] dX5_sumBy_28 (by decide) rfl ?_
    refine gz_sub [3, 6, 2, 1, 0] [(0, .ref a0), (3, .int a3), (4, .int x3), (5, .int (0 : Int32)), (6, .int a2)] rfl ?_
    refine w_X5_sumBy_30 hC hX ?_ _ _ _ hF
    intro x12 hF
    refine gz_iload 69 hC 1 dX5_sumBy_69 rfl ?_
    refine gz_iload 71 hC 0 dX5_sumBy_71 rfl ?_
    refine gz_iadd 73 hC dX5_sumBy_73 ?_
    exact gz_iretP 74 hC hX dX5_sumBy_74 hF
  · skip
    refine gz_ldc 21 hC dX5_sumBy_21 q_930 ?_
    exact gz_iretP 23 hC hX dX5_sumBy_23 hF

theorem dX5_fillLeast_0 : decode cX5_fillLeast 0 = .ok (.iconst 0, 1) := by decide +kernel
theorem dX5_fillLeast_1 : decode cX5_fillLeast 1 = .ok (.istore_n 2, 1) := by decide +kernel
theorem dX5_fillLeast_2 : decode cX5_fillLeast 2 = .ok (.iload_n 2, 1) := by decide +kernel
theorem dX5_fillLeast_3 : decode cX5_fillLeast 3 = .ok (.iload_n 1, 1) := by decide +kernel
theorem dX5_fillLeast_4 : decode cX5_fillLeast 4 = .ok (.if_icmp .gt 105, 3) := by decide +kernel
theorem dX5_fillLeast_7 : decode cX5_fillLeast 7 = .ok (.aload_n 0, 1) := by decide +kernel
theorem dX5_fillLeast_8 : decode cX5_fillLeast 8 = .ok (.getfield 30, 3) := by decide +kernel
theorem dX5_fillLeast_11 : decode cX5_fillLeast 11 = .ok (.iload_n 2, 1) := by decide +kernel
theorem dX5_fillLeast_12 : decode cX5_fillLeast 12 = .ok (.aaload, 1) := by decide +kernel
theorem dX5_fillLeast_13 : decode cX5_fillLeast 13 = .ok (.aload_n 0, 1) := by decide +kernel
theorem dX5_fillLeast_14 : decode cX5_fillLeast 14 = .ok (.getfield 33, 3) := by decide +kernel
theorem dX5_fillLeast_17 : decode cX5_fillLeast 17 = .ok (.iload_n 2, 1) := by decide +kernel
theorem dX5_fillLeast_18 : decode cX5_fillLeast 18 = .ok (.ifCond .ne 7, 3) := by decide +kernel
theorem dX5_fillLeast_21 : decode cX5_fillLeast 21 = .ok (.iconst 0, 1) := by decide +kernel
theorem dX5_fillLeast_22 : decode cX5_fillLeast 22 = .ok (.goto 5, 3) := by decide +kernel
theorem dX5_fillLeast_25 : decode cX5_fillLeast 25 = .ok (.ldc 63, 2) := by decide +kernel
theorem dX5_fillLeast_27 : decode cX5_fillLeast 27 = .ok (.iastore, 1) := by decide +kernel
theorem dX5_fillLeast_28 : decode cX5_fillLeast 28 = .ok (.iconst 0, 1) := by decide +kernel
theorem dX5_fillLeast_29 : decode cX5_fillLeast 29 = .ok (.istore_n 3, 1) := by decide +kernel
theorem dX5_fillLeast_30 : decode cX5_fillLeast 30 = .ok (.iload_n 3, 1) := by decide +kernel
theorem dX5_fillLeast_31 : decode cX5_fillLeast 31 = .ok (.aload_n 0, 1) := by decide +kernel
theorem dX5_fillLeast_32 : decode cX5_fillLeast 32 = .ok (.getfield 33, 3) := by decide +kernel
theorem dX5_fillLeast_35 : decode cX5_fillLeast 35 = .ok (.if_icmp .ge 68, 3) := by decide +kernel
theorem dX5_fillLeast_38 : decode cX5_fillLeast 38 = .ok (.aload_n 0, 1) := by decide +kernel
theorem dX5_fillLeast_39 : decode cX5_fillLeast 39 = .ok (.getfield 30, 3) := by decide +kernel
theorem dX5_fillLeast_42 : decode cX5_fillLeast 42 = .ok (.iload_n 2, 1) := by decide +kernel
theorem dX5_fillLeast_43 : decode cX5_fillLeast 43 = .ok (.aaload, 1) := by decide +kernel
theorem dX5_fillLeast_44 : decode cX5_fillLeast 44 = .ok (.iload_n 3, 1) := by decide +kernel
theorem dX5_fillLeast_45 : decode cX5_fillLeast 45 = .ok (.ldc 63, 2) := by decide +kernel
theorem dX5_fillLeast_47 : decode cX5_fillLeast 47 = .ok (.iastore, 1) := by decide +kernel
theorem dX5_fillLeast_48 : decode cX5_fillLeast 48 = .ok (.iload_n 3, 1) := by decide +kernel
theorem dX5_fillLeast_49 : decode cX5_fillLeast 49 = .ok (.istore 4, 2) := by decide +kernel
theorem dX5_fillLeast_51 : decode cX5_fillLeast 51 = .ok (.iload_n 2, 1) := by decide +kernel
theorem dX5_fillLeast_52 : decode cX5_fillLeast 52 = .ok (.ifCond .le 45, 3) := by decide +kernel
theorem dX5_fillLeast_55 : decode cX5_fillLeast 55 = .ok (.iload 4, 2) := by decide +kernel
theorem dX5_fillLeast_57 : decode cX5_fillLeast 57 = .ok (.aload_n 0, 1) := by decide +kernel
theorem dX5_fillLeast_58 : decode cX5_fillLeast 58 = .ok (.getfield 33, 3) := by decide +kernel
theorem dX5_fillLeast_61 : decode cX5_fillLeast 61 = .ok (.if_icmp .ge 36, 3) := by decide +kernel
theorem dX5_fillLeast_64 : decode cX5_fillLeast 64 = .ok (.aload_n 0, 1) := by decide +kernel
theorem dX5_fillLeast_65 : decode cX5_fillLeast 65 = .ok (.getfield 30, 3) := by decide +kernel
theorem dX5_fillLeast_68 : decode cX5_fillLeast 68 = .ok (.iload_n 2, 1) := by decide +kernel
theorem dX5_fillLeast_69 : decode cX5_fillLeast 69 = .ok (.aaload, 1) := by decide +kernel
theorem dX5_fillLeast_70 : decode cX5_fillLeast 70 = .ok (.iload_n 3, 1) := by decide +kernel
theorem dX5_fillLeast_71 : decode cX5_fillLeast 71 = .ok (.aload_n 0, 1) := by decide +kernel
theorem dX5_fillLeast_72 : decode cX5_fillLeast 72 = .ok (.getfield 30, 3) := by decide +kernel
theorem dX5_fillLeast_75 : decode cX5_fillLeast 75 = .ok (.iload_n 2, 1) := by decide +kernel
theorem dX5_fillLeast_76 : decode cX5_fillLeast 76 = .ok (.aaload, 1) := by decide +kernel
theorem dX5_fillLeast_77 : decode cX5_fillLeast 77 = .ok (.iload_n 3, 1) := by decide +kernel
theorem dX5_fillLeast_78 : decode cX5_fillLeast 78 = .ok (.iaload, 1) := by decide +kernel
theorem dX5_fillLeast_79 : decode cX5_fillLeast 79 = .ok (.aload_n 0, 1) := by decide +kernel
theorem dX5_fillLeast_80 : decode cX5_fillLeast 80 = .ok (.iload_n 2, 1) := by decide +kernel
theorem dX5_fillLeast_81 : decode cX5_fillLeast 81 = .ok (.iload_n 3, 1) := by decide +kernel
theorem dX5_fillLeast_82 : decode cX5_fillLeast 82 = .ok (.iload 4, 2) := by decide +kernel
theorem dX5_fillLeast_84 : decode cX5_fillLeast 84 = .ok (.invokevirtual 64, 3) := by decide +kernel
theorem dX5_fillLeast_87 : decode cX5_fillLeast 87 = .ok (.invokestatic 68, 3) := by decide +kernel
theorem dX5_fillLeast_90 : decode cX5_fillLeast 90 = .ok (.iastore, 1) := by decide +kernel
theorem dX5_fillLeast_91 : decode cX5_fillLeast 91 = .ok (.iinc 4 1, 3) := by decide +kernel
theorem dX5_fillLeast_94 : decode cX5_fillLeast 94 = .ok (.goto (-43), 3) := by decide +kernel
theorem dX5_fillLeast_97 : decode cX5_fillLeast 97 = .ok (.iinc 3 1, 3) := by decide +kernel
theorem dX5_fillLeast_100 : decode cX5_fillLeast 100 = .ok (.goto (-70), 3) := by decide +kernel
theorem dX5_fillLeast_103 : decode cX5_fillLeast 103 = .ok (.iinc 2 1, 3) := by decide +kernel
theorem dX5_fillLeast_106 : decode cX5_fillLeast 106 = .ok (.goto (-104), 3) := by decide +kernel
theorem dX5_fillLeast_109 : decode cX5_fillLeast 109 = .ok (.return_, 1) := by decide +kernel
def lp_X5_fillLeast_51 (j97 : gz_M → Option (gz_M)) (fu : Nat) (a0 : Nat) (x1 : Int32) (x8 : Int32) : Nat → Int32 → gz_M → Option (gz_M)
  | 0, _, _ => none
  | n51 + 1, x14, M15 =>
    if x1 ≤ 0 then
      j97 M15
    else
      (gz_gI M15 5 6 a0).bind fun x16 =>
      if x16 ≤ x14 then
        j97 M15
      else
        (gz_gR M15 5 5 a0).bind fun x17 =>
        (gz_aR M15 x17 x1).bind fun x18 =>
        (gz_gR M15 5 5 a0).bind fun x19 =>
        (gz_aR M15 x19 x1).bind fun x20 =>
        (gz_aI M15 x20 x8).bind fun x21 =>
        (f_X5_sumBy fu M15 a0 x1 x8 x14).bind fun x22 =>
        (gz_tI M15 x18 x8 (if x22 < x21 then x22 else x21)).bind fun M23 =>
        lp_X5_fillLeast_51 j97 fu a0 x1 x8 n51 (x14 + (1 : Int32)) M23
def lp_X5_fillLeast_30 (j103 : gz_M → Option (gz_M)) (fu : Nat) (a0 : Nat) (x1 : Int32) : Nat → Int32 → gz_M → Option (gz_M)
  | 0, _, _ => none
  | n30 + 1, x8, M9 =>
    (gz_gI M9 5 6 a0).bind fun x10 =>
    if x10 ≤ x8 then
      j103 M9
    else
      (gz_gR M9 5 5 a0).bind fun x11 =>
      (gz_aR M9 x11 x1).bind fun x12 =>
      (gz_tI M9 x12 x8 (2147483647 : Int32)).bind fun M13 =>
      lp_X5_fillLeast_51 (fun (M24 : gz_M) => lp_X5_fillLeast_30 j103 fu a0 x1 n30 (x8 + (1 : Int32)) M24) fu a0 x1 x8 fu x8 M13
def lp_X5_fillLeast_2 (j109 : gz_M → Option (gz_M)) (fu : Nat) (a0 : Nat) (a1 : Int32) : Nat → Int32 → gz_M → Option (gz_M)
  | 0, _, _ => none
  | n2 + 1, x1, M2 =>
    if a1 < x1 then
      j109 M2
    else
      (gz_gR M2 5 5 a0).bind fun x3 =>
      (gz_aR M2 x3 x1).bind fun x4 =>
      (gz_gI M2 5 6 a0).bind fun x5 =>
      gz_jn (fun (x6 : Int32) =>
      (gz_tI M2 x4 x5 x6).bind fun M7 =>
        lp_X5_fillLeast_30 (fun (M25 : gz_M) => lp_X5_fillLeast_2 j109 fu a0 a1 n2 (x1 + (1 : Int32)) M25) fu a0 x1 fu (0 : Int32) M7) fun j27 =>
      if x1 = 0 then
        j27 (0 : Int32)
      else
        j27 (2147483647 : Int32)
def f_X5_fillLeast (fu : Nat) (M : gz_M) (a0 : Nat) (a1 : Int32) : Option (gz_M) :=
  gz_gd M 5 a0 <|
  lp_X5_fillLeast_2 (fun (M26 : gz_M) => some M26) fu a0 a1 fu (0 : Int32) M
set_option maxHeartbeats 4000000 in
theorem w_X5_fillLeast_51 {C : gz_C} {y : gz_M} {fu : Nat} {a0 : Nat} {x1 : Int32} {x8 : Int32} {a1 : Int32} {j97 : gz_M → Option (gz_M)} (hC : gz_ok C cX5_fillLeast RX5 5) (hX : gz_cx C 1 26 0 0 none none y "fillLeast") (hj97 : ∀ (M24 : gz_M), j97 M24 = some y → gz_go C 0 0 M24 [(0, .ref a0), (1, .int a1), (2, .int x1), (3, .int x8)] 97 []) : ∀ (n : Nat) (x14 : Int32) (M15 : gz_M), lp_X5_fillLeast_51 j97 fu a0 x1 x8 n x14 M15 = some y → gz_go C 0 0 M15 [(0, .ref a0), (1, .int a1), (2, .int x1), (3, .int x8), (4, .int x14)] 51 [] := by
  intro n
  induction n with
  | zero => intro x14 M15 hF; exact nomatch (show (none : Option (gz_M)) = some y from hF)
  | succ n51 ih51 =>
    intro x14 M15 hF
    rw [lp_X5_fillLeast_51.eq_2] at hF
    refine gz_iload_n 51 hC 2 dX5_fillLeast_51 rfl rfl ?_
    refine gz_if_le 52 97 hC dX5_fillLeast_52 (by decide) hF (fun hF => ?_) (fun hF => ?_)
    · skip
      refine gz_sub [0, 1, 2, 3] [(0, .ref a0), (1, .int a1), (2, .int x1), (3, .int x8)] rfl ?_
      exact hj97 _ hF
    · skip
      refine gz_iload 55 hC 4 dX5_fillLeast_55 rfl ?_
      refine gz_aload_n 57 hC 0 dX5_fillLeast_57 rfl rfl ?_
      refine gz_getI 58 hC fl_X5_33 fk_5_6 dX5_fillLeast_58 hF (fun x16 hF => ?_)
      refine gz_icmp_ge 61 97 hC dX5_fillLeast_61 (by decide) hF (fun hF => ?_) (fun hF => ?_)
      · skip
        refine gz_sub [0, 1, 2, 3] [(0, .ref a0), (1, .int a1), (2, .int x1), (3, .int x8)] rfl ?_
        exact hj97 _ hF
      · skip
        refine gz_aload_n 64 hC 0 dX5_fillLeast_64 rfl rfl ?_
        refine gz_getR 65 hC fl_X5_30 fk_5_5 dX5_fillLeast_65 hF (fun x17 hF => ?_)
        refine gz_iload_n 68 hC 2 dX5_fillLeast_68 rfl rfl ?_
        refine gz_aald 69 hC dX5_fillLeast_69 hF (fun x18 hF => ?_)
        refine gz_iload_n 70 hC 3 dX5_fillLeast_70 rfl rfl ?_
        refine gz_aload_n 71 hC 0 dX5_fillLeast_71 rfl rfl ?_
        refine gz_getR 72 hC fl_X5_30 fk_5_5 dX5_fillLeast_72 hF (fun x19 hF => ?_)
        refine gz_iload_n 75 hC 2 dX5_fillLeast_75 rfl rfl ?_
        refine gz_aald 76 hC dX5_fillLeast_76 hF (fun x20 hF => ?_)
        refine gz_iload_n 77 hC 3 dX5_fillLeast_77 rfl rfl ?_
        refine gz_iald 78 hC dX5_fillLeast_78 hF (fun x21 hF => ?_)
        refine gz_aload_n 79 hC 0 dX5_fillLeast_79 rfl rfl ?_
        refine gz_iload_n 80 hC 2 dX5_fillLeast_80 rfl rfl ?_
        refine gz_iload_n 81 hC 3 dX5_fillLeast_81 rfl rfl ?_
        refine gz_iload 82 hC 4 dX5_fillLeast_82 rfl ?_
        refine gz_cvP (st := [.int x21, .int x8, .ref x18]) 84 hC hX [.int x1, .int x8, .int x14] Value.int yl_X5_sumBy yv_X5_sumBy q_931 ⟨Nat.le_of_ble_eq_true rfl, Nat.le_of_ble_eq_true rfl⟩ ⟨_, rfl⟩ (fun r h => ct_X5_sumBy _ _ fu M15 a0 x1 x8 x14 r h) rfl rfl (Nat.le_of_ble_eq_true rfl) dX5_fillLeast_84 gz_00 hF (fun x22 hF => ?_)
        refine gz_mmin 87 hC hX q_935 ⟨Nat.le_of_ble_eq_true rfl, Nat.le_of_ble_eq_true rfl⟩ gz_00 dX5_fillLeast_87 ?_
        refine gz_iast 90 hC dX5_fillLeast_90 hF (fun M23 hF => ?_)
        refine gz_iinc 91 hC (x14 + (1 : Int32)) 4 [(4, .int (x14 + (1 : Int32))), (0, .ref a0), (1, .int a1), (2, .int x1), (3, .int x8)] dX5_fillLeast_91 rfl rfl (by decide) rfl ?_
        refine gz_goto 94 51 hC dX5_fillLeast_94 (by decide) ?_
        refine gz_sub [1, 2, 3, 4, 0] [(0, .ref a0), (1, .int a1), (2, .int x1), (3, .int x8), (4, .int (x14 + (1 : Int32)))] rfl ?_
        exact ih51 _ _ hF
set_option maxHeartbeats 4000000 in
theorem w_X5_fillLeast_30 {C : gz_C} {y : gz_M} {fu : Nat} {a0 : Nat} {x1 : Int32} {a1 : Int32} {j103 : gz_M → Option (gz_M)} (hC : gz_ok C cX5_fillLeast RX5 5) (hX : gz_cx C 1 26 0 0 none none y "fillLeast") (hj103 : ∀ (M25 : gz_M), j103 M25 = some y → gz_go C 0 0 M25 [(0, .ref a0), (1, .int a1), (2, .int x1)] 103 []) : ∀ (n : Nat) (x8 : Int32) (M9 : gz_M), lp_X5_fillLeast_30 j103 fu a0 x1 n x8 M9 = some y → gz_go C 0 0 M9 [(0, .ref a0), (1, .int a1), (2, .int x1), (3, .int x8)] 30 [] := by
  intro n
  induction n with
  | zero => intro x8 M9 hF; exact nomatch (show (none : Option (gz_M)) = some y from hF)
  | succ n30 ih30 =>
    intro x8 M9 hF
    rw [lp_X5_fillLeast_30.eq_2] at hF
    refine gz_iload_n 30 hC 3 dX5_fillLeast_30 rfl rfl ?_
    refine gz_aload_n 31 hC 0 dX5_fillLeast_31 rfl rfl ?_
    refine gz_getI 32 hC fl_X5_33 fk_5_6 dX5_fillLeast_32 hF (fun x10 hF => ?_)
    refine gz_icmp_ge 35 103 hC dX5_fillLeast_35 (by decide) hF (fun hF => ?_) (fun hF => ?_)
    · skip
      refine gz_sub [0, 1, 2] [(0, .ref a0), (1, .int a1), (2, .int x1)] rfl ?_
      exact hj103 _ hF
    · skip
      refine gz_aload_n 38 hC 0 dX5_fillLeast_38 rfl rfl ?_
      refine gz_getR 39 hC fl_X5_30 fk_5_5 dX5_fillLeast_39 hF (fun x11 hF => ?_)
      refine gz_iload_n 42 hC 2 dX5_fillLeast_42 rfl rfl ?_
      refine gz_aald 43 hC dX5_fillLeast_43 hF (fun x12 hF => ?_)
      refine gz_iload_n 44 hC 3 dX5_fillLeast_44 rfl rfl ?_
      refine gz_ldc 45 hC dX5_fillLeast_45 q_930 ?_
      refine gz_iast 47 hC dX5_fillLeast_47 hF (fun M13 hF => ?_)
      refine gz_iload_n 48 hC 3 dX5_fillLeast_48 rfl rfl ?_
      refine gz_istore 49 hC [(4, .int x8), (0, .ref a0), (1, .int a1), (2, .int x1), (3, .int x8)] dX5_fillLeast_49 (by decide) rfl ?_
      refine gz_sub [1, 2, 3, 4, 0] [(0, .ref a0), (1, .int a1), (2, .int x1), (3, .int x8), (4, .int x8)] rfl ?_
      refine w_X5_fillLeast_51 hC hX ?_ _ _ _ hF
      intro M24 hF
      refine gz_iinc 97 hC (x8 + (1 : Int32)) 3 [(3, .int (x8 + (1 : Int32))), (0, .ref a0), (1, .int a1), (2, .int x1)] dX5_fillLeast_97 rfl rfl (by decide) rfl ?_
      refine gz_goto 100 30 hC dX5_fillLeast_100 (by decide) ?_
      refine gz_sub [1, 2, 3, 0] [(0, .ref a0), (1, .int a1), (2, .int x1), (3, .int (x8 + (1 : Int32)))] rfl ?_
      exact ih30 _ _ hF
set_option maxHeartbeats 4000000 in
theorem w_X5_fillLeast_2 {C : gz_C} {y : gz_M} {fu : Nat} {a0 : Nat} {a1 : Int32} {j109 : gz_M → Option (gz_M)} (hC : gz_ok C cX5_fillLeast RX5 5) (hX : gz_cx C 1 26 0 0 none none y "fillLeast") (hj109 : ∀ (M26 : gz_M), j109 M26 = some y → gz_go C 0 0 M26 [] 109 []) : ∀ (n : Nat) (x1 : Int32) (M2 : gz_M), lp_X5_fillLeast_2 j109 fu a0 a1 n x1 M2 = some y → gz_go C 0 0 M2 [(0, .ref a0), (1, .int a1), (2, .int x1)] 2 [] := by
  intro n
  induction n with
  | zero => intro x1 M2 hF; exact nomatch (show (none : Option (gz_M)) = some y from hF)
  | succ n2 ih2 =>
    intro x1 M2 hF
    rw [lp_X5_fillLeast_2.eq_2] at hF
    refine gz_iload_n 2 hC 2 dX5_fillLeast_2 rfl rfl ?_
    refine gz_iload_n 3 hC 1 dX5_fillLeast_3 rfl rfl ?_
    refine gz_icmp_gt 4 109 hC dX5_fillLeast_4 (by decide) hF (fun hF => ?_) (fun hF => ?_)
    · skip
      refine gz_sub [] [] rfl ?_
      exact hj109 _ hF
    · skip
      refine gz_aload_n 7 hC 0 dX5_fillLeast_7 rfl rfl ?_
      refine gz_getR 8 hC fl_X5_30 fk_5_5 dX5_fillLeast_8 hF (fun x3 hF => ?_)
      refine gz_iload_n 11 hC 2 dX5_fillLeast_11 rfl rfl ?_
      refine gz_aald 12 hC dX5_fillLeast_12 hF (fun x4 hF => ?_)
      refine gz_aload_n 13 hC 0 dX5_fillLeast_13 rfl rfl ?_
      refine gz_getI 14 hC fl_X5_33 fk_5_6 dX5_fillLeast_14 hF (fun x5 hF => ?_)
      refine gz_iload_n 17 hC 2 dX5_fillLeast_17 rfl rfl ?_
      refine gz_join (fun (j : Int32 → Option (gz_M)) => ∀ (x6 : Int32), j x6 = some y → gz_go C 0 0 M2 [(0, .ref a0), (1, .int a1), (2, .int x1)] 27 [.int x6, .int x5, .ref x4]) hF (fun x6 hF => ?_) (fun j27 hj27 hF => ?_)
      · skip
        refine gz_iast 27 hC dX5_fillLeast_27 hF (fun M7 hF => ?_)
        refine gz_iconst 28 hC (0 : Int32) dX5_fillLeast_28 gz_k0 ?_
        refine gz_istore_n 29 hC [(3, .int (0 : Int32)), (0, .ref a0), (1, .int a1), (2, .int x1)] dX5_fillLeast_29 rfl (by decide) rfl ?_
        refine gz_sub [1, 2, 3, 0] [(0, .ref a0), (1, .int a1), (2, .int x1), (3, .int (0 : Int32))] rfl ?_
        refine w_X5_fillLeast_30 hC hX ?_ _ _ _ hF
        intro M25 hF
        refine gz_iinc 103 hC (x1 + (1 : Int32)) 2 [(2, .int (x1 + (1 : Int32))), (0, .ref a0), (1, .int a1)] dX5_fillLeast_103 rfl rfl (by decide) rfl ?_
        refine gz_goto 106 2 hC dX5_fillLeast_106 (by decide) ?_
        refine gz_sub [1, 2, 0] [(0, .ref a0), (1, .int a1), (2, .int (x1 + (1 : Int32)))] rfl ?_
        exact ih2 _ _ hF
      refine gz_if_ne 18 25 hC dX5_fillLeast_18 (by decide) hF (fun hF => ?_) (fun hF => ?_)
      · skip
        refine gz_ldc 25 hC dX5_fillLeast_25 q_930 ?_
        exact hj27 _ hF
      · skip
        refine gz_iconst 21 hC (0 : Int32) dX5_fillLeast_21 gz_k0 ?_
        refine gz_goto 22 27 hC dX5_fillLeast_22 (by decide) ?_
        exact hj27 _ hF
set_option maxHeartbeats 4000000 in
theorem ct_X5_fillLeast (l : Launch) (G : gz_G) (fu : Nat) (M : gz_M) (a0 : Nat) (a1 : Int32) (y : gz_M) (hF : f_X5_fillLeast fu M a0 a1 = some y) : gz_ct l yX5_fillLeast cX5_fillLeast 5 none 1 26 0 0 G [.ref a0, .int a1] M none y := by
  refine gz_ct.of (by decide) (Nat.le_of_ble_eq_true rfl) (fun C hC hX => ?_)
  unfold f_X5_fillLeast at hF
  obtain ⟨-, hF⟩ := gz_gd_some hF
  show gz_go C 0 0 M [(0, .ref a0), (1, .int a1)] 0 []
  refine gz_iconst 0 hC (0 : Int32) dX5_fillLeast_0 gz_k0 ?_
  refine gz_istore_n 1 hC [(2, .int (0 : Int32)), (0, .ref a0), (1, .int a1)] dX5_fillLeast_1 rfl (by decide) rfl ?_
  refine gz_sub [1, 2, 0] [(0, .ref a0), (1, .int a1), (2, .int (0 : Int32))] rfl ?_
  refine w_X5_fillLeast_2 hC hX ?_ _ _ _ hF
  intro M26 hF
  exact gz_vretM 109 hC hX dX5_fillLeast_109 hF

theorem dX5_choose_0 : decode cX5_choose 0 = .ok (.iconst 0, 1) := by decide +kernel
theorem dX5_choose_1 : decode cX5_choose 1 = .ok (.istore_n 1, 1) := by decide +kernel
theorem dX5_choose_2 : decode cX5_choose 2 = .ok (.aload_n 0, 1) := by decide +kernel
theorem dX5_choose_3 : decode cX5_choose 3 = .ok (.getfield 15, 3) := by decide +kernel
theorem dX5_choose_6 : decode cX5_choose 6 = .ok (.istore_n 2, 1) := by decide +kernel
theorem dX5_choose_7 : decode cX5_choose 7 = .ok (.iload_n 2, 1) := by decide +kernel
theorem dX5_choose_8 : decode cX5_choose 8 = .ok (.ifCond .le 66, 3) := by decide +kernel
theorem dX5_choose_11 : decode cX5_choose 11 = .ok (.iload_n 1, 1) := by decide +kernel
theorem dX5_choose_12 : decode cX5_choose 12 = .ok (.istore_n 3, 1) := by decide +kernel
theorem dX5_choose_13 : decode cX5_choose 13 = .ok (.iload_n 3, 1) := by decide +kernel
theorem dX5_choose_14 : decode cX5_choose 14 = .ok (.aload_n 0, 1) := by decide +kernel
theorem dX5_choose_15 : decode cX5_choose 15 = .ok (.getfield 33, 3) := by decide +kernel
theorem dX5_choose_18 : decode cX5_choose 18 = .ok (.iconst 1, 1) := by decide +kernel
theorem dX5_choose_19 : decode cX5_choose 19 = .ok (.isub, 1) := by decide +kernel
theorem dX5_choose_20 : decode cX5_choose 20 = .ok (.if_icmp .ge 27, 3) := by decide +kernel
theorem dX5_choose_23 : decode cX5_choose 23 = .ok (.aload_n 0, 1) := by decide +kernel
theorem dX5_choose_24 : decode cX5_choose 24 = .ok (.iload_n 2, 1) := by decide +kernel
theorem dX5_choose_25 : decode cX5_choose 25 = .ok (.iload_n 1, 1) := by decide +kernel
theorem dX5_choose_26 : decode cX5_choose 26 = .ok (.iload_n 3, 1) := by decide +kernel
theorem dX5_choose_27 : decode cX5_choose 27 = .ok (.invokevirtual 64, 3) := by decide +kernel
theorem dX5_choose_30 : decode cX5_choose 30 = .ok (.aload_n 0, 1) := by decide +kernel
theorem dX5_choose_31 : decode cX5_choose 31 = .ok (.getfield 30, 3) := by decide +kernel
theorem dX5_choose_34 : decode cX5_choose 34 = .ok (.iload_n 2, 1) := by decide +kernel
theorem dX5_choose_35 : decode cX5_choose 35 = .ok (.aaload, 1) := by decide +kernel
theorem dX5_choose_36 : decode cX5_choose 36 = .ok (.iload_n 1, 1) := by decide +kernel
theorem dX5_choose_37 : decode cX5_choose 37 = .ok (.iaload, 1) := by decide +kernel
theorem dX5_choose_38 : decode cX5_choose 38 = .ok (.if_icmp .eq 9, 3) := by decide +kernel
theorem dX5_choose_41 : decode cX5_choose 41 = .ok (.iinc 3 1, 3) := by decide +kernel
theorem dX5_choose_44 : decode cX5_choose 44 = .ok (.goto (-31), 3) := by decide +kernel
theorem dX5_choose_47 : decode cX5_choose 47 = .ok (.aload_n 0, 1) := by decide +kernel
theorem dX5_choose_48 : decode cX5_choose 48 = .ok (.getfield 9, 3) := by decide +kernel
theorem dX5_choose_51 : decode cX5_choose 51 = .ok (.aload_n 0, 1) := by decide +kernel
theorem dX5_choose_52 : decode cX5_choose 52 = .ok (.getfield 15, 3) := by decide +kernel
theorem dX5_choose_55 : decode cX5_choose 55 = .ok (.iload_n 2, 1) := by decide +kernel
theorem dX5_choose_56 : decode cX5_choose 56 = .ok (.isub, 1) := by decide +kernel
theorem dX5_choose_57 : decode cX5_choose 57 = .ok (.aload_n 0, 1) := by decide +kernel
theorem dX5_choose_58 : decode cX5_choose 58 = .ok (.getfield 22, 3) := by decide +kernel
theorem dX5_choose_61 : decode cX5_choose 61 = .ok (.iload_n 3, 1) := by decide +kernel
theorem dX5_choose_62 : decode cX5_choose 62 = .ok (.iaload, 1) := by decide +kernel
theorem dX5_choose_63 : decode cX5_choose 63 = .ok (.iastore, 1) := by decide +kernel
theorem dX5_choose_64 : decode cX5_choose 64 = .ok (.iload_n 3, 1) := by decide +kernel
theorem dX5_choose_65 : decode cX5_choose 65 = .ok (.iconst 1, 1) := by decide +kernel
theorem dX5_choose_66 : decode cX5_choose 66 = .ok (.iadd, 1) := by decide +kernel
theorem dX5_choose_67 : decode cX5_choose 67 = .ok (.istore_n 1, 1) := by decide +kernel
theorem dX5_choose_68 : decode cX5_choose 68 = .ok (.iinc 2 (-1), 3) := by decide +kernel
theorem dX5_choose_71 : decode cX5_choose 71 = .ok (.goto (-64), 3) := by decide +kernel
theorem dX5_choose_74 : decode cX5_choose 74 = .ok (.return_, 1) := by decide +kernel
def lp_X5_choose_13 (j47 : Int32 → Option (gz_M)) (fu : Nat) (M4 : gz_M) (a0 : Nat) (x2 : Int32) (x3 : Int32) : Nat → Int32 → Option (gz_M)
  | 0, _ => none
  | n13 + 1, x5 =>
    (gz_gI M4 5 6 a0).bind fun x6 =>
    if (x6 - (1 : Int32)) ≤ x5 then
      j47 x5
    else
      (f_X5_sumBy fu M4 a0 x3 x2 x5).bind fun x7 =>
      (gz_gR M4 5 5 a0).bind fun x8 =>
      (gz_aR M4 x8 x3).bind fun x9 =>
      (gz_aI M4 x9 x2).bind fun x10 =>
      if x7 = x10 then
        j47 x5
      else
        lp_X5_choose_13 j47 fu M4 a0 x2 x3 n13 (x5 + (1 : Int32))
def lp_X5_choose_7 (j74 : gz_M → Option (gz_M)) (fu : Nat) (a0 : Nat) : Nat → Int32 → Int32 → gz_M → Option (gz_M)
  | 0, _, _, _ => none
  | n7 + 1, x2, x3, M4 =>
    if x3 ≤ 0 then
      j74 M4
    else
      lp_X5_choose_13 (fun (x11 : Int32) => (gz_gR M4 5 0 a0).bind fun x12 =>
        (gz_gI M4 5 1 a0).bind fun x13 =>
        (gz_gR M4 5 3 a0).bind fun x14 =>
        (gz_aI M4 x14 x11).bind fun x15 =>
        (gz_tI M4 x12 (x13 - x3) x15).bind fun M16 =>
        lp_X5_choose_7 j74 fu a0 n7 (x11 + (1 : Int32)) (x3 + (-1 : Int32)) M16) fu M4 a0 x2 x3 fu x2
def f_X5_choose (fu : Nat) (M : gz_M) (a0 : Nat) : Option (gz_M) :=
  gz_gd M 5 a0 <|
  (gz_gI M 5 1 a0).bind fun x1 =>
  lp_X5_choose_7 (fun (M17 : gz_M) => some M17) fu a0 fu (0 : Int32) x1 M
set_option maxHeartbeats 4000000 in
theorem w_X5_choose_13 {C : gz_C} {y : gz_M} {fu : Nat} {M4 : gz_M} {a0 : Nat} {x2 : Int32} {x3 : Int32} {j47 : Int32 → Option (gz_M)} (hC : gz_ok C cX5_choose RX5 4) (hX : gz_cx C 1 26 0 0 none none y "choose") (hj47 : ∀ (x11 : Int32), j47 x11 = some y → gz_go C 0 0 M4 [(0, .ref a0), (2, .int x3), (3, .int x11)] 47 []) : ∀ (n : Nat) (x5 : Int32), lp_X5_choose_13 j47 fu M4 a0 x2 x3 n x5 = some y → gz_go C 0 0 M4 [(0, .ref a0), (1, .int x2), (2, .int x3), (3, .int x5)] 13 [] := by
  intro n
  induction n with
  | zero => intro x5 hF; exact nomatch (show (none : Option (gz_M)) = some y from hF)
  | succ n13 ih13 =>
    intro x5 hF
    rw [lp_X5_choose_13.eq_2] at hF
    refine gz_iload_n 13 hC 3 dX5_choose_13 rfl rfl ?_
    refine gz_aload_n 14 hC 0 dX5_choose_14 rfl rfl ?_
    refine gz_getI 15 hC fl_X5_33 fk_5_6 dX5_choose_15 hF (fun x6 hF => ?_)
    refine gz_iconst 18 hC (1 : Int32) dX5_choose_18 gz_k1 ?_
    refine gz_isub 19 hC dX5_choose_19 ?_
    refine gz_icmp_ge 20 47 hC dX5_choose_20 (by decide) hF (fun hF => ?_) (fun hF => ?_)
    · skip
      refine gz_sub [0, 2, 3] [(0, .ref a0), (2, .int x3), (3, .int x5)] rfl ?_
      exact hj47 _ hF
    · skip
      refine gz_aload_n 23 hC 0 dX5_choose_23 rfl rfl ?_
      refine gz_iload_n 24 hC 2 dX5_choose_24 rfl rfl ?_
      refine gz_iload_n 25 hC 1 dX5_choose_25 rfl rfl ?_
      refine gz_iload_n 26 hC 3 dX5_choose_26 rfl rfl ?_
      refine gz_cvP (st := []) 27 hC hX [.int x3, .int x2, .int x5] Value.int yl_X5_sumBy yv_X5_sumBy q_931 ⟨Nat.le_of_ble_eq_true rfl, Nat.le_of_ble_eq_true rfl⟩ ⟨_, rfl⟩ (fun r h => ct_X5_sumBy _ _ fu M4 a0 x3 x2 x5 r h) rfl rfl (Nat.le_of_ble_eq_true rfl) dX5_choose_27 gz_00 hF (fun x7 hF => ?_)
      refine gz_aload_n 30 hC 0 dX5_choose_30 rfl rfl ?_
      refine gz_getR 31 hC fl_X5_30 fk_5_5 dX5_choose_31 hF (fun x8 hF => ?_)
      refine gz_iload_n 34 hC 2 dX5_choose_34 rfl rfl ?_
      refine gz_aald 35 hC dX5_choose_35 hF (fun x9 hF => ?_)
      refine gz_iload_n 36 hC 1 dX5_choose_36 rfl rfl ?_
      refine gz_iald 37 hC dX5_choose_37 hF (fun x10 hF => ?_)
      refine gz_icmp_eq 38 47 hC dX5_choose_38 (by decide) hF (fun hF => ?_) (fun hF => ?_)
      · skip
        refine gz_sub [0, 2, 3] [(0, .ref a0), (2, .int x3), (3, .int x5)] rfl ?_
        exact hj47 _ hF
      · skip
        refine gz_iinc 41 hC (x5 + (1 : Int32)) 3 [(3, .int (x5 + (1 : Int32))), (0, .ref a0), (1, .int x2), (2, .int x3)] dX5_choose_41 rfl rfl (by decide) rfl ?_
        refine gz_goto 44 13 hC dX5_choose_44 (by decide) ?_
        refine gz_sub [1, 2, 3, 0] [(0, .ref a0), (1, .int x2), (2, .int x3), (3, .int (x5 + (1 : Int32)))] rfl ?_
        exact ih13 _ hF
set_option maxHeartbeats 4000000 in
theorem w_X5_choose_7 {C : gz_C} {y : gz_M} {fu : Nat} {a0 : Nat} {j74 : gz_M → Option (gz_M)} (hC : gz_ok C cX5_choose RX5 4) (hX : gz_cx C 1 26 0 0 none none y "choose") (hj74 : ∀ (M17 : gz_M), j74 M17 = some y → gz_go C 0 0 M17 [] 74 []) : ∀ (n : Nat) (x2 : Int32) (x3 : Int32) (M4 : gz_M), lp_X5_choose_7 j74 fu a0 n x2 x3 M4 = some y → gz_go C 0 0 M4 [(0, .ref a0), (1, .int x2), (2, .int x3)] 7 [] := by
  intro n
  induction n with
  | zero => intro x2 x3 M4 hF; exact nomatch (show (none : Option (gz_M)) = some y from hF)
  | succ n7 ih7 =>
    intro x2 x3 M4 hF
    rw [lp_X5_choose_7.eq_2] at hF
    refine gz_iload_n 7 hC 2 dX5_choose_7 rfl rfl ?_
    refine gz_if_le 8 74 hC dX5_choose_8 (by decide) hF (fun hF => ?_) (fun hF => ?_)
    · skip
      refine gz_sub [] [] rfl ?_
      exact hj74 _ hF
    · skip
      refine gz_iload_n 11 hC 1 dX5_choose_11 rfl rfl ?_
      refine gz_istore_n 12 hC [(3, .int x2), (0, .ref a0), (1, .int x2), (2, .int x3)] dX5_choose_12 rfl (by decide) rfl ?_
      refine gz_sub [1, 2, 3, 0] [(0, .ref a0), (1, .int x2), (2, .int x3), (3, .int x2)] rfl ?_
      refine w_X5_choose_13 hC hX ?_ _ _ hF
      intro x11 hF
      refine gz_aload_n 47 hC 0 dX5_choose_47 rfl rfl ?_
      refine gz_getR 48 hC fl_X5_9 fk_5_0 dX5_choose_48 hF (fun x12 hF => ?_)
      refine gz_aload_n 51 hC 0 dX5_choose_51 rfl rfl ?_
      refine gz_getI 52 hC fl_X5_15 fk_5_1 dX5_choose_52 hF (fun x13 hF => ?_)
      refine gz_iload_n 55 hC 1 dX5_choose_55 rfl rfl ?_
      refine gz_isub 56 hC dX5_choose_56 ?_
      refine gz_aload_n 57 hC 0 dX5_choose_57 rfl rfl ?_
      refine gz_getR 58 hC fl_X5_22 fk_5_3 dX5_choose_58 hF (fun x14 hF => ?_)
      refine gz_iload_n 61 hC 2 dX5_choose_61 rfl rfl ?_
      refine gz_iald 62 hC dX5_choose_62 hF (fun x15 hF => ?_)
      refine gz_iast 63 hC dX5_choose_63 hF (fun M16 hF => ?_)
      refine gz_iload_n 64 hC 2 dX5_choose_64 rfl rfl ?_
      refine gz_iconst 65 hC (1 : Int32) dX5_choose_65 gz_k1 ?_
      refine gz_iadd 66 hC dX5_choose_66 ?_
      refine gz_istore_n 67 hC [(1, .int (x11 + (1 : Int32))), (0, .ref a0), (2, .int x3), (3, .int x11)] dX5_choose_67 rfl (by decide) rfl ?_
      refine gz_iinc 68 hC (x3 + (-1 : Int32)) 2 [(2, .int (x3 + (-1 : Int32))), (1, .int (x11 + (1 : Int32))), (0, .ref a0), (3, .int x11)] dX5_choose_68 rfl rfl (by decide) rfl ?_
      refine gz_goto 71 7 hC dX5_choose_71 (by decide) ?_
      refine gz_sub [2, 1, 0] [(0, .ref a0), (1, .int (x11 + (1 : Int32))), (2, .int (x3 + (-1 : Int32)))] rfl ?_
      exact ih7 _ _ _ hF
set_option maxHeartbeats 4000000 in
theorem ct_X5_choose (l : Launch) (G : gz_G) (fu : Nat) (M : gz_M) (a0 : Nat) (y : gz_M) (hF : f_X5_choose fu M a0 = some y) : gz_ct l yX5_choose cX5_choose 4 none 1 26 0 0 G [.ref a0] M none y := by
  refine gz_ct.of (by decide) (Nat.le_of_ble_eq_true rfl) (fun C hC hX => ?_)
  unfold f_X5_choose at hF
  obtain ⟨-, hF⟩ := gz_gd_some hF
  show gz_go C 0 0 M [(0, .ref a0)] 0 []
  refine gz_iconst 0 hC (0 : Int32) dX5_choose_0 gz_k0 ?_
  refine gz_istore_n 1 hC [(1, .int (0 : Int32)), (0, .ref a0)] dX5_choose_1 rfl (by decide) rfl ?_
  refine gz_aload_n 2 hC 1 dX5_choose_2 rfl rfl ?_
  refine gz_getI 3 hC fl_X5_15 fk_5_1 dX5_choose_3 hF (fun x1 hF => ?_)
  refine gz_istore_n 6 hC [(2, .int x1), (1, .int (0 : Int32)), (0, .ref a0)] dX5_choose_6 rfl (by decide) rfl ?_
  refine gz_sub [2, 1, 0] [(0, .ref a0), (1, .int (0 : Int32)), (2, .int x1)] rfl ?_
  refine w_X5_choose_7 hC hX ?_ _ _ _ _ hF
  intro M17 hF
  exact gz_vretM 74 hC hX dX5_choose_74 hF

theorem dX5_solve_0 : decode cX5_solve 0 = .ok (.aload_n 0, 1) := by decide +kernel
theorem dX5_solve_1 : decode cX5_solve 1 = .ok (.aload_n 1, 1) := by decide +kernel
theorem dX5_solve_2 : decode cX5_solve 2 = .ok (.iload_n 2, 1) := by decide +kernel
theorem dX5_solve_3 : decode cX5_solve 3 = .ok (.aload_n 0, 1) := by decide +kernel
theorem dX5_solve_4 : decode cX5_solve 4 = .ok (.getfield 22, 3) := by decide +kernel
theorem dX5_solve_7 : decode cX5_solve 7 = .ok (.invokevirtual 36, 3) := by decide +kernel
theorem dX5_solve_10 : decode cX5_solve 10 = .ok (.putfield 33, 3) := by decide +kernel
theorem dX5_solve_13 : decode cX5_solve 13 = .ok (.aload_n 0, 1) := by decide +kernel
theorem dX5_solve_14 : decode cX5_solve 14 = .ok (.aload_n 1, 1) := by decide +kernel
theorem dX5_solve_15 : decode cX5_solve 15 = .ok (.iload_n 2, 1) := by decide +kernel
theorem dX5_solve_16 : decode cX5_solve 16 = .ok (.invokevirtual 42, 3) := by decide +kernel
theorem dX5_solve_19 : decode cX5_solve 19 = .ok (.aload_n 0, 1) := by decide +kernel
theorem dX5_solve_20 : decode cX5_solve 20 = .ok (.iload_n 3, 1) := by decide +kernel
theorem dX5_solve_21 : decode cX5_solve 21 = .ok (.invokevirtual 46, 3) := by decide +kernel
theorem dX5_solve_24 : decode cX5_solve 24 = .ok (.aload_n 0, 1) := by decide +kernel
theorem dX5_solve_25 : decode cX5_solve 25 = .ok (.iconst 1, 1) := by decide +kernel
theorem dX5_solve_26 : decode cX5_solve 26 = .ok (.putfield 15, 3) := by decide +kernel
theorem dX5_solve_29 : decode cX5_solve 29 = .ok (.iconst 2, 1) := by decide +kernel
theorem dX5_solve_30 : decode cX5_solve 30 = .ok (.istore 4, 2) := by decide +kernel
theorem dX5_solve_32 : decode cX5_solve 32 = .ok (.iload 4, 2) := by decide +kernel
theorem dX5_solve_34 : decode cX5_solve 34 = .ok (.iload_n 3, 1) := by decide +kernel
theorem dX5_solve_35 : decode cX5_solve 35 = .ok (.if_icmp .gt 38, 3) := by decide +kernel
theorem dX5_solve_38 : decode cX5_solve 38 = .ok (.aload_n 0, 1) := by decide +kernel
theorem dX5_solve_39 : decode cX5_solve 39 = .ok (.getfield 30, 3) := by decide +kernel
theorem dX5_solve_42 : decode cX5_solve 42 = .ok (.iload 4, 2) := by decide +kernel
theorem dX5_solve_44 : decode cX5_solve 44 = .ok (.aaload, 1) := by decide +kernel
theorem dX5_solve_45 : decode cX5_solve 45 = .ok (.iconst 0, 1) := by decide +kernel
theorem dX5_solve_46 : decode cX5_solve 46 = .ok (.iaload, 1) := by decide +kernel
theorem dX5_solve_47 : decode cX5_solve 47 = .ok (.aload_n 0, 1) := by decide +kernel
theorem dX5_solve_48 : decode cX5_solve 48 = .ok (.getfield 30, 3) := by decide +kernel
theorem dX5_solve_51 : decode cX5_solve 51 = .ok (.aload_n 0, 1) := by decide +kernel
theorem dX5_solve_52 : decode cX5_solve 52 = .ok (.getfield 15, 3) := by decide +kernel
theorem dX5_solve_55 : decode cX5_solve 55 = .ok (.aaload, 1) := by decide +kernel
theorem dX5_solve_56 : decode cX5_solve 56 = .ok (.iconst 0, 1) := by decide +kernel
theorem dX5_solve_57 : decode cX5_solve 57 = .ok (.iaload, 1) := by decide +kernel
theorem dX5_solve_58 : decode cX5_solve 58 = .ok (.if_icmp .ge 9, 3) := by decide +kernel
theorem dX5_solve_61 : decode cX5_solve 61 = .ok (.aload_n 0, 1) := by decide +kernel
theorem dX5_solve_62 : decode cX5_solve 62 = .ok (.iload 4, 2) := by decide +kernel
theorem dX5_solve_64 : decode cX5_solve 64 = .ok (.putfield 15, 3) := by decide +kernel
theorem dX5_solve_67 : decode cX5_solve 67 = .ok (.iinc 4 1, 3) := by decide +kernel
theorem dX5_solve_70 : decode cX5_solve 70 = .ok (.goto (-38), 3) := by decide +kernel
theorem dX5_solve_73 : decode cX5_solve 73 = .ok (.aload_n 0, 1) := by decide +kernel
theorem dX5_solve_74 : decode cX5_solve 74 = .ok (.aload_n 0, 1) := by decide +kernel
theorem dX5_solve_75 : decode cX5_solve 75 = .ok (.getfield 30, 3) := by decide +kernel
theorem dX5_solve_78 : decode cX5_solve 78 = .ok (.aload_n 0, 1) := by decide +kernel
theorem dX5_solve_79 : decode cX5_solve 79 = .ok (.getfield 15, 3) := by decide +kernel
theorem dX5_solve_82 : decode cX5_solve 82 = .ok (.aaload, 1) := by decide +kernel
theorem dX5_solve_83 : decode cX5_solve 83 = .ok (.iconst 0, 1) := by decide +kernel
theorem dX5_solve_84 : decode cX5_solve 84 = .ok (.iaload, 1) := by decide +kernel
theorem dX5_solve_85 : decode cX5_solve 85 = .ok (.putfield 19, 3) := by decide +kernel
theorem dX5_solve_88 : decode cX5_solve 88 = .ok (.aload_n 0, 1) := by decide +kernel
theorem dX5_solve_89 : decode cX5_solve 89 = .ok (.invokevirtual 50, 3) := by decide +kernel
theorem dX5_solve_92 : decode cX5_solve 92 = .ok (.return_, 1) := by decide +kernel
def lp_X5_solve_32 (j73 : gz_M → Option (gz_M)) (a0 : Nat) (a3 : Int32) : Nat → Int32 → gz_M → Option (gz_M)
  | 0, _, _ => none
  | n32 + 1, x8, M9 =>
    if a3 < x8 then
      j73 M9
    else
      (gz_gR M9 5 5 a0).bind fun x10 =>
      (gz_aR M9 x10 x8).bind fun x11 =>
      (gz_aI M9 x11 (0 : Int32)).bind fun x12 =>
      (gz_gR M9 5 5 a0).bind fun x13 =>
      (gz_gI M9 5 1 a0).bind fun x14 =>
      (gz_aR M9 x13 x14).bind fun x15 =>
      (gz_aI M9 x15 (0 : Int32)).bind fun x16 =>
      gz_jn (fun (M18 : gz_M) =>
      lp_X5_solve_32 j73 a0 a3 n32 (x8 + (1 : Int32)) M18) fun j67 =>
      if x16 ≤ x12 then
        j67 M9
      else
        (gz_pI M9 5 1 a0 x8).bind fun M17 =>
        j67 M17
def f_X5_solve (fu : Nat) (M : gz_M) (a0 : Nat) (a1 : Nat) (a2 : Int32) (a3 : Int32) : Option (gz_M) :=
  gz_gd M 5 a0 <|
  (gz_gR M 5 3 a0).bind fun x1 =>
  gz_b2 (f_X7_sizesOf fu M a1 a2 x1) fun x2 M3 =>
  (gz_pI M3 5 6 a0 x2).bind fun M4 =>
  (f_X5_weigh fu M4 a0 a1 a2).bind fun M5 =>
  (f_X5_fillLeast fu M5 a0 a3).bind fun M6 =>
  (gz_pI M6 5 1 a0 (1 : Int32)).bind fun M7 =>
  lp_X5_solve_32 (fun (M19 : gz_M) => (gz_gR M19 5 5 a0).bind fun x20 =>
    (gz_gI M19 5 1 a0).bind fun x21 =>
    (gz_aR M19 x20 x21).bind fun x22 =>
    (gz_aI M19 x22 (0 : Int32)).bind fun x23 =>
    (gz_pI M19 5 2 a0 x23).bind fun M24 =>
    (f_X5_choose fu M24 a0).bind fun M25 =>
    some M25) a0 a3 fu (2 : Int32) M7
set_option maxHeartbeats 4000000 in
theorem w_X5_solve_32 {C : gz_C} {y : gz_M} {a0 : Nat} {a3 : Int32} {j73 : gz_M → Option (gz_M)} (hC : gz_ok C cX5_solve RX5 5) (hX : gz_cx C 3 69 0 0 none none y "solve") (hj73 : ∀ (M19 : gz_M), j73 M19 = some y → gz_go C 0 0 M19 [(0, .ref a0)] 73 []) : ∀ (n : Nat) (x8 : Int32) (M9 : gz_M), lp_X5_solve_32 j73 a0 a3 n x8 M9 = some y → gz_go C 0 0 M9 [(0, .ref a0), (3, .int a3), (4, .int x8)] 32 [] := by
  intro n
  induction n with
  | zero => intro x8 M9 hF; exact nomatch (show (none : Option (gz_M)) = some y from hF)
  | succ n32 ih32 =>
    intro x8 M9 hF
    rw [lp_X5_solve_32.eq_2] at hF
    refine gz_iload 32 hC 2 dX5_solve_32 rfl ?_
    refine gz_iload_n 34 hC 1 dX5_solve_34 rfl rfl ?_
    refine gz_icmp_gt 35 73 hC dX5_solve_35 (by decide) hF (fun hF => ?_) (fun hF => ?_)
    · skip
      refine gz_sub [0] [(0, .ref a0)] rfl ?_
      exact hj73 _ hF
    · skip
      refine gz_aload_n 38 hC 0 dX5_solve_38 rfl rfl ?_
      refine gz_getR 39 hC fl_X5_30 fk_5_5 dX5_solve_39 hF (fun x10 hF => ?_)
      refine gz_iload 42 hC 2 dX5_solve_42 rfl ?_
      refine gz_aald 44 hC dX5_solve_44 hF (fun x11 hF => ?_)
      refine gz_iconst 45 hC (0 : Int32) dX5_solve_45 gz_k0 ?_
      refine gz_iald 46 hC dX5_solve_46 hF (fun x12 hF => ?_)
      refine gz_aload_n 47 hC 0 dX5_solve_47 rfl rfl ?_
      refine gz_getR 48 hC fl_X5_30 fk_5_5 dX5_solve_48 hF (fun x13 hF => ?_)
      refine gz_aload_n 51 hC 0 dX5_solve_51 rfl rfl ?_
      refine gz_getI 52 hC fl_X5_15 fk_5_1 dX5_solve_52 hF (fun x14 hF => ?_)
      refine gz_aald 55 hC dX5_solve_55 hF (fun x15 hF => ?_)
      refine gz_iconst 56 hC (0 : Int32) dX5_solve_56 gz_k0 ?_
      refine gz_iald 57 hC dX5_solve_57 hF (fun x16 hF => ?_)
      refine gz_join (fun (j : gz_M → Option (gz_M)) => ∀ (M18 : gz_M), j M18 = some y → gz_go C 0 0 M18 [(0, .ref a0), (3, .int a3), (4, .int x8)] 67 []) hF (fun M18 hF => ?_) (fun j67 hj67 hF => ?_)
      · skip
        refine gz_iinc 67 hC (x8 + (1 : Int32)) 2 [(4, .int (x8 + (1 : Int32))), (0, .ref a0), (3, .int a3)] dX5_solve_67 rfl rfl (by decide) rfl ?_
        refine gz_goto 70 32 hC dX5_solve_70 (by decide) ?_
        refine gz_sub [1, 2, 0] [(0, .ref a0), (3, .int a3), (4, .int (x8 + (1 : Int32)))] rfl ?_
        exact ih32 _ _ hF
      refine gz_icmp_ge 58 67 hC dX5_solve_58 (by decide) hF (fun hF => ?_) (fun hF => ?_)
      · skip
        exact hj67 _ hF
      · skip
        refine gz_aload_n 61 hC 0 dX5_solve_61 rfl rfl ?_
        refine gz_iload 62 hC 2 dX5_solve_62 rfl ?_
        refine gz_putI 64 hC fl_X5_15 fk_5_1 dX5_solve_64 hF (fun M17 hF => ?_)
        exact hj67 _ hF
set_option maxHeartbeats 4000000 in
theorem ct_X5_solve (l : Launch) (G : gz_G) (fu : Nat) (M : gz_M) (a0 : Nat) (a1 : Nat) (a2 : Int32) (a3 : Int32) (y : gz_M) (hF : f_X5_solve fu M a0 a1 a2 a3 = some y) : gz_ct l yX5_solve cX5_solve 5 none 3 69 0 0 G [.ref a0, .ref a1, .int a2, .int a3] M none y := by
  refine gz_ct.of (by decide) (Nat.le_of_ble_eq_true rfl) (fun C hC hX => ?_)
  unfold f_X5_solve at hF
  obtain ⟨-, hF⟩ := gz_gd_some hF
  show gz_go C 0 0 M [(0, .ref a0), (1, .ref a1), (2, .int a2), (3, .int a3)] 0 []
  refine gz_aload_n 0 hC 0 dX5_solve_0 rfl rfl ?_
  refine gz_aload_n 1 hC 1 dX5_solve_1 rfl rfl ?_
  refine gz_iload_n 2 hC 2 dX5_solve_2 rfl rfl ?_
  refine gz_aload_n 3 hC 0 dX5_solve_3 rfl rfl ?_
  refine gz_getR 4 hC fl_X5_22 fk_5_3 dX5_solve_4 hF (fun x1 hF => ?_)
  refine gz_cvM (st := [.ref a0]) 7 hC hX [.int a2, .ref x1] Value.int yl_X7_sizesOf yv_X7_sizesOf q_913 ⟨Nat.le_of_ble_eq_true rfl, Nat.le_of_ble_eq_true rfl⟩ ⟨_, rfl⟩ (fun r h => ct_X7_sizesOf _ _ fu M a1 a2 x1 r h) rfl rfl (Nat.le_of_ble_eq_true rfl) dX5_solve_7 gz_00 hF (fun x2 M3 hF => ?_)
  refine gz_putI 10 hC fl_X5_33 fk_5_6 dX5_solve_10 hF (fun M4 hF => ?_)
  refine gz_aload_n 13 hC 0 dX5_solve_13 rfl rfl ?_
  refine gz_aload_n 14 hC 1 dX5_solve_14 rfl rfl ?_
  refine gz_iload_n 15 hC 2 dX5_solve_15 rfl rfl ?_
  refine gz_cvV (st := []) 16 hC hX [.ref a1, .int a2] yl_X5_weigh yv_X5_weigh q_921 ⟨Nat.le_of_ble_eq_true rfl, Nat.le_of_ble_eq_true rfl⟩ ⟨_, rfl⟩ (fun r h => ct_X5_weigh _ _ fu M4 a0 a1 a2 r h) rfl rfl (Nat.le_of_ble_eq_true rfl) dX5_solve_16 gz_00 hF (fun M5 hF => ?_)
  refine gz_aload_n 19 hC 0 dX5_solve_19 rfl rfl ?_
  refine gz_iload_n 20 hC 3 dX5_solve_20 rfl rfl ?_
  refine gz_cvV (st := []) 21 hC hX [.int a3] yl_X5_fillLeast yv_X5_fillLeast q_926 ⟨Nat.le_of_ble_eq_true rfl, Nat.le_of_ble_eq_true rfl⟩ ⟨_, rfl⟩ (fun r h => ct_X5_fillLeast _ _ fu M5 a0 a3 r h) rfl rfl (Nat.le_of_ble_eq_true rfl) dX5_solve_21 gz_00 hF (fun M6 hF => ?_)
  refine gz_aload_n 24 hC 0 dX5_solve_24 rfl rfl ?_
  refine gz_iconst 25 hC (1 : Int32) dX5_solve_25 gz_k1 ?_
  refine gz_putI 26 hC fl_X5_15 fk_5_1 dX5_solve_26 hF (fun M7 hF => ?_)
  refine gz_iconst 29 hC (2 : Int32) dX5_solve_29 gz_k2 ?_
  refine gz_istore 30 hC [(4, .int (2 : Int32)), (0, .ref a0), (1, .ref a1), (2, .int a2), (3, .int a3)] dX5_solve_30 (by decide) rfl ?_
  refine gz_sub [1, 4, 0] [(0, .ref a0), (3, .int a3), (4, .int (2 : Int32))] rfl ?_
  refine w_X5_solve_32 hC hX ?_ _ _ _ hF
  intro M19 hF
  refine gz_aload_n 73 hC 0 dX5_solve_73 rfl rfl ?_
  refine gz_aload_n 74 hC 0 dX5_solve_74 rfl rfl ?_
  refine gz_getR 75 hC fl_X5_30 fk_5_5 dX5_solve_75 hF (fun x20 hF => ?_)
  refine gz_aload_n 78 hC 0 dX5_solve_78 rfl rfl ?_
  refine gz_getI 79 hC fl_X5_15 fk_5_1 dX5_solve_79 hF (fun x21 hF => ?_)
  refine gz_aald 82 hC dX5_solve_82 hF (fun x22 hF => ?_)
  refine gz_iconst 83 hC (0 : Int32) dX5_solve_83 gz_k0 ?_
  refine gz_iald 84 hC dX5_solve_84 hF (fun x23 hF => ?_)
  refine gz_putI 85 hC fl_X5_19 fk_5_2 dX5_solve_85 hF (fun M24 hF => ?_)
  refine gz_aload_n 88 hC 0 dX5_solve_88 rfl rfl ?_
  refine gz_cvV (st := []) 89 hC hX [] yl_X5_choose yv_X5_choose q_936 ⟨Nat.le_of_ble_eq_true rfl, Nat.le_of_ble_eq_true rfl⟩ ⟨_, rfl⟩ (fun r h => ct_X5_choose _ _ fu M24 a0 r h) rfl rfl (Nat.le_of_ble_eq_true rfl) dX5_solve_89 gz_00 hF (fun M25 hF => ?_)
  exact gz_vretM 92 hC hX dX5_solve_92 hF

theorem dX6_add_0 : decode cX6_add 0 = .ok (.aload_n 0, 1) := by decide +kernel
theorem dX6_add_1 : decode cX6_add 1 = .ok (.getfield 15, 3) := by decide +kernel
theorem dX6_add_4 : decode cX6_add 4 = .ok (.sipush 250, 3) := by decide +kernel
theorem dX6_add_7 : decode cX6_add 7 = .ok (.if_icmp .ge 23, 3) := by decide +kernel
theorem dX6_add_10 : decode cX6_add 10 = .ok (.aload_n 0, 1) := by decide +kernel
theorem dX6_add_11 : decode cX6_add 11 = .ok (.getfield 9, 3) := by decide +kernel
theorem dX6_add_14 : decode cX6_add 14 = .ok (.aload_n 0, 1) := by decide +kernel
theorem dX6_add_15 : decode cX6_add 15 = .ok (.getfield 15, 3) := by decide +kernel
theorem dX6_add_18 : decode cX6_add 18 = .ok (.iload_n 1, 1) := by decide +kernel
theorem dX6_add_19 : decode cX6_add 19 = .ok (.iastore, 1) := by decide +kernel
theorem dX6_add_20 : decode cX6_add 20 = .ok (.aload_n 0, 1) := by decide +kernel
theorem dX6_add_21 : decode cX6_add 21 = .ok (.dup, 1) := by decide +kernel
theorem dX6_add_22 : decode cX6_add 22 = .ok (.getfield 15, 3) := by decide +kernel
theorem dX6_add_25 : decode cX6_add 25 = .ok (.iconst 1, 1) := by decide +kernel
theorem dX6_add_26 : decode cX6_add 26 = .ok (.iadd, 1) := by decide +kernel
theorem dX6_add_27 : decode cX6_add 27 = .ok (.putfield 15, 3) := by decide +kernel
theorem dX6_add_30 : decode cX6_add 30 = .ok (.return_, 1) := by decide +kernel

def f_X6_add (fu : Nat) (M : gz_M) (a0 : Nat) (a1 : Int32) : Option (gz_M) :=
  gz_gd M 6 a0 <|
  (gz_gI M 6 1 a0).bind fun x1 =>
  gz_jn (fun (M7 : gz_M) =>
  some M7) fun j30 =>
  if (250 : Int32) ≤ x1 then
    j30 M
  else
    (gz_gR M 6 0 a0).bind fun x2 =>
    (gz_gI M 6 1 a0).bind fun x3 =>
    (gz_tI M x2 x3 a1).bind fun M4 =>
    (gz_gI M4 6 1 a0).bind fun x5 =>
    (gz_pI M4 6 1 a0 (x5 + (1 : Int32))).bind fun M6 =>
    j30 M6

set_option maxHeartbeats 4000000 in
theorem ct_X6_add (l : Launch) (G : gz_G) (fu : Nat) (M : gz_M) (a0 : Nat) (a1 : Int32) (y : gz_M) (hF : f_X6_add fu M a0 a1 = some y) : gz_ct l yX6_add cX6_add 2 none 0 0 0 0 G [.ref a0, .int a1] M none y := by
  refine gz_ct.of (by decide) (Nat.le_of_ble_eq_true rfl) (fun C hC hX => ?_)
  unfold f_X6_add at hF
  obtain ⟨-, hF⟩ := gz_gd_some hF
  show gz_go C 0 0 M [(0, .ref a0), (1, .int a1)] 0 []
  refine gz_aload_n 0 hC 0 dX6_add_0 rfl rfl ?_
  refine gz_getI 1 hC fl_X6_15 fk_6_1 dX6_add_1 hF (fun x1 hF => ?_)
  refine gz_sipush 4 hC (250 : Int32) dX6_add_4 gz_s250 ?_
  refine gz_join (fun (j : gz_M → Option (gz_M)) => ∀ (M7 : gz_M), j M7 = some y → gz_go C 0 0 M7 [] 30 []) hF (fun M7 hF => ?_) (fun j30 hj30 hF => ?_)
  · skip
    exact gz_vretM 30 hC hX dX6_add_30 hF
  refine gz_icmp_ge 7 30 hC dX6_add_7 (by decide) hF (fun hF => ?_) (fun hF => ?_)
  · skip
    refine gz_sub [] [] rfl ?_
    exact hj30 _ hF
  · skip
    refine gz_aload_n 10 hC 0 dX6_add_10 rfl rfl ?_
    refine gz_getR 11 hC fl_X6_9 fk_6_0 dX6_add_11 hF (fun x2 hF => ?_)
    refine gz_aload_n 14 hC 0 dX6_add_14 rfl rfl ?_
    refine gz_getI 15 hC fl_X6_15 fk_6_1 dX6_add_15 hF (fun x3 hF => ?_)
    refine gz_iload_n 18 hC 1 dX6_add_18 rfl rfl ?_
    refine gz_iast 19 hC dX6_add_19 hF (fun M4 hF => ?_)
    refine gz_aload_n 20 hC 0 dX6_add_20 rfl rfl ?_
    refine gz_dup 21 hC dX6_add_21 rfl ?_
    refine gz_getI 22 hC fl_X6_15 fk_6_1 dX6_add_22 hF (fun x5 hF => ?_)
    refine gz_iconst 25 hC (1 : Int32) dX6_add_25 gz_k1 ?_
    refine gz_iadd 26 hC dX6_add_26 ?_
    refine gz_putI 27 hC fl_X6_15 fk_6_1 dX6_add_27 hF (fun M6 hF => ?_)
    refine gz_sub [] [] rfl ?_
    exact hj30 _ hF

theorem dX7_allLasts_0 : decode cX7_allLasts 0 = .ok (.iconst 1, 1) := by decide +kernel
theorem dX7_allLasts_1 : decode cX7_allLasts 1 = .ok (.aload_n 0, 1) := by decide +kernel
theorem dX7_allLasts_2 : decode cX7_allLasts 2 = .ok (.getfield 28, 3) := by decide +kernel
theorem dX7_allLasts_5 : decode cX7_allLasts 5 = .ok (.ishl, 1) := by decide +kernel
theorem dX7_allLasts_6 : decode cX7_allLasts 6 = .ok (.iconst 1, 1) := by decide +kernel
theorem dX7_allLasts_7 : decode cX7_allLasts 7 = .ok (.isub, 1) := by decide +kernel
theorem dX7_allLasts_8 : decode cX7_allLasts 8 = .ok (.ireturn, 1) := by decide +kernel

def f_X7_allLasts (fu : Nat) (M : gz_M) (a0 : Nat) : Option (Int32) :=
  gz_gd M 7 a0 <|
  (gz_gI M 7 5 a0).bind fun x1 =>
  some (((1 : Int32) <<< (x1 &&& 31)) - (1 : Int32))

set_option maxHeartbeats 4000000 in
theorem ct_X7_allLasts (l : Launch) (G : gz_G) (fu : Nat) (M : gz_M) (a0 : Nat) (y : Int32) (hF : f_X7_allLasts fu M a0 = some y) : gz_ct l yX7_allLasts cX7_allLasts 1 (some .int) 0 0 0 0 G [.ref a0] M (some (.int y)) M := by
  refine gz_ct.of (by decide) (Nat.le_of_ble_eq_true rfl) (fun C hC hX => ?_)
  unfold f_X7_allLasts at hF
  obtain ⟨-, hF⟩ := gz_gd_some hF
  show gz_go C 0 0 M [(0, .ref a0)] 0 []
  refine gz_iconst 0 hC (1 : Int32) dX7_allLasts_0 gz_k1 ?_
  refine gz_aload_n 1 hC 0 dX7_allLasts_1 rfl rfl ?_
  refine gz_getI 2 hC fl_X7_28 fk_7_5 dX7_allLasts_2 hF (fun x1 hF => ?_)
  refine gz_ishl 5 hC dX7_allLasts_5 ?_
  refine gz_iconst 6 hC (1 : Int32) dX7_allLasts_6 gz_k1 ?_
  refine gz_isub 7 hC dX7_allLasts_7 ?_
  exact gz_iretP 8 hC hX dX7_allLasts_8 hF

theorem dX7_allTimes_0 : decode cX7_allTimes 0 = .ok (.iconst 0, 1) := by decide +kernel
theorem dX7_allTimes_1 : decode cX7_allTimes 1 = .ok (.istore_n 1, 1) := by decide +kernel
theorem dX7_allTimes_2 : decode cX7_allTimes 2 = .ok (.iconst 0, 1) := by decide +kernel
theorem dX7_allTimes_3 : decode cX7_allTimes 3 = .ok (.istore_n 2, 1) := by decide +kernel
theorem dX7_allTimes_4 : decode cX7_allTimes 4 = .ok (.iload_n 2, 1) := by decide +kernel
theorem dX7_allTimes_5 : decode cX7_allTimes 5 = .ok (.aload_n 0, 1) := by decide +kernel
theorem dX7_allTimes_6 : decode cX7_allTimes 6 = .ok (.getfield 24, 3) := by decide +kernel
theorem dX7_allTimes_9 : decode cX7_allTimes 9 = .ok (.if_icmp .ge 18, 3) := by decide +kernel
theorem dX7_allTimes_12 : decode cX7_allTimes 12 = .ok (.iload_n 1, 1) := by decide +kernel
theorem dX7_allTimes_13 : decode cX7_allTimes 13 = .ok (.aload_n 0, 1) := by decide +kernel
theorem dX7_allTimes_14 : decode cX7_allTimes 14 = .ok (.iload_n 2, 1) := by decide +kernel
theorem dX7_allTimes_15 : decode cX7_allTimes 15 = .ok (.iconst 3, 1) := by decide +kernel
theorem dX7_allTimes_16 : decode cX7_allTimes 16 = .ok (.invokevirtual 56, 3) := by decide +kernel
theorem dX7_allTimes_19 : decode cX7_allTimes 19 = .ok (.iadd, 1) := by decide +kernel
theorem dX7_allTimes_20 : decode cX7_allTimes 20 = .ok (.istore_n 1, 1) := by decide +kernel
theorem dX7_allTimes_21 : decode cX7_allTimes 21 = .ok (.iinc 2 1, 3) := by decide +kernel
theorem dX7_allTimes_24 : decode cX7_allTimes 24 = .ok (.goto (-20), 3) := by decide +kernel
theorem dX7_allTimes_27 : decode cX7_allTimes 27 = .ok (.iload_n 1, 1) := by decide +kernel
theorem dX7_allTimes_28 : decode cX7_allTimes 28 = .ok (.ireturn, 1) := by decide +kernel
def lp_X7_allTimes_4 (j27 : Int32 → Option (Int32)) (fu : Nat) (M : gz_M) (a0 : Nat) : Nat → Int32 → Int32 → Option (Int32)
  | 0, _, _ => none
  | n4 + 1, x1, x2 =>
    (gz_gI M 7 4 a0).bind fun x3 =>
    if x3 ≤ x2 then
      j27 x1
    else
      (f_X7_footPart fu M a0 x2 (3 : Int32)).bind fun x4 =>
      lp_X7_allTimes_4 j27 fu M a0 n4 (x1 + x4) (x2 + (1 : Int32))
def f_X7_allTimes (fu : Nat) (M : gz_M) (a0 : Nat) : Option (Int32) :=
  gz_gd M 7 a0 <|
  lp_X7_allTimes_4 (fun (x5 : Int32) => some x5) fu M a0 fu (0 : Int32) (0 : Int32)
set_option maxHeartbeats 4000000 in
theorem w_X7_allTimes_4 {C : gz_C} {y : Int32} {fu : Nat} {M : gz_M} {a0 : Nat} {j27 : Int32 → Option (Int32)} (hC : gz_ok C cX7_allTimes RX7 3) (hX : gz_cx C 1 22 0 0 (some .int) (some (.int y)) M "allTimes") (hj27 : ∀ (x5 : Int32), j27 x5 = some y → gz_go C 0 0 M [(1, .int x5)] 27 []) : ∀ (n : Nat) (x1 : Int32) (x2 : Int32), lp_X7_allTimes_4 j27 fu M a0 n x1 x2 = some y → gz_go C 0 0 M [(0, .ref a0), (1, .int x1), (2, .int x2)] 4 [] := by
  intro n
  induction n with
  | zero => intro x1 x2 hF; exact nomatch (show (none : Option (Int32)) = some y from hF)
  | succ n4 ih4 =>
    intro x1 x2 hF
    rw [lp_X7_allTimes_4.eq_2] at hF
    refine gz_iload_n 4 hC 2 dX7_allTimes_4 rfl rfl ?_
    refine gz_aload_n 5 hC 0 dX7_allTimes_5 rfl rfl ?_
    refine gz_getI 6 hC fl_X7_24 fk_7_4 dX7_allTimes_6 hF (fun x3 hF => ?_)
    refine gz_icmp_ge 9 27 hC dX7_allTimes_9 (by decide) hF (fun hF => ?_) (fun hF => ?_)
    · skip
      refine gz_sub [1] [(1, .int x1)] rfl ?_
      exact hj27 _ hF
    · skip
      refine gz_iload_n 12 hC 1 dX7_allTimes_12 rfl rfl ?_
      refine gz_aload_n 13 hC 0 dX7_allTimes_13 rfl rfl ?_
      refine gz_iload_n 14 hC 2 dX7_allTimes_14 rfl rfl ?_
      refine gz_iconst 15 hC (3 : Int32) dX7_allTimes_15 gz_k3 ?_
      refine gz_cvP (st := [.int x1]) 16 hC hX [.int x2, .int (3 : Int32)] Value.int yl_X7_footPart yv_X7_footPart q_537 ⟨Nat.le_of_ble_eq_true rfl, Nat.le_of_ble_eq_true rfl⟩ ⟨_, rfl⟩ (fun r h => ct_X7_footPart _ _ fu M a0 x2 (3 : Int32) r h) rfl rfl (Nat.le_of_ble_eq_true rfl) dX7_allTimes_16 gz_00 hF (fun x4 hF => ?_)
      refine gz_iadd 19 hC dX7_allTimes_19 ?_
      refine gz_istore_n 20 hC [(1, .int (x1 + x4)), (0, .ref a0), (2, .int x2)] dX7_allTimes_20 rfl (by decide) rfl ?_
      refine gz_iinc 21 hC (x2 + (1 : Int32)) 2 [(2, .int (x2 + (1 : Int32))), (1, .int (x1 + x4)), (0, .ref a0)] dX7_allTimes_21 rfl rfl (by decide) rfl ?_
      refine gz_goto 24 4 hC dX7_allTimes_24 (by decide) ?_
      refine gz_sub [2, 1, 0] [(0, .ref a0), (1, .int (x1 + x4)), (2, .int (x2 + (1 : Int32)))] rfl ?_
      exact ih4 _ _ hF
set_option maxHeartbeats 4000000 in
theorem ct_X7_allTimes (l : Launch) (G : gz_G) (fu : Nat) (M : gz_M) (a0 : Nat) (y : Int32) (hF : f_X7_allTimes fu M a0 = some y) : gz_ct l yX7_allTimes cX7_allTimes 3 (some .int) 1 22 0 0 G [.ref a0] M (some (.int y)) M := by
  refine gz_ct.of (by decide) (Nat.le_of_ble_eq_true rfl) (fun C hC hX => ?_)
  unfold f_X7_allTimes at hF
  obtain ⟨-, hF⟩ := gz_gd_some hF
  show gz_go C 0 0 M [(0, .ref a0)] 0 []
  refine gz_iconst 0 hC (0 : Int32) dX7_allTimes_0 gz_k0 ?_
  refine gz_istore_n 1 hC [(1, .int (0 : Int32)), (0, .ref a0)] dX7_allTimes_1 rfl (by decide) rfl ?_
  refine gz_iconst 2 hC (0 : Int32) dX7_allTimes_2 gz_k0 ?_
  refine gz_istore_n 3 hC [(2, .int (0 : Int32)), (1, .int (0 : Int32)), (0, .ref a0)] dX7_allTimes_3 rfl (by decide) rfl ?_
  refine gz_sub [2, 1, 0] [(0, .ref a0), (1, .int (0 : Int32)), (2, .int (0 : Int32))] rfl ?_
  refine w_X7_allTimes_4 hC hX ?_ _ _ _ hF
  intro x5 hF
  refine gz_iload_n 27 hC 0 dX7_allTimes_27 rfl rfl ?_
  exact gz_iretP 28 hC hX dX7_allTimes_28 hF

theorem dX7_prices_0 : decode cX7_prices 0 = .ok (.iconst 0, 1) := by decide +kernel
theorem dX7_prices_1 : decode cX7_prices 1 = .ok (.istore_n 2, 1) := by decide +kernel
theorem dX7_prices_2 : decode cX7_prices 2 = .ok (.iconst 0, 1) := by decide +kernel
theorem dX7_prices_3 : decode cX7_prices 3 = .ok (.istore_n 3, 1) := by decide +kernel
theorem dX7_prices_4 : decode cX7_prices 4 = .ok (.iload_n 3, 1) := by decide +kernel
theorem dX7_prices_5 : decode cX7_prices 5 = .ok (.aload_n 0, 1) := by decide +kernel
theorem dX7_prices_6 : decode cX7_prices 6 = .ok (.getfield 28, 3) := by decide +kernel
theorem dX7_prices_9 : decode cX7_prices 9 = .ok (.if_icmp .ge 26, 3) := by decide +kernel
theorem dX7_prices_12 : decode cX7_prices 12 = .ok (.iload_n 1, 1) := by decide +kernel
theorem dX7_prices_13 : decode cX7_prices 13 = .ok (.iconst 1, 1) := by decide +kernel
theorem dX7_prices_14 : decode cX7_prices 14 = .ok (.iload_n 3, 1) := by decide +kernel
theorem dX7_prices_15 : decode cX7_prices 15 = .ok (.ishl, 1) := by decide +kernel
theorem dX7_prices_16 : decode cX7_prices 16 = .ok (.iand, 1) := by decide +kernel
theorem dX7_prices_17 : decode cX7_prices 17 = .ok (.ifCond .eq 12, 3) := by decide +kernel
theorem dX7_prices_20 : decode cX7_prices 20 = .ok (.iload_n 2, 1) := by decide +kernel
theorem dX7_prices_21 : decode cX7_prices 21 = .ok (.aload_n 0, 1) := by decide +kernel
theorem dX7_prices_22 : decode cX7_prices 22 = .ok (.iload_n 3, 1) := by decide +kernel
theorem dX7_prices_23 : decode cX7_prices 23 = .ok (.iconst 3, 1) := by decide +kernel
theorem dX7_prices_24 : decode cX7_prices 24 = .ok (.invokevirtual 60, 3) := by decide +kernel
theorem dX7_prices_27 : decode cX7_prices 27 = .ok (.iadd, 1) := by decide +kernel
theorem dX7_prices_28 : decode cX7_prices 28 = .ok (.istore_n 2, 1) := by decide +kernel
theorem dX7_prices_29 : decode cX7_prices 29 = .ok (.iinc 3 1, 3) := by decide +kernel
theorem dX7_prices_32 : decode cX7_prices 32 = .ok (.goto (-28), 3) := by decide +kernel
theorem dX7_prices_35 : decode cX7_prices 35 = .ok (.iload_n 2, 1) := by decide +kernel
theorem dX7_prices_36 : decode cX7_prices 36 = .ok (.ireturn, 1) := by decide +kernel
def lp_X7_prices_4 (j35 : Int32 → Option (Int32)) (fu : Nat) (M : gz_M) (a0 : Nat) (a1 : Int32) : Nat → Int32 → Int32 → Option (Int32)
  | 0, _, _ => none
  | n4 + 1, x1, x2 =>
    (gz_gI M 7 5 a0).bind fun x3 =>
    if x3 ≤ x2 then
      j35 x1
    else
      gz_jn (fun (x5 : Int32) =>
      lp_X7_prices_4 j35 fu M a0 a1 n4 x5 (x2 + (1 : Int32))) fun j29 =>
      if (a1 &&& ((1 : Int32) <<< (x2 &&& 31))) = 0 then
        j29 x1
      else
        (f_X7_lastPart fu M a0 x2 (3 : Int32)).bind fun x4 =>
        j29 (x1 + x4)
def f_X7_prices (fu : Nat) (M : gz_M) (a0 : Nat) (a1 : Int32) : Option (Int32) :=
  gz_gd M 7 a0 <|
  lp_X7_prices_4 (fun (x6 : Int32) => some x6) fu M a0 a1 fu (0 : Int32) (0 : Int32)
set_option maxHeartbeats 4000000 in
theorem w_X7_prices_4 {C : gz_C} {y : Int32} {fu : Nat} {M : gz_M} {a0 : Nat} {a1 : Int32} {j35 : Int32 → Option (Int32)} (hC : gz_ok C cX7_prices RX7 4) (hX : gz_cx C 1 22 0 0 (some .int) (some (.int y)) M "prices") (hj35 : ∀ (x6 : Int32), j35 x6 = some y → gz_go C 0 0 M [(2, .int x6)] 35 []) : ∀ (n : Nat) (x1 : Int32) (x2 : Int32), lp_X7_prices_4 j35 fu M a0 a1 n x1 x2 = some y → gz_go C 0 0 M [(0, .ref a0), (1, .int a1), (2, .int x1), (3, .int x2)] 4 [] := by
  intro n
  induction n with
  | zero => intro x1 x2 hF; exact nomatch (show (none : Option (Int32)) = some y from hF)
  | succ n4 ih4 =>
    intro x1 x2 hF
    rw [lp_X7_prices_4.eq_2] at hF
    refine gz_iload_n 4 hC 3 dX7_prices_4 rfl rfl ?_
    refine gz_aload_n 5 hC 0 dX7_prices_5 rfl rfl ?_
    refine gz_getI 6 hC fl_X7_28 fk_7_5 dX7_prices_6 hF (fun x3 hF => ?_)
    refine gz_icmp_ge 9 35 hC dX7_prices_9 (by decide) hF (fun hF => ?_) (fun hF => ?_)
    · skip
      refine gz_sub [2] [(2, .int x1)] rfl ?_
      exact hj35 _ hF
    · skip
      refine gz_iload_n 12 hC 1 dX7_prices_12 rfl rfl ?_
      refine gz_iconst 13 hC (1 : Int32) dX7_prices_13 gz_k1 ?_
      refine gz_iload_n 14 hC 3 dX7_prices_14 rfl rfl ?_
      refine gz_ishl 15 hC dX7_prices_15 ?_
      refine gz_iand 16 hC dX7_prices_16 ?_
      refine gz_join (fun (j : Int32 → Option (Int32)) => ∀ (x5 : Int32), j x5 = some y → gz_go C 0 0 M [(0, .ref a0), (1, .int a1), (2, .int x5), (3, .int x2)] 29 []) hF (fun x5 hF => ?_) (fun j29 hj29 hF => ?_)
      · skip
        refine gz_iinc 29 hC (x2 + (1 : Int32)) 3 [(3, .int (x2 + (1 : Int32))), (0, .ref a0), (1, .int a1), (2, .int x5)] dX7_prices_29 rfl rfl (by decide) rfl ?_
        refine gz_goto 32 4 hC dX7_prices_32 (by decide) ?_
        refine gz_sub [1, 2, 3, 0] [(0, .ref a0), (1, .int a1), (2, .int x5), (3, .int (x2 + (1 : Int32)))] rfl ?_
        exact ih4 _ _ hF
      refine gz_if_eq 17 29 hC dX7_prices_17 (by decide) hF (fun hF => ?_) (fun hF => ?_)
      · skip
        exact hj29 _ hF
      · skip
        refine gz_iload_n 20 hC 2 dX7_prices_20 rfl rfl ?_
        refine gz_aload_n 21 hC 0 dX7_prices_21 rfl rfl ?_
        refine gz_iload_n 22 hC 3 dX7_prices_22 rfl rfl ?_
        refine gz_iconst 23 hC (3 : Int32) dX7_prices_23 gz_k3 ?_
        refine gz_cvP (st := [.int x1]) 24 hC hX [.int x2, .int (3 : Int32)] Value.int yl_X7_lastPart yv_X7_lastPart q_529 ⟨Nat.le_of_ble_eq_true rfl, Nat.le_of_ble_eq_true rfl⟩ ⟨_, rfl⟩ (fun r h => ct_X7_lastPart _ _ fu M a0 x2 (3 : Int32) r h) rfl rfl (Nat.le_of_ble_eq_true rfl) dX7_prices_24 gz_00 hF (fun x4 hF => ?_)
        refine gz_iadd 27 hC dX7_prices_27 ?_
        refine gz_istore_n 28 hC [(2, .int (x1 + x4)), (0, .ref a0), (1, .int a1), (3, .int x2)] dX7_prices_28 rfl (by decide) rfl ?_
        refine gz_sub [1, 2, 0, 3] [(0, .ref a0), (1, .int a1), (2, .int (x1 + x4)), (3, .int x2)] rfl ?_
        exact hj29 _ hF
set_option maxHeartbeats 4000000 in
theorem ct_X7_prices (l : Launch) (G : gz_G) (fu : Nat) (M : gz_M) (a0 : Nat) (a1 : Int32) (y : Int32) (hF : f_X7_prices fu M a0 a1 = some y) : gz_ct l yX7_prices cX7_prices 4 (some .int) 1 22 0 0 G [.ref a0, .int a1] M (some (.int y)) M := by
  refine gz_ct.of (by decide) (Nat.le_of_ble_eq_true rfl) (fun C hC hX => ?_)
  unfold f_X7_prices at hF
  obtain ⟨-, hF⟩ := gz_gd_some hF
  show gz_go C 0 0 M [(0, .ref a0), (1, .int a1)] 0 []
  refine gz_iconst 0 hC (0 : Int32) dX7_prices_0 gz_k0 ?_
  refine gz_istore_n 1 hC [(2, .int (0 : Int32)), (0, .ref a0), (1, .int a1)] dX7_prices_1 rfl (by decide) rfl ?_
  refine gz_iconst 2 hC (0 : Int32) dX7_prices_2 gz_k0 ?_
  refine gz_istore_n 3 hC [(3, .int (0 : Int32)), (2, .int (0 : Int32)), (0, .ref a0), (1, .int a1)] dX7_prices_3 rfl (by decide) rfl ?_
  refine gz_sub [2, 3, 1, 0] [(0, .ref a0), (1, .int a1), (2, .int (0 : Int32)), (3, .int (0 : Int32))] rfl ?_
  refine w_X7_prices_4 hC hX ?_ _ _ _ hF
  intro x6 hF
  refine gz_iload_n 35 hC 0 dX7_prices_35 rfl rfl ?_
  exact gz_iretP 36 hC hX dX7_prices_36 hF

theorem dX7_ownLast_0 : decode cX7_ownLast 0 = .ok (.iconst (-1), 1) := by decide +kernel
theorem dX7_ownLast_1 : decode cX7_ownLast 1 = .ok (.istore_n 3, 1) := by decide +kernel
theorem dX7_ownLast_2 : decode cX7_ownLast 2 = .ok (.ldc 71, 2) := by decide +kernel
theorem dX7_ownLast_4 : decode cX7_ownLast 4 = .ok (.istore 4, 2) := by decide +kernel
theorem dX7_ownLast_6 : decode cX7_ownLast 6 = .ok (.iconst 0, 1) := by decide +kernel
theorem dX7_ownLast_7 : decode cX7_ownLast 7 = .ok (.istore 5, 2) := by decide +kernel
theorem dX7_ownLast_9 : decode cX7_ownLast 9 = .ok (.iload 5, 2) := by decide +kernel
theorem dX7_ownLast_11 : decode cX7_ownLast 11 = .ok (.aload_n 0, 1) := by decide +kernel
theorem dX7_ownLast_12 : decode cX7_ownLast 12 = .ok (.getfield 28, 3) := by decide +kernel
theorem dX7_ownLast_15 : decode cX7_ownLast 15 = .ok (.if_icmp .ge 47, 3) := by decide +kernel
theorem dX7_ownLast_18 : decode cX7_ownLast 18 = .ok (.iload_n 2, 1) := by decide +kernel
theorem dX7_ownLast_19 : decode cX7_ownLast 19 = .ok (.iconst 1, 1) := by decide +kernel
theorem dX7_ownLast_20 : decode cX7_ownLast 20 = .ok (.iload 5, 2) := by decide +kernel
theorem dX7_ownLast_22 : decode cX7_ownLast 22 = .ok (.ishl, 1) := by decide +kernel
theorem dX7_ownLast_23 : decode cX7_ownLast 23 = .ok (.iand, 1) := by decide +kernel
theorem dX7_ownLast_24 : decode cX7_ownLast 24 = .ok (.ifCond .eq 32, 3) := by decide +kernel
theorem dX7_ownLast_27 : decode cX7_ownLast 27 = .ok (.aload_n 0, 1) := by decide +kernel
theorem dX7_ownLast_28 : decode cX7_ownLast 28 = .ok (.iload 5, 2) := by decide +kernel
theorem dX7_ownLast_30 : decode cX7_ownLast 30 = .ok (.iload_n 1, 1) := by decide +kernel
theorem dX7_ownLast_31 : decode cX7_ownLast 31 = .ok (.invokevirtual 72, 3) := by decide +kernel
theorem dX7_ownLast_34 : decode cX7_ownLast 34 = .ok (.istore 6, 2) := by decide +kernel
theorem dX7_ownLast_36 : decode cX7_ownLast 36 = .ok (.iload 6, 2) := by decide +kernel
theorem dX7_ownLast_38 : decode cX7_ownLast 38 = .ok (.iconst (-1), 1) := by decide +kernel
theorem dX7_ownLast_39 : decode cX7_ownLast 39 = .ok (.if_icmp .eq 17, 3) := by decide +kernel
theorem dX7_ownLast_42 : decode cX7_ownLast 42 = .ok (.iload 6, 2) := by decide +kernel
theorem dX7_ownLast_44 : decode cX7_ownLast 44 = .ok (.iload 4, 2) := by decide +kernel
theorem dX7_ownLast_46 : decode cX7_ownLast 46 = .ok (.if_icmp .ge 10, 3) := by decide +kernel
theorem dX7_ownLast_49 : decode cX7_ownLast 49 = .ok (.iload 5, 2) := by decide +kernel
theorem dX7_ownLast_51 : decode cX7_ownLast 51 = .ok (.istore_n 3, 1) := by decide +kernel
theorem dX7_ownLast_52 : decode cX7_ownLast 52 = .ok (.iload 6, 2) := by decide +kernel
theorem dX7_ownLast_54 : decode cX7_ownLast 54 = .ok (.istore 4, 2) := by decide +kernel
theorem dX7_ownLast_56 : decode cX7_ownLast 56 = .ok (.iinc 5 1, 3) := by decide +kernel
theorem dX7_ownLast_59 : decode cX7_ownLast 59 = .ok (.goto (-50), 3) := by decide +kernel
theorem dX7_ownLast_62 : decode cX7_ownLast 62 = .ok (.iload_n 3, 1) := by decide +kernel
theorem dX7_ownLast_63 : decode cX7_ownLast 63 = .ok (.ireturn, 1) := by decide +kernel
def lp_X7_ownLast_9 (j62 : Int32 → Option (Int32)) (fu : Nat) (M : gz_M) (a0 : Nat) (a1 : Int32) (a2 : Int32) : Nat → Int32 → Int32 → Int32 → Option (Int32)
  | 0, _, _, _ => none
  | n9 + 1, x1, x2, x3 =>
    (gz_gI M 7 5 a0).bind fun x4 =>
    if x4 ≤ x3 then
      j62 x1
    else
      gz_jn (fun (x6 : Int32) (x7 : Int32) =>
      lp_X7_ownLast_9 j62 fu M a0 a1 a2 n9 x6 x7 (x3 + (1 : Int32))) fun j56 =>
      if (a2 &&& ((1 : Int32) <<< (x3 &&& 31))) = 0 then
        j56 x1 x2
      else
        (f_X7_badnessOf fu M a0 x3 a1).bind fun x5 =>
        if x5 = (-1 : Int32) then
          j56 x1 x2
        else
          if x2 ≤ x5 then
            j56 x1 x2
          else
            j56 x3 x5
def f_X7_ownLast (fu : Nat) (M : gz_M) (a0 : Nat) (a1 : Int32) (a2 : Int32) : Option (Int32) :=
  gz_gd M 7 a0 <|
  lp_X7_ownLast_9 (fun (x8 : Int32) => some x8) fu M a0 a1 a2 fu (-1 : Int32) (2147483647 : Int32) (0 : Int32)
set_option maxHeartbeats 4000000 in
theorem w_X7_ownLast_9 {C : gz_C} {y : Int32} {fu : Nat} {M : gz_M} {a0 : Nat} {a1 : Int32} {a2 : Int32} {j62 : Int32 → Option (Int32)} (hC : gz_ok C cX7_ownLast RX7 7) (hX : gz_cx C 4 98 0 0 (some .int) (some (.int y)) M "ownLast") (hj62 : ∀ (x8 : Int32), j62 x8 = some y → gz_go C 0 0 M [(3, .int x8)] 62 []) : ∀ (n : Nat) (x1 : Int32) (x2 : Int32) (x3 : Int32), lp_X7_ownLast_9 j62 fu M a0 a1 a2 n x1 x2 x3 = some y → gz_go C 0 0 M [(0, .ref a0), (1, .int a1), (2, .int a2), (3, .int x1), (4, .int x2), (5, .int x3)] 9 [] := by
  intro n
  induction n with
  | zero => intro x1 x2 x3 hF; exact nomatch (show (none : Option (Int32)) = some y from hF)
  | succ n9 ih9 =>
    intro x1 x2 x3 hF
    rw [lp_X7_ownLast_9.eq_2] at hF
    refine gz_iload 9 hC 5 dX7_ownLast_9 rfl ?_
    refine gz_aload_n 11 hC 0 dX7_ownLast_11 rfl rfl ?_
    refine gz_getI 12 hC fl_X7_28 fk_7_5 dX7_ownLast_12 hF (fun x4 hF => ?_)
    refine gz_icmp_ge 15 62 hC dX7_ownLast_15 (by decide) hF (fun hF => ?_) (fun hF => ?_)
    · skip
      refine gz_sub [3] [(3, .int x1)] rfl ?_
      exact hj62 _ hF
    · skip
      refine gz_iload_n 18 hC 2 dX7_ownLast_18 rfl rfl ?_
      refine gz_iconst 19 hC (1 : Int32) dX7_ownLast_19 gz_k1 ?_
      refine gz_iload 20 hC 5 dX7_ownLast_20 rfl ?_
      refine gz_ishl 22 hC dX7_ownLast_22 ?_
      refine gz_iand 23 hC dX7_ownLast_23 ?_
      refine gz_join (fun (j : Int32 → Int32 → Option (Int32)) => ∀ (x6 : Int32) (x7 : Int32), j x6 x7 = some y → gz_go C 0 0 M [(0, .ref a0), (1, .int a1), (2, .int a2), (3, .int x6), (4, .int x7), (5, .int x3)] 56 []) hF (fun x6 x7 hF => ?_) (fun j56 hj56 hF => ?_)
      · skip
        refine gz_iinc 56 hC (x3 + (1 : Int32)) 5 [(5, .int (x3 + (1 : Int32))), (0, .ref a0), (1, .int a1), (2, .int a2), (3, .int x6), (4, .int x7)] dX7_ownLast_56 rfl rfl (by decide) rfl ?_
        refine gz_goto 59 9 hC dX7_ownLast_59 (by decide) ?_
        refine gz_sub [1, 2, 3, 4, 5, 0] [(0, .ref a0), (1, .int a1), (2, .int a2), (3, .int x6), (4, .int x7), (5, .int (x3 + (1 : Int32)))] rfl ?_
        exact ih9 _ _ _ hF
      refine gz_if_eq 24 56 hC dX7_ownLast_24 (by decide) hF (fun hF => ?_) (fun hF => ?_)
      · skip
        exact hj56 _ _ hF
      · skip
        refine gz_aload_n 27 hC 0 dX7_ownLast_27 rfl rfl ?_
        refine gz_iload 28 hC 5 dX7_ownLast_28 rfl ?_
        refine gz_iload_n 30 hC 1 dX7_ownLast_30 rfl rfl ?_
        refine gz_cvP (st := []) 31 hC hX [.int x3, .int a1] Value.int yl_X7_badnessOf yv_X7_badnessOf q_784 ⟨Nat.le_of_ble_eq_true rfl, Nat.le_of_ble_eq_true rfl⟩ ⟨_, rfl⟩ (fun r h => ct_X7_badnessOf _ _ fu M a0 x3 a1 r h) rfl rfl (Nat.le_of_ble_eq_true rfl) dX7_ownLast_31 gz_00 hF (fun x5 hF => ?_)
        refine gz_istore 34 hC [(6, .int x5), (0, .ref a0), (1, .int a1), (2, .int a2), (3, .int x1), (4, .int x2), (5, .int x3)] dX7_ownLast_34 (by decide) rfl ?_
        refine gz_iload 36 hC 0 dX7_ownLast_36 rfl ?_
        refine gz_iconst 38 hC (-1 : Int32) dX7_ownLast_38 gz_km1 ?_
        refine gz_icmp_eq 39 56 hC dX7_ownLast_39 (by decide) hF (fun hF => ?_) (fun hF => ?_)
        · skip
          refine gz_sub [1, 2, 3, 4, 5, 6] [(0, .ref a0), (1, .int a1), (2, .int a2), (3, .int x1), (4, .int x2), (5, .int x3)] rfl ?_
          exact hj56 _ _ hF
        · skip
          refine gz_iload 42 hC 0 dX7_ownLast_42 rfl ?_
          refine gz_iload 44 hC 5 dX7_ownLast_44 rfl ?_
          refine gz_icmp_ge 46 56 hC dX7_ownLast_46 (by decide) hF (fun hF => ?_) (fun hF => ?_)
          · skip
            refine gz_sub [1, 2, 3, 4, 5, 6] [(0, .ref a0), (1, .int a1), (2, .int a2), (3, .int x1), (4, .int x2), (5, .int x3)] rfl ?_
            exact hj56 _ _ hF
          · skip
            refine gz_iload 49 hC 6 dX7_ownLast_49 rfl ?_
            refine gz_istore_n 51 hC [(3, .int x3), (6, .int x5), (0, .ref a0), (1, .int a1), (2, .int a2), (4, .int x2), (5, .int x3)] dX7_ownLast_51 rfl (by decide) rfl ?_
            refine gz_iload 52 hC 1 dX7_ownLast_52 rfl ?_
            refine gz_istore 54 hC [(4, .int x5), (3, .int x3), (6, .int x5), (0, .ref a0), (1, .int a1), (2, .int a2), (5, .int x3)] dX7_ownLast_54 (by decide) rfl ?_
            refine gz_sub [3, 4, 5, 1, 0, 6] [(0, .ref a0), (1, .int a1), (2, .int a2), (3, .int x3), (4, .int x5), (5, .int x3)] rfl ?_
            exact hj56 _ _ hF
set_option maxHeartbeats 4000000 in
theorem ct_X7_ownLast (l : Launch) (G : gz_G) (fu : Nat) (M : gz_M) (a0 : Nat) (a1 : Int32) (a2 : Int32) (y : Int32) (hF : f_X7_ownLast fu M a0 a1 a2 = some y) : gz_ct l yX7_ownLast cX7_ownLast 7 (some .int) 4 98 0 0 G [.ref a0, .int a1, .int a2] M (some (.int y)) M := by
  refine gz_ct.of (by decide) (Nat.le_of_ble_eq_true rfl) (fun C hC hX => ?_)
  unfold f_X7_ownLast at hF
  obtain ⟨-, hF⟩ := gz_gd_some hF
  show gz_go C 0 0 M [(0, .ref a0), (1, .int a1), (2, .int a2)] 0 []
  refine gz_iconst 0 hC (-1 : Int32) dX7_ownLast_0 gz_km1 ?_
  refine gz_istore_n 1 hC [(3, .int (-1 : Int32)), (0, .ref a0), (1, .int a1), (2, .int a2)] dX7_ownLast_1 rfl (by decide) rfl ?_
  refine gz_ldc 2 hC dX7_ownLast_2 q_783 ?_
  refine gz_istore 4 hC [(4, .int (2147483647 : Int32)), (3, .int (-1 : Int32)), (0, .ref a0), (1, .int a1), (2, .int a2)] dX7_ownLast_4 (by decide) rfl ?_
  refine gz_iconst 6 hC (0 : Int32) dX7_ownLast_6 gz_k0 ?_
  refine gz_istore 7 hC [(5, .int (0 : Int32)), (4, .int (2147483647 : Int32)), (3, .int (-1 : Int32)), (0, .ref a0), (1, .int a1), (2, .int a2)] dX7_ownLast_7 (by decide) rfl ?_
  refine gz_sub [3, 4, 5, 2, 1, 0] [(0, .ref a0), (1, .int a1), (2, .int a2), (3, .int (-1 : Int32)), (4, .int (2147483647 : Int32)), (5, .int (0 : Int32))] rfl ?_
  refine w_X7_ownLast_9 hC hX ?_ _ _ _ _ hF
  intro x8 hF
  refine gz_iload_n 62 hC 0 dX7_ownLast_62 rfl rfl ?_
  exact gz_iretP 63 hC hX dX7_ownLast_63 hF

theorem dX7_ownBadness_0 : decode cX7_ownBadness 0 = .ok (.ldc 71, 2) := by decide +kernel
theorem dX7_ownBadness_2 : decode cX7_ownBadness 2 = .ok (.istore 4, 2) := by decide +kernel
theorem dX7_ownBadness_4 : decode cX7_ownBadness 4 = .ok (.iconst 0, 1) := by decide +kernel
theorem dX7_ownBadness_5 : decode cX7_ownBadness 5 = .ok (.istore 5, 2) := by decide +kernel
theorem dX7_ownBadness_7 : decode cX7_ownBadness 7 = .ok (.iload 5, 2) := by decide +kernel
theorem dX7_ownBadness_9 : decode cX7_ownBadness 9 = .ok (.aload_n 2, 1) := by decide +kernel
theorem dX7_ownBadness_10 : decode cX7_ownBadness 10 = .ok (.getfield 28, 3) := by decide +kernel
theorem dX7_ownBadness_13 : decode cX7_ownBadness 13 = .ok (.if_icmp .ge 46, 3) := by decide +kernel
theorem dX7_ownBadness_16 : decode cX7_ownBadness 16 = .ok (.iload_n 3, 1) := by decide +kernel
theorem dX7_ownBadness_17 : decode cX7_ownBadness 17 = .ok (.iconst 1, 1) := by decide +kernel
theorem dX7_ownBadness_18 : decode cX7_ownBadness 18 = .ok (.iload 5, 2) := by decide +kernel
theorem dX7_ownBadness_20 : decode cX7_ownBadness 20 = .ok (.ishl, 1) := by decide +kernel
theorem dX7_ownBadness_21 : decode cX7_ownBadness 21 = .ok (.iand, 1) := by decide +kernel
theorem dX7_ownBadness_22 : decode cX7_ownBadness 22 = .ok (.ifCond .eq 31, 3) := by decide +kernel
theorem dX7_ownBadness_25 : decode cX7_ownBadness 25 = .ok (.aload_n 0, 1) := by decide +kernel
theorem dX7_ownBadness_26 : decode cX7_ownBadness 26 = .ok (.aload_n 2, 1) := by decide +kernel
theorem dX7_ownBadness_27 : decode cX7_ownBadness 27 = .ok (.iload 5, 2) := by decide +kernel
theorem dX7_ownBadness_29 : decode cX7_ownBadness 29 = .ok (.iconst 0, 1) := by decide +kernel
theorem dX7_ownBadness_30 : decode cX7_ownBadness 30 = .ok (.iload_n 1, 1) := by decide +kernel
theorem dX7_ownBadness_31 : decode cX7_ownBadness 31 = .ok (.iconst 0, 1) := by decide +kernel
theorem dX7_ownBadness_32 : decode cX7_ownBadness 32 = .ok (.iconst 0, 1) := by decide +kernel
theorem dX7_ownBadness_33 : decode cX7_ownBadness 33 = .ok (.invokevirtual 67, 3) := by decide +kernel
theorem dX7_ownBadness_36 : decode cX7_ownBadness 36 = .ok (.istore 6, 2) := by decide +kernel
theorem dX7_ownBadness_38 : decode cX7_ownBadness 38 = .ok (.iload 6, 2) := by decide +kernel
theorem dX7_ownBadness_40 : decode cX7_ownBadness 40 = .ok (.iconst (-1), 1) := by decide +kernel
theorem dX7_ownBadness_41 : decode cX7_ownBadness 41 = .ok (.if_icmp .eq 12, 3) := by decide +kernel
theorem dX7_ownBadness_44 : decode cX7_ownBadness 44 = .ok (.iload 4, 2) := by decide +kernel
theorem dX7_ownBadness_46 : decode cX7_ownBadness 46 = .ok (.iload 6, 2) := by decide +kernel
theorem dX7_ownBadness_48 : decode cX7_ownBadness 48 = .ok (.invokestatic 75, 3) := by decide +kernel
theorem dX7_ownBadness_51 : decode cX7_ownBadness 51 = .ok (.istore 4, 2) := by decide +kernel
theorem dX7_ownBadness_53 : decode cX7_ownBadness 53 = .ok (.iinc 5 1, 3) := by decide +kernel
theorem dX7_ownBadness_56 : decode cX7_ownBadness 56 = .ok (.goto (-49), 3) := by decide +kernel
theorem dX7_ownBadness_59 : decode cX7_ownBadness 59 = .ok (.iload 4, 2) := by decide +kernel
theorem dX7_ownBadness_61 : decode cX7_ownBadness 61 = .ok (.ireturn, 1) := by decide +kernel
def lp_X7_ownBadness_7 (j59 : Int32 → Option (Int32)) (fu : Nat) (M : gz_M) (a0 : Nat) (a1 : Int32) (a2 : Nat) (a3 : Int32) : Nat → Int32 → Int32 → Option (Int32)
  | 0, _, _ => none
  | n7 + 1, x1, x2 =>
    (gz_gI M 7 5 a2).bind fun x3 =>
    if x3 ≤ x2 then
      j59 x1
    else
      gz_jn (fun (x5 : Int32) =>
      lp_X7_ownBadness_7 j59 fu M a0 a1 a2 a3 n7 x5 (x2 + (1 : Int32))) fun j53 =>
      if (a3 &&& ((1 : Int32) <<< (x2 &&& 31))) = 0 then
        j53 x1
      else
        (f_X7_badness fu M a0 a2 x2 (0 : Int32) a1 (0 : Int32) (0 : Int32)).bind fun x4 =>
        if x4 = (-1 : Int32) then
          j53 x1
        else
          j53 (if x4 < x1 then x4 else x1)
def f_X7_ownBadness (fu : Nat) (M : gz_M) (a0 : Nat) (a1 : Int32) (a2 : Nat) (a3 : Int32) : Option (Int32) :=
  gz_gd M 7 a0 <|
  lp_X7_ownBadness_7 (fun (x6 : Int32) => some x6) fu M a0 a1 a2 a3 fu (2147483647 : Int32) (0 : Int32)
set_option maxHeartbeats 4000000 in
theorem w_X7_ownBadness_7 {C : gz_C} {y : Int32} {fu : Nat} {M : gz_M} {a0 : Nat} {a1 : Int32} {a2 : Nat} {a3 : Int32} {j59 : Int32 → Option (Int32)} (hC : gz_ok C cX7_ownBadness RX7 7) (hX : gz_cx C 3 76 0 0 (some .int) (some (.int y)) M "ownBadness") (hj59 : ∀ (x6 : Int32), j59 x6 = some y → gz_go C 0 0 M [(4, .int x6)] 59 []) : ∀ (n : Nat) (x1 : Int32) (x2 : Int32), lp_X7_ownBadness_7 j59 fu M a0 a1 a2 a3 n x1 x2 = some y → gz_go C 0 0 M [(0, .ref a0), (1, .int a1), (2, .ref a2), (3, .int a3), (4, .int x1), (5, .int x2)] 7 [] := by
  intro n
  induction n with
  | zero => intro x1 x2 hF; exact nomatch (show (none : Option (Int32)) = some y from hF)
  | succ n7 ih7 =>
    intro x1 x2 hF
    rw [lp_X7_ownBadness_7.eq_2] at hF
    refine gz_iload 7 hC 5 dX7_ownBadness_7 rfl ?_
    refine gz_aload_n 9 hC 2 dX7_ownBadness_9 rfl rfl ?_
    refine gz_getI 10 hC fl_X7_28 fk_7_5 dX7_ownBadness_10 hF (fun x3 hF => ?_)
    refine gz_icmp_ge 13 59 hC dX7_ownBadness_13 (by decide) hF (fun hF => ?_) (fun hF => ?_)
    · skip
      refine gz_sub [4] [(4, .int x1)] rfl ?_
      exact hj59 _ hF
    · skip
      refine gz_iload_n 16 hC 3 dX7_ownBadness_16 rfl rfl ?_
      refine gz_iconst 17 hC (1 : Int32) dX7_ownBadness_17 gz_k1 ?_
      refine gz_iload 18 hC 5 dX7_ownBadness_18 rfl ?_
      refine gz_ishl 20 hC dX7_ownBadness_20 ?_
      refine gz_iand 21 hC dX7_ownBadness_21 ?_
      refine gz_join (fun (j : Int32 → Option (Int32)) => ∀ (x5 : Int32), j x5 = some y → gz_go C 0 0 M [(0, .ref a0), (1, .int a1), (2, .ref a2), (3, .int a3), (4, .int x5), (5, .int x2)] 53 []) hF (fun x5 hF => ?_) (fun j53 hj53 hF => ?_)
      · skip
        refine gz_iinc 53 hC (x2 + (1 : Int32)) 5 [(5, .int (x2 + (1 : Int32))), (0, .ref a0), (1, .int a1), (2, .ref a2), (3, .int a3), (4, .int x5)] dX7_ownBadness_53 rfl rfl (by decide) rfl ?_
        refine gz_goto 56 7 hC dX7_ownBadness_56 (by decide) ?_
        refine gz_sub [1, 2, 3, 4, 5, 0] [(0, .ref a0), (1, .int a1), (2, .ref a2), (3, .int a3), (4, .int x5), (5, .int (x2 + (1 : Int32)))] rfl ?_
        exact ih7 _ _ hF
      refine gz_if_eq 22 53 hC dX7_ownBadness_22 (by decide) hF (fun hF => ?_) (fun hF => ?_)
      · skip
        exact hj53 _ hF
      · skip
        refine gz_aload_n 25 hC 0 dX7_ownBadness_25 rfl rfl ?_
        refine gz_aload_n 26 hC 2 dX7_ownBadness_26 rfl rfl ?_
        refine gz_iload 27 hC 5 dX7_ownBadness_27 rfl ?_
        refine gz_iconst 29 hC (0 : Int32) dX7_ownBadness_29 gz_k0 ?_
        refine gz_iload_n 30 hC 1 dX7_ownBadness_30 rfl rfl ?_
        refine gz_iconst 31 hC (0 : Int32) dX7_ownBadness_31 gz_k0 ?_
        refine gz_iconst 32 hC (0 : Int32) dX7_ownBadness_32 gz_k0 ?_
        refine gz_cvP (st := []) 33 hC hX [.ref a2, .int x2, .int (0 : Int32), .int a1, .int (0 : Int32), .int (0 : Int32)] Value.int yl_X7_badness yv_X7_badness q_551 ⟨Nat.le_of_ble_eq_true rfl, Nat.le_of_ble_eq_true rfl⟩ ⟨_, rfl⟩ (fun r h => ct_X7_badness _ _ fu M a0 a2 x2 (0 : Int32) a1 (0 : Int32) (0 : Int32) r h) rfl rfl (Nat.le_of_ble_eq_true rfl) dX7_ownBadness_33 gz_00 hF (fun x4 hF => ?_)
        refine gz_istore 36 hC [(6, .int x4), (0, .ref a0), (1, .int a1), (2, .ref a2), (3, .int a3), (4, .int x1), (5, .int x2)] dX7_ownBadness_36 (by decide) rfl ?_
        refine gz_iload 38 hC 0 dX7_ownBadness_38 rfl ?_
        refine gz_iconst 40 hC (-1 : Int32) dX7_ownBadness_40 gz_km1 ?_
        refine gz_icmp_eq 41 53 hC dX7_ownBadness_41 (by decide) hF (fun hF => ?_) (fun hF => ?_)
        · skip
          refine gz_sub [1, 2, 3, 4, 5, 6] [(0, .ref a0), (1, .int a1), (2, .ref a2), (3, .int a3), (4, .int x1), (5, .int x2)] rfl ?_
          exact hj53 _ hF
        · skip
          refine gz_iload 44 hC 5 dX7_ownBadness_44 rfl ?_
          refine gz_iload 46 hC 0 dX7_ownBadness_46 rfl ?_
          refine gz_mmin 48 hC hX q_757 ⟨Nat.le_of_ble_eq_true rfl, Nat.le_of_ble_eq_true rfl⟩ gz_00 dX7_ownBadness_48 ?_
          refine gz_istore 51 hC [(4, .int (if x4 < x1 then x4 else x1)), (6, .int x4), (0, .ref a0), (1, .int a1), (2, .ref a2), (3, .int a3), (5, .int x2)] dX7_ownBadness_51 (by decide) rfl ?_
          refine gz_sub [2, 3, 4, 5, 0, 6] [(0, .ref a0), (1, .int a1), (2, .ref a2), (3, .int a3), (4, .int (if x4 < x1 then x4 else x1)), (5, .int x2)] rfl ?_
          exact hj53 _ hF
set_option maxHeartbeats 4000000 in
theorem ct_X7_ownBadness (l : Launch) (G : gz_G) (fu : Nat) (M : gz_M) (a0 : Nat) (a1 : Int32) (a2 : Nat) (a3 : Int32) (y : Int32) (hF : f_X7_ownBadness fu M a0 a1 a2 a3 = some y) : gz_ct l yX7_ownBadness cX7_ownBadness 7 (some .int) 3 76 0 0 G [.ref a0, .int a1, .ref a2, .int a3] M (some (.int y)) M := by
  refine gz_ct.of (by decide) (Nat.le_of_ble_eq_true rfl) (fun C hC hX => ?_)
  unfold f_X7_ownBadness at hF
  obtain ⟨-, hF⟩ := gz_gd_some hF
  show gz_go C 0 0 M [(0, .ref a0), (1, .int a1), (2, .ref a2), (3, .int a3)] 0 []
  refine gz_ldc 0 hC dX7_ownBadness_0 q_783 ?_
  refine gz_istore 2 hC [(4, .int (2147483647 : Int32)), (0, .ref a0), (1, .int a1), (2, .ref a2), (3, .int a3)] dX7_ownBadness_2 (by decide) rfl ?_
  refine gz_iconst 4 hC (0 : Int32) dX7_ownBadness_4 gz_k0 ?_
  refine gz_istore 5 hC [(5, .int (0 : Int32)), (4, .int (2147483647 : Int32)), (0, .ref a0), (1, .int a1), (2, .ref a2), (3, .int a3)] dX7_ownBadness_5 (by decide) rfl ?_
  refine gz_sub [2, 3, 4, 5, 1, 0] [(0, .ref a0), (1, .int a1), (2, .ref a2), (3, .int a3), (4, .int (2147483647 : Int32)), (5, .int (0 : Int32))] rfl ?_
  refine w_X7_ownBadness_7 hC hX ?_ _ _ _ hF
  intro x6 hF
  refine gz_iload 59 hC 0 dX7_ownBadness_59 rfl ?_
  exact gz_iretP 61 hC hX dX7_ownBadness_61 hF

theorem dX7_growthIn_0 : decode cX7_growthIn 0 = .ok (.aload_n 0, 1) := by decide +kernel
theorem dX7_growthIn_1 : decode cX7_growthIn 1 = .ok (.iload_n 1, 1) := by decide +kernel
theorem dX7_growthIn_2 : decode cX7_growthIn 2 = .ok (.iconst 0, 1) := by decide +kernel
theorem dX7_growthIn_3 : decode cX7_growthIn 3 = .ok (.invokevirtual 56, 3) := by decide +kernel
theorem dX7_growthIn_6 : decode cX7_growthIn 6 = .ok (.istore_n 3, 1) := by decide +kernel
theorem dX7_growthIn_7 : decode cX7_growthIn 7 = .ok (.bipush 30, 2) := by decide +kernel
theorem dX7_growthIn_9 : decode cX7_growthIn 9 = .ok (.iload_n 3, 1) := by decide +kernel
theorem dX7_growthIn_10 : decode cX7_growthIn 10 = .ok (.aload_n 0, 1) := by decide +kernel
theorem dX7_growthIn_11 : decode cX7_growthIn 11 = .ok (.getfield 34, 3) := by decide +kernel
theorem dX7_growthIn_14 : decode cX7_growthIn 14 = .ok (.iload_n 2, 1) := by decide +kernel
theorem dX7_growthIn_15 : decode cX7_growthIn 15 = .ok (.imul, 1) := by decide +kernel
theorem dX7_growthIn_16 : decode cX7_growthIn 16 = .ok (.iadd, 1) := by decide +kernel
theorem dX7_growthIn_17 : decode cX7_growthIn 17 = .ok (.invokestatic 75, 3) := by decide +kernel
theorem dX7_growthIn_20 : decode cX7_growthIn 20 = .ok (.iload_n 3, 1) := by decide +kernel
theorem dX7_growthIn_21 : decode cX7_growthIn 21 = .ok (.isub, 1) := by decide +kernel
theorem dX7_growthIn_22 : decode cX7_growthIn 22 = .ok (.ireturn, 1) := by decide +kernel

def f_X7_growthIn (fu : Nat) (M : gz_M) (a0 : Nat) (a1 : Int32) (a2 : Int32) : Option (Int32) :=
  gz_gd M 7 a0 <|
  (f_X7_footPart fu M a0 a1 (0 : Int32)).bind fun x1 =>
  (gz_gI M 7 7 a0).bind fun x2 =>
  some ((if (x1 + (x2 * a2)) < (30 : Int32) then (x1 + (x2 * a2)) else (30 : Int32)) - x1)

set_option maxHeartbeats 4000000 in
theorem ct_X7_growthIn (l : Launch) (G : gz_G) (fu : Nat) (M : gz_M) (a0 : Nat) (a1 : Int32) (a2 : Int32) (y : Int32) (hF : f_X7_growthIn fu M a0 a1 a2 = some y) : gz_ct l yX7_growthIn cX7_growthIn 4 (some .int) 1 22 0 0 G [.ref a0, .int a1, .int a2] M (some (.int y)) M := by
  refine gz_ct.of (by decide) (Nat.le_of_ble_eq_true rfl) (fun C hC hX => ?_)
  unfold f_X7_growthIn at hF
  obtain ⟨-, hF⟩ := gz_gd_some hF
  show gz_go C 0 0 M [(0, .ref a0), (1, .int a1), (2, .int a2)] 0 []
  refine gz_aload_n 0 hC 0 dX7_growthIn_0 rfl rfl ?_
  refine gz_iload_n 1 hC 1 dX7_growthIn_1 rfl rfl ?_
  refine gz_iconst 2 hC (0 : Int32) dX7_growthIn_2 gz_k0 ?_
  refine gz_cvP (st := []) 3 hC hX [.int a1, .int (0 : Int32)] Value.int yl_X7_footPart yv_X7_footPart q_537 ⟨Nat.le_of_ble_eq_true rfl, Nat.le_of_ble_eq_true rfl⟩ ⟨_, rfl⟩ (fun r h => ct_X7_footPart _ _ fu M a0 a1 (0 : Int32) r h) rfl rfl (Nat.le_of_ble_eq_true rfl) dX7_growthIn_3 gz_00 hF (fun x1 hF => ?_)
  refine gz_istore_n 6 hC [(3, .int x1), (0, .ref a0), (1, .int a1), (2, .int a2)] dX7_growthIn_6 rfl (by decide) rfl ?_
  refine gz_bipush 7 hC (30 : Int32) dX7_growthIn_7 gz_b30 ?_
  refine gz_iload_n 9 hC 0 dX7_growthIn_9 rfl rfl ?_
  refine gz_aload_n 10 hC 1 dX7_growthIn_10 rfl rfl ?_
  refine gz_getI 11 hC fl_X7_34 fk_7_7 dX7_growthIn_11 hF (fun x2 hF => ?_)
  refine gz_iload_n 14 hC 3 dX7_growthIn_14 rfl rfl ?_
  refine gz_imul 15 hC dX7_growthIn_15 ?_
  refine gz_iadd 16 hC dX7_growthIn_16 ?_
  refine gz_mmin 17 hC hX q_757 ⟨Nat.le_of_ble_eq_true rfl, Nat.le_of_ble_eq_true rfl⟩ gz_00 dX7_growthIn_17 ?_
  refine gz_iload_n 20 hC 0 dX7_growthIn_20 rfl rfl ?_
  refine gz_isub 21 hC dX7_growthIn_21 ?_
  exact gz_iretP 22 hC hX dX7_growthIn_22 hF

theorem dX7_doesForYears_0 : decode cX7_doesForYears 0 = .ok (.iconst 0, 1) := by decide +kernel
theorem dX7_doesForYears_1 : decode cX7_doesForYears 1 = .ok (.istore 4, 2) := by decide +kernel
theorem dX7_doesForYears_3 : decode cX7_doesForYears 3 = .ok (.iload 4, 2) := by decide +kernel
theorem dX7_doesForYears_5 : decode cX7_doesForYears 5 = .ok (.iload_n 3, 1) := by decide +kernel
theorem dX7_doesForYears_6 : decode cX7_doesForYears 6 = .ok (.if_icmp .gt 31, 3) := by decide +kernel
theorem dX7_doesForYears_9 : decode cX7_doesForYears 9 = .ok (.aload_n 0, 1) := by decide +kernel
theorem dX7_doesForYears_10 : decode cX7_doesForYears 10 = .ok (.aload_n 0, 1) := by decide +kernel
theorem dX7_doesForYears_11 : decode cX7_doesForYears 11 = .ok (.iload_n 1, 1) := by decide +kernel
theorem dX7_doesForYears_12 : decode cX7_doesForYears 12 = .ok (.iconst 0, 1) := by decide +kernel
theorem dX7_doesForYears_13 : decode cX7_doesForYears 13 = .ok (.iload_n 2, 1) := by decide +kernel
theorem dX7_doesForYears_14 : decode cX7_doesForYears 14 = .ok (.aload_n 0, 1) := by decide +kernel
theorem dX7_doesForYears_15 : decode cX7_doesForYears 15 = .ok (.iload_n 2, 1) := by decide +kernel
theorem dX7_doesForYears_16 : decode cX7_doesForYears 16 = .ok (.iload 4, 2) := by decide +kernel
theorem dX7_doesForYears_18 : decode cX7_doesForYears 18 = .ok (.invokevirtual 80, 3) := by decide +kernel
theorem dX7_doesForYears_21 : decode cX7_doesForYears 21 = .ok (.iconst 0, 1) := by decide +kernel
theorem dX7_doesForYears_22 : decode cX7_doesForYears 22 = .ok (.invokevirtual 67, 3) := by decide +kernel
theorem dX7_doesForYears_25 : decode cX7_doesForYears 25 = .ok (.iconst (-1), 1) := by decide +kernel
theorem dX7_doesForYears_26 : decode cX7_doesForYears 26 = .ok (.if_icmp .ne 5, 3) := by decide +kernel
theorem dX7_doesForYears_29 : decode cX7_doesForYears 29 = .ok (.iconst 0, 1) := by decide +kernel
theorem dX7_doesForYears_30 : decode cX7_doesForYears 30 = .ok (.ireturn, 1) := by decide +kernel
theorem dX7_doesForYears_31 : decode cX7_doesForYears 31 = .ok (.iinc 4 1, 3) := by decide +kernel
theorem dX7_doesForYears_34 : decode cX7_doesForYears 34 = .ok (.goto (-31), 3) := by decide +kernel
theorem dX7_doesForYears_37 : decode cX7_doesForYears 37 = .ok (.iconst 1, 1) := by decide +kernel
theorem dX7_doesForYears_38 : decode cX7_doesForYears 38 = .ok (.ireturn, 1) := by decide +kernel
def lp_X7_doesForYears_3 (j37 : Option (Int32)) (fu : Nat) (M : gz_M) (a0 : Nat) (a1 : Int32) (a2 : Int32) (a3 : Int32) : Nat → Int32 → Option (Int32)
  | 0, _ => none
  | n3 + 1, x1 =>
    if a3 < x1 then
      j37
    else
      (f_X7_growthIn fu M a0 a2 x1).bind fun x2 =>
      (f_X7_badness fu M a0 a0 a1 (0 : Int32) a2 x2 (0 : Int32)).bind fun x3 =>
      if x3 = (-1 : Int32) then
        gz_z (0 : Int32) (some (0 : Int32))
      else
        lp_X7_doesForYears_3 j37 fu M a0 a1 a2 a3 n3 (x1 + (1 : Int32))
def f_X7_doesForYears (fu : Nat) (M : gz_M) (a0 : Nat) (a1 : Int32) (a2 : Int32) (a3 : Int32) : Option (Int32) :=
  gz_gd M 7 a0 <|
  lp_X7_doesForYears_3 (gz_z (1 : Int32) (some (1 : Int32))) fu M a0 a1 a2 a3 fu (0 : Int32)
set_option maxHeartbeats 4000000 in
theorem w_X7_doesForYears_3 {C : gz_C} {y : Int32} {fu : Nat} {M : gz_M} {a0 : Nat} {a1 : Int32} {a2 : Int32} {a3 : Int32} {j37 : Option (Int32)} (hC : gz_ok C cX7_doesForYears RX7 5) (hX : gz_cx C 3 76 0 0 (some .boolean) (some (.int y)) M "doesForYears") (hj37 : j37 = some y → gz_go C 0 0 M [] 37 []) : ∀ (n : Nat) (x1 : Int32), lp_X7_doesForYears_3 j37 fu M a0 a1 a2 a3 n x1 = some y → gz_go C 0 0 M [(0, .ref a0), (1, .int a1), (2, .int a2), (3, .int a3), (4, .int x1)] 3 [] := by
  intro n
  induction n with
  | zero => intro x1 hF; exact nomatch (show (none : Option (Int32)) = some y from hF)
  | succ n3 ih3 =>
    intro x1 hF
    rw [lp_X7_doesForYears_3.eq_2] at hF
    refine gz_iload 3 hC 4 dX7_doesForYears_3 rfl ?_
    refine gz_iload_n 5 hC 3 dX7_doesForYears_5 rfl rfl ?_
    refine gz_icmp_gt 6 37 hC dX7_doesForYears_6 (by decide) hF (fun hF => ?_) (fun hF => ?_)
    · skip
      refine gz_sub [] [] rfl ?_
      exact hj37 hF
    · skip
      refine gz_aload_n 9 hC 0 dX7_doesForYears_9 rfl rfl ?_
      refine gz_aload_n 10 hC 0 dX7_doesForYears_10 rfl rfl ?_
      refine gz_iload_n 11 hC 1 dX7_doesForYears_11 rfl rfl ?_
      refine gz_iconst 12 hC (0 : Int32) dX7_doesForYears_12 gz_k0 ?_
      refine gz_iload_n 13 hC 2 dX7_doesForYears_13 rfl rfl ?_
      refine gz_aload_n 14 hC 0 dX7_doesForYears_14 rfl rfl ?_
      refine gz_iload_n 15 hC 2 dX7_doesForYears_15 rfl rfl ?_
      refine gz_iload 16 hC 4 dX7_doesForYears_16 rfl ?_
      refine gz_cvP (st := [.int a2, .int (0 : Int32), .int a1, .ref a0, .ref a0]) 18 hC hX [.int a2, .int x1] Value.int yl_X7_growthIn yv_X7_growthIn q_980 ⟨Nat.le_of_ble_eq_true rfl, Nat.le_of_ble_eq_true rfl⟩ ⟨_, rfl⟩ (fun r h => ct_X7_growthIn _ _ fu M a0 a2 x1 r h) rfl rfl (Nat.le_of_ble_eq_true rfl) dX7_doesForYears_18 gz_00 hF (fun x2 hF => ?_)
      refine gz_iconst 21 hC (0 : Int32) dX7_doesForYears_21 gz_k0 ?_
      refine gz_cvP (st := []) 22 hC hX [.ref a0, .int a1, .int (0 : Int32), .int a2, .int x2, .int (0 : Int32)] Value.int yl_X7_badness yv_X7_badness q_551 ⟨Nat.le_of_ble_eq_true rfl, Nat.le_of_ble_eq_true rfl⟩ ⟨_, rfl⟩ (fun r h => ct_X7_badness _ _ fu M a0 a0 a1 (0 : Int32) a2 x2 (0 : Int32) r h) rfl rfl (Nat.le_of_ble_eq_true rfl) dX7_doesForYears_22 gz_00 hF (fun x3 hF => ?_)
      refine gz_iconst 25 hC (-1 : Int32) dX7_doesForYears_25 gz_km1 ?_
      refine gz_icmp_ne 26 31 hC dX7_doesForYears_26 (by decide) hF (fun hF => ?_) (fun hF => ?_)
      · skip
        refine gz_iinc 31 hC (x1 + (1 : Int32)) 4 [(4, .int (x1 + (1 : Int32))), (0, .ref a0), (1, .int a1), (2, .int a2), (3, .int a3)] dX7_doesForYears_31 rfl rfl (by decide) rfl ?_
        refine gz_goto 34 3 hC dX7_doesForYears_34 (by decide) ?_
        refine gz_sub [1, 2, 3, 4, 0] [(0, .ref a0), (1, .int a1), (2, .int a2), (3, .int a3), (4, .int (x1 + (1 : Int32)))] rfl ?_
        exact ih3 _ hF
      · skip
        refine gz_iconst 29 hC (0 : Int32) dX7_doesForYears_29 gz_k0 ?_
        exact gz_zretP 30 hC hX dX7_doesForYears_30 hF
set_option maxHeartbeats 4000000 in
theorem ct_X7_doesForYears (l : Launch) (G : gz_G) (fu : Nat) (M : gz_M) (a0 : Nat) (a1 : Int32) (a2 : Int32) (a3 : Int32) (y : Int32) (hF : f_X7_doesForYears fu M a0 a1 a2 a3 = some y) : gz_ct l yX7_doesForYears cX7_doesForYears 5 (some .boolean) 3 76 0 0 G [.ref a0, .int a1, .int a2, .int a3] M (some (.int y)) M := by
  refine gz_ct.of (by decide) (Nat.le_of_ble_eq_true rfl) (fun C hC hX => ?_)
  unfold f_X7_doesForYears at hF
  obtain ⟨-, hF⟩ := gz_gd_some hF
  show gz_go C 0 0 M [(0, .ref a0), (1, .int a1), (2, .int a2), (3, .int a3)] 0 []
  refine gz_iconst 0 hC (0 : Int32) dX7_doesForYears_0 gz_k0 ?_
  refine gz_istore 1 hC [(4, .int (0 : Int32)), (0, .ref a0), (1, .int a1), (2, .int a2), (3, .int a3)] dX7_doesForYears_1 (by decide) rfl ?_
  refine gz_sub [1, 2, 3, 4, 0] [(0, .ref a0), (1, .int a1), (2, .int a2), (3, .int a3), (4, .int (0 : Int32))] rfl ?_
  refine w_X7_doesForYears_3 hC hX ?_ _ _ hF
  intro hF
  refine gz_iconst 37 hC (1 : Int32) dX7_doesForYears_37 gz_k1 ?_
  exact gz_zretP 38 hC hX dX7_doesForYears_38 hF

theorem dX8_takeFrom_0 : decode cX8_takeFrom 0 = .ok (.aload_n 0, 1) := by decide +kernel
theorem dX8_takeFrom_1 : decode cX8_takeFrom 1 = .ok (.aload_n 1, 1) := by decide +kernel
theorem dX8_takeFrom_2 : decode cX8_takeFrom 2 = .ok (.getfield 24, 3) := by decide +kernel
theorem dX8_takeFrom_5 : decode cX8_takeFrom 5 = .ok (.putfield 24, 3) := by decide +kernel
theorem dX8_takeFrom_8 : decode cX8_takeFrom 8 = .ok (.iconst 0, 1) := by decide +kernel
theorem dX8_takeFrom_9 : decode cX8_takeFrom 9 = .ok (.istore_n 2, 1) := by decide +kernel
theorem dX8_takeFrom_10 : decode cX8_takeFrom 10 = .ok (.iload_n 2, 1) := by decide +kernel
theorem dX8_takeFrom_11 : decode cX8_takeFrom 11 = .ok (.aload_n 0, 1) := by decide +kernel
theorem dX8_takeFrom_12 : decode cX8_takeFrom 12 = .ok (.getfield 24, 3) := by decide +kernel
theorem dX8_takeFrom_15 : decode cX8_takeFrom 15 = .ok (.if_icmp .ge 24, 3) := by decide +kernel
theorem dX8_takeFrom_18 : decode cX8_takeFrom 18 = .ok (.aload_n 0, 1) := by decide +kernel
theorem dX8_takeFrom_19 : decode cX8_takeFrom 19 = .ok (.getfield 11, 3) := by decide +kernel
theorem dX8_takeFrom_22 : decode cX8_takeFrom 22 = .ok (.iload_n 2, 1) := by decide +kernel
theorem dX8_takeFrom_23 : decode cX8_takeFrom 23 = .ok (.aaload, 1) := by decide +kernel
theorem dX8_takeFrom_24 : decode cX8_takeFrom 24 = .ok (.aload_n 1, 1) := by decide +kernel
theorem dX8_takeFrom_25 : decode cX8_takeFrom 25 = .ok (.getfield 11, 3) := by decide +kernel
theorem dX8_takeFrom_28 : decode cX8_takeFrom 28 = .ok (.iload_n 2, 1) := by decide +kernel
theorem dX8_takeFrom_29 : decode cX8_takeFrom 29 = .ok (.aaload, 1) := by decide +kernel
theorem dX8_takeFrom_30 : decode cX8_takeFrom 30 = .ok (.invokevirtual 29, 3) := by decide +kernel
theorem dX8_takeFrom_33 : decode cX8_takeFrom 33 = .ok (.iinc 2 1, 3) := by decide +kernel
theorem dX8_takeFrom_36 : decode cX8_takeFrom 36 = .ok (.goto (-26), 3) := by decide +kernel
theorem dX8_takeFrom_39 : decode cX8_takeFrom 39 = .ok (.aload_n 0, 1) := by decide +kernel
theorem dX8_takeFrom_40 : decode cX8_takeFrom 40 = .ok (.getfield 20, 3) := by decide +kernel
theorem dX8_takeFrom_43 : decode cX8_takeFrom 43 = .ok (.aload_n 1, 1) := by decide +kernel
theorem dX8_takeFrom_44 : decode cX8_takeFrom 44 = .ok (.getfield 20, 3) := by decide +kernel
theorem dX8_takeFrom_47 : decode cX8_takeFrom 47 = .ok (.invokevirtual 33, 3) := by decide +kernel
theorem dX8_takeFrom_50 : decode cX8_takeFrom 50 = .ok (.return_, 1) := by decide +kernel
def lp_X8_takeFrom_10 (j39 : gz_M → Option (gz_M)) (fu : Nat) (a0 : Nat) (a1 : Nat) : Nat → Int32 → gz_M → Option (gz_M)
  | 0, _, _ => none
  | n10 + 1, x3, M4 =>
    (gz_gI M4 8 2 a0).bind fun x5 =>
    if x5 ≤ x3 then
      j39 M4
    else
      (gz_gR M4 8 0 a0).bind fun x6 =>
      (gz_aR M4 x6 x3).bind fun x7 =>
      (gz_gR M4 8 0 a1).bind fun x8 =>
      (gz_aR M4 x8 x3).bind fun x9 =>
      (f_X7_takeFrom fu M4 x7 x9).bind fun M10 =>
      lp_X8_takeFrom_10 j39 fu a0 a1 n10 (x3 + (1 : Int32)) M10
def f_X8_takeFrom (fu : Nat) (M : gz_M) (a0 : Nat) (a1 : Nat) : Option (gz_M) :=
  gz_gd M 8 a0 <|
  (gz_gI M 8 2 a1).bind fun x1 =>
  (gz_pI M 8 2 a0 x1).bind fun M2 =>
  lp_X8_takeFrom_10 (fun (M11 : gz_M) => (gz_gR M11 8 1 a0).bind fun x12 =>
    (gz_gR M11 8 1 a1).bind fun x13 =>
    (f_X1_takeFrom fu M11 x12 x13).bind fun M14 =>
    some M14) fu a0 a1 fu (0 : Int32) M2
set_option maxHeartbeats 4000000 in
theorem w_X8_takeFrom_10 {C : gz_C} {y : gz_M} {fu : Nat} {a0 : Nat} {a1 : Nat} {j39 : gz_M → Option (gz_M)} (hC : gz_ok C cX8_takeFrom RX8 3) (hX : gz_cx C 3 68 0 0 none none y "takeFrom") (hj39 : ∀ (M11 : gz_M), j39 M11 = some y → gz_go C 0 0 M11 [(0, .ref a0), (1, .ref a1)] 39 []) : ∀ (n : Nat) (x3 : Int32) (M4 : gz_M), lp_X8_takeFrom_10 j39 fu a0 a1 n x3 M4 = some y → gz_go C 0 0 M4 [(0, .ref a0), (1, .ref a1), (2, .int x3)] 10 [] := by
  intro n
  induction n with
  | zero => intro x3 M4 hF; exact nomatch (show (none : Option (gz_M)) = some y from hF)
  | succ n10 ih10 =>
    intro x3 M4 hF
    rw [lp_X8_takeFrom_10.eq_2] at hF
    refine gz_iload_n 10 hC 2 dX8_takeFrom_10 rfl rfl ?_
    refine gz_aload_n 11 hC 0 dX8_takeFrom_11 rfl rfl ?_
    refine gz_getI 12 hC fl_X8_24 fk_8_2 dX8_takeFrom_12 hF (fun x5 hF => ?_)
    refine gz_icmp_ge 15 39 hC dX8_takeFrom_15 (by decide) hF (fun hF => ?_) (fun hF => ?_)
    · skip
      refine gz_sub [0, 1] [(0, .ref a0), (1, .ref a1)] rfl ?_
      exact hj39 _ hF
    · skip
      refine gz_aload_n 18 hC 0 dX8_takeFrom_18 rfl rfl ?_
      refine gz_getR 19 hC fl_X8_11 fk_8_0 dX8_takeFrom_19 hF (fun x6 hF => ?_)
      refine gz_iload_n 22 hC 2 dX8_takeFrom_22 rfl rfl ?_
      refine gz_aald 23 hC dX8_takeFrom_23 hF (fun x7 hF => ?_)
      refine gz_aload_n 24 hC 1 dX8_takeFrom_24 rfl rfl ?_
      refine gz_getR 25 hC fl_X8_11 fk_8_0 dX8_takeFrom_25 hF (fun x8 hF => ?_)
      refine gz_iload_n 28 hC 2 dX8_takeFrom_28 rfl rfl ?_
      refine gz_aald 29 hC dX8_takeFrom_29 hF (fun x9 hF => ?_)
      refine gz_cvV (st := []) 30 hC hX [.ref x9] yl_X7_takeFrom yv_X7_takeFrom q_1049 ⟨Nat.le_of_ble_eq_true rfl, Nat.le_of_ble_eq_true rfl⟩ ⟨_, rfl⟩ (fun r h => ct_X7_takeFrom _ _ fu M4 x7 x9 r h) rfl rfl (Nat.le_of_ble_eq_true rfl) dX8_takeFrom_30 gz_00 hF (fun M10 hF => ?_)
      refine gz_iinc 33 hC (x3 + (1 : Int32)) 2 [(2, .int (x3 + (1 : Int32))), (0, .ref a0), (1, .ref a1)] dX8_takeFrom_33 rfl rfl (by decide) rfl ?_
      refine gz_goto 36 10 hC dX8_takeFrom_36 (by decide) ?_
      refine gz_sub [1, 2, 0] [(0, .ref a0), (1, .ref a1), (2, .int (x3 + (1 : Int32)))] rfl ?_
      exact ih10 _ _ hF
set_option maxHeartbeats 4000000 in
theorem ct_X8_takeFrom (l : Launch) (G : gz_G) (fu : Nat) (M : gz_M) (a0 : Nat) (a1 : Nat) (y : gz_M) (hF : f_X8_takeFrom fu M a0 a1 = some y) : gz_ct l yX8_takeFrom cX8_takeFrom 3 none 3 68 0 0 G [.ref a0, .ref a1] M none y := by
  refine gz_ct.of (by decide) (Nat.le_of_ble_eq_true rfl) (fun C hC hX => ?_)
  unfold f_X8_takeFrom at hF
  obtain ⟨-, hF⟩ := gz_gd_some hF
  show gz_go C 0 0 M [(0, .ref a0), (1, .ref a1)] 0 []
  refine gz_aload_n 0 hC 0 dX8_takeFrom_0 rfl rfl ?_
  refine gz_aload_n 1 hC 1 dX8_takeFrom_1 rfl rfl ?_
  refine gz_getI 2 hC fl_X8_24 fk_8_2 dX8_takeFrom_2 hF (fun x1 hF => ?_)
  refine gz_putI 5 hC fl_X8_24 fk_8_2 dX8_takeFrom_5 hF (fun M2 hF => ?_)
  refine gz_iconst 8 hC (0 : Int32) dX8_takeFrom_8 gz_k0 ?_
  refine gz_istore_n 9 hC [(2, .int (0 : Int32)), (0, .ref a0), (1, .ref a1)] dX8_takeFrom_9 rfl (by decide) rfl ?_
  refine gz_sub [1, 2, 0] [(0, .ref a0), (1, .ref a1), (2, .int (0 : Int32))] rfl ?_
  refine w_X8_takeFrom_10 hC hX ?_ _ _ _ hF
  intro M11 hF
  refine gz_aload_n 39 hC 0 dX8_takeFrom_39 rfl rfl ?_
  refine gz_getR 40 hC fl_X8_20 fk_8_1 dX8_takeFrom_40 hF (fun x12 hF => ?_)
  refine gz_aload_n 43 hC 1 dX8_takeFrom_43 rfl rfl ?_
  refine gz_getR 44 hC fl_X8_20 fk_8_1 dX8_takeFrom_44 hF (fun x13 hF => ?_)
  refine gz_cvV (st := []) 47 hC hX [.ref x13] yl_X1_takeFrom yv_X1_takeFrom q_1050 ⟨Nat.le_of_ble_eq_true rfl, Nat.le_of_ble_eq_true rfl⟩ ⟨_, rfl⟩ (fun r h => ct_X1_takeFrom _ _ fu M11 x12 x13 r h) rfl rfl (Nat.le_of_ble_eq_true rfl) dX8_takeFrom_47 gz_00 hF (fun M14 hF => ?_)
  exact gz_vretM 50 hC hX dX8_takeFrom_50 hF

theorem dX9_isWithin_0 : decode cX9_isWithin 0 = .ok (.iload_n 0, 1) := by decide +kernel
theorem dX9_isWithin_1 : decode cX9_isWithin 1 = .ok (.iload_n 1, 1) := by decide +kernel
theorem dX9_isWithin_2 : decode cX9_isWithin 2 = .ok (.if_icmp .lt 12, 3) := by decide +kernel
theorem dX9_isWithin_5 : decode cX9_isWithin 5 = .ok (.iload_n 0, 1) := by decide +kernel
theorem dX9_isWithin_6 : decode cX9_isWithin 6 = .ok (.iload_n 2, 1) := by decide +kernel
theorem dX9_isWithin_7 : decode cX9_isWithin 7 = .ok (.if_icmp .gt 7, 3) := by decide +kernel
theorem dX9_isWithin_10 : decode cX9_isWithin 10 = .ok (.iconst 1, 1) := by decide +kernel
theorem dX9_isWithin_11 : decode cX9_isWithin 11 = .ok (.goto 4, 3) := by decide +kernel
theorem dX9_isWithin_14 : decode cX9_isWithin 14 = .ok (.iconst 0, 1) := by decide +kernel
theorem dX9_isWithin_15 : decode cX9_isWithin 15 = .ok (.ireturn, 1) := by decide +kernel

def f_X9_isWithin (fu : Nat) (M : gz_M) (a0 : Int32) (a1 : Int32) (a2 : Int32) : Option (Int32) :=
  gz_jn (fun (x1 : Int32) =>
  gz_z x1 (some x1)) fun j15 =>
  gz_jn (j15 (0 : Int32)) fun j14 =>
  if a0 < a1 then
    j14
  else
    if a2 < a0 then
      j14
    else
      j15 (1 : Int32)

set_option maxHeartbeats 4000000 in
theorem ct_X9_isWithin (l : Launch) (G : gz_G) (fu : Nat) (M : gz_M) (a0 : Int32) (a1 : Int32) (a2 : Int32) (y : Int32) (hF : f_X9_isWithin fu M a0 a1 a2 = some y) : gz_ct l yX9_isWithin cX9_isWithin 3 (some .boolean) 0 0 0 0 G [.int a0, .int a1, .int a2] M (some (.int y)) M := by
  refine gz_ct.of (by decide) (Nat.le_of_ble_eq_true rfl) (fun C hC hX => ?_)
  unfold f_X9_isWithin at hF
  show gz_go C 0 0 M [(0, .int a0), (1, .int a1), (2, .int a2)] 0 []
  refine gz_iload_n 0 hC 0 dX9_isWithin_0 rfl rfl ?_
  refine gz_iload_n 1 hC 1 dX9_isWithin_1 rfl rfl ?_
  refine gz_join (fun (j : Int32 → Option (Int32)) => ∀ (x1 : Int32), j x1 = some y → gz_go C 0 0 M [] 15 [.int x1]) hF (fun x1 hF => ?_) (fun j15 hj15 hF => ?_)
  · skip
    exact gz_zretP 15 hC hX dX9_isWithin_15 hF
  refine gz_join (fun (j : Option (Int32)) => j = some y → gz_go C 0 0 M [] 14 []) hF (fun hF => ?_) (fun j14 hj14 hF => ?_)
  · skip
    refine gz_iconst 14 hC (0 : Int32) dX9_isWithin_14 gz_k0 ?_
    exact hj15 _ hF
  refine gz_icmp_lt 2 14 hC dX9_isWithin_2 (by decide) hF (fun hF => ?_) (fun hF => ?_)
  · skip
    refine gz_sub [] [] rfl ?_
    exact hj14 hF
  · skip
    refine gz_iload_n 5 hC 0 dX9_isWithin_5 rfl rfl ?_
    refine gz_iload_n 6 hC 2 dX9_isWithin_6 rfl rfl ?_
    refine gz_icmp_gt 7 14 hC dX9_isWithin_7 (by decide) hF (fun hF => ?_) (fun hF => ?_)
    · skip
      refine gz_sub [] [] rfl ?_
      exact hj14 hF
    · skip
      refine gz_iconst 10 hC (1 : Int32) dX9_isWithin_10 gz_k1 ?_
      refine gz_goto 11 15 hC dX9_isWithin_11 (by decide) ?_
      refine gz_sub [] [] rfl ?_
      exact hj15 _ hF

theorem dX9_isShelf_0 : decode cX9_isShelf 0 = .ok (.iload_n 0, 1) := by decide +kernel
theorem dX9_isShelf_1 : decode cX9_isShelf 1 = .ok (.iconst 0, 1) := by decide +kernel
theorem dX9_isShelf_2 : decode cX9_isShelf 2 = .ok (.bipush 7, 2) := by decide +kernel
theorem dX9_isShelf_4 : decode cX9_isShelf 4 = .ok (.invokestatic 75, 3) := by decide +kernel
theorem dX9_isShelf_7 : decode cX9_isShelf 7 = .ok (.ireturn, 1) := by decide +kernel

def f_X9_isShelf (fu : Nat) (M : gz_M) (a0 : Int32) : Option (Int32) :=
  (f_X9_isWithin fu M a0 (0 : Int32) (7 : Int32)).bind fun x1 =>
  gz_z x1 (some x1)

set_option maxHeartbeats 4000000 in
theorem ct_X9_isShelf (l : Launch) (G : gz_G) (fu : Nat) (M : gz_M) (a0 : Int32) (y : Int32) (hF : f_X9_isShelf fu M a0 = some y) : gz_ct l yX9_isShelf cX9_isShelf 1 (some .boolean) 1 22 0 0 G [.int a0] M (some (.int y)) M := by
  refine gz_ct.of (by decide) (Nat.le_of_ble_eq_true rfl) (fun C hC hX => ?_)
  unfold f_X9_isShelf at hF
  show gz_go C 0 0 M [(0, .int a0)] 0 []
  refine gz_iload_n 0 hC 0 dX9_isShelf_0 rfl rfl ?_
  refine gz_iconst 1 hC (0 : Int32) dX9_isShelf_1 gz_k0 ?_
  refine gz_bipush 2 hC (7 : Int32) dX9_isShelf_2 gz_b7 ?_
  refine gz_csP (st := []) 4 hC hX [.int a0, .int (0 : Int32), .int (7 : Int32)] Value.int yl_X9_isWithin yv_X9_isWithin q_414 ⟨Nat.le_of_ble_eq_true rfl, Nat.le_of_ble_eq_true rfl⟩ (fun r h => ct_X9_isWithin _ _ fu M a0 (0 : Int32) (7 : Int32) r h) rfl rfl (Nat.le_of_ble_eq_true rfl) dX9_isShelf_4 gz_00 hF (fun x1 hF => ?_)
  exact gz_zretP 7 hC hX dX9_isShelf_7 hF

theorem dX9_refuse_0 : decode cX9_refuse 0 = .ok (.bipush (-2), 2) := by decide +kernel
theorem dX9_refuse_2 : decode cX9_refuse 2 = .ok (.iload_n 1, 1) := by decide +kernel
theorem dX9_refuse_3 : decode cX9_refuse 3 = .ok (.isub, 1) := by decide +kernel
theorem dX9_refuse_4 : decode cX9_refuse 4 = .ok (.istore_n 2, 1) := by decide +kernel
theorem dX9_refuse_5 : decode cX9_refuse 5 = .ok (.iload_n 2, 1) := by decide +kernel
theorem dX9_refuse_6 : decode cX9_refuse 6 = .ok (.ifCond .lt 22, 3) := by decide +kernel
theorem dX9_refuse_9 : decode cX9_refuse 9 = .ok (.iload_n 2, 1) := by decide +kernel
theorem dX9_refuse_10 : decode cX9_refuse 10 = .ok (.aload_n 0, 1) := by decide +kernel
theorem dX9_refuse_11 : decode cX9_refuse 11 = .ok (.getfield 45, 3) := by decide +kernel
theorem dX9_refuse_14 : decode cX9_refuse 14 = .ok (.arraylength, 1) := by decide +kernel
theorem dX9_refuse_15 : decode cX9_refuse 15 = .ok (.if_icmp .ge 13, 3) := by decide +kernel
theorem dX9_refuse_18 : decode cX9_refuse 18 = .ok (.aload_n 0, 1) := by decide +kernel
theorem dX9_refuse_19 : decode cX9_refuse 19 = .ok (.getfield 45, 3) := by decide +kernel
theorem dX9_refuse_22 : decode cX9_refuse 22 = .ok (.iload_n 2, 1) := by decide +kernel
theorem dX9_refuse_23 : decode cX9_refuse 23 = .ok (.dup2, 1) := by decide +kernel
theorem dX9_refuse_24 : decode cX9_refuse 24 = .ok (.iaload, 1) := by decide +kernel
theorem dX9_refuse_25 : decode cX9_refuse 25 = .ok (.iconst 1, 1) := by decide +kernel
theorem dX9_refuse_26 : decode cX9_refuse 26 = .ok (.iadd, 1) := by decide +kernel
theorem dX9_refuse_27 : decode cX9_refuse 27 = .ok (.iastore, 1) := by decide +kernel
theorem dX9_refuse_28 : decode cX9_refuse 28 = .ok (.iload_n 1, 1) := by decide +kernel
theorem dX9_refuse_29 : decode cX9_refuse 29 = .ok (.ireturn, 1) := by decide +kernel

def f_X9_refuse (fu : Nat) (M : gz_M) (a0 : Nat) (a1 : Int32) : Option (Int32 × gz_M) :=
  gz_gd M 9 a0 <|
  gz_jn (fun (M6 : gz_M) =>
  some (a1, M6)) fun j28 =>
  if ((-2 : Int32) - a1) < 0 then
    j28 M
  else
    (gz_gR M 9 6 a0).bind fun x1 =>
    (gz_ln M x1).bind fun x2 =>
    if x2 ≤ ((-2 : Int32) - a1) then
      j28 M
    else
      (gz_gR M 9 6 a0).bind fun x3 =>
      (gz_aI M x3 ((-2 : Int32) - a1)).bind fun x4 =>
      (gz_tI M x3 ((-2 : Int32) - a1) (x4 + (1 : Int32))).bind fun M5 =>
      j28 M5

set_option maxHeartbeats 4000000 in
theorem ct_X9_refuse (l : Launch) (G : gz_G) (fu : Nat) (M : gz_M) (a0 : Nat) (a1 : Int32) (y : Int32 × gz_M) (hF : f_X9_refuse fu M a0 a1 = some y) : gz_ct l yX9_refuse cX9_refuse 3 (some .int) 0 0 0 0 G [.ref a0, .int a1] M (some (.int y.1)) y.2 := by
  refine gz_ct.of (by decide) (Nat.le_of_ble_eq_true rfl) (fun C hC hX => ?_)
  unfold f_X9_refuse at hF
  obtain ⟨-, hF⟩ := gz_gd_some hF
  show gz_go C 0 0 M [(0, .ref a0), (1, .int a1)] 0 []
  refine gz_bipush 0 hC (-2 : Int32) dX9_refuse_0 gz_bm2 ?_
  refine gz_iload_n 2 hC 1 dX9_refuse_2 rfl rfl ?_
  refine gz_isub 3 hC dX9_refuse_3 ?_
  refine gz_istore_n 4 hC [(2, .int ((-2 : Int32) - a1)), (0, .ref a0), (1, .int a1)] dX9_refuse_4 rfl (by decide) rfl ?_
  refine gz_iload_n 5 hC 0 dX9_refuse_5 rfl rfl ?_
  refine gz_join (fun (j : gz_M → Option (Int32 × gz_M)) => ∀ (M6 : gz_M), j M6 = some y → gz_go C 0 0 M6 [(1, .int a1)] 28 []) hF (fun M6 hF => ?_) (fun j28 hj28 hF => ?_)
  · skip
    refine gz_iload_n 28 hC 0 dX9_refuse_28 rfl rfl ?_
    exact gz_iretM 29 hC hX dX9_refuse_29 hF
  refine gz_if_lt 6 28 hC dX9_refuse_6 (by decide) hF (fun hF => ?_) (fun hF => ?_)
  · skip
    refine gz_sub [2] [(1, .int a1)] rfl ?_
    exact hj28 _ hF
  · skip
    refine gz_iload_n 9 hC 0 dX9_refuse_9 rfl rfl ?_
    refine gz_aload_n 10 hC 1 dX9_refuse_10 rfl rfl ?_
    refine gz_getR 11 hC fl_X9_45 fk_9_6 dX9_refuse_11 hF (fun x1 hF => ?_)
    refine gz_alen 14 hC dX9_refuse_14 hF (fun x2 hF => ?_)
    refine gz_icmp_ge 15 28 hC dX9_refuse_15 (by decide) hF (fun hF => ?_) (fun hF => ?_)
    · skip
      refine gz_sub [2] [(1, .int a1)] rfl ?_
      exact hj28 _ hF
    · skip
      refine gz_aload_n 18 hC 1 dX9_refuse_18 rfl rfl ?_
      refine gz_getR 19 hC fl_X9_45 fk_9_6 dX9_refuse_19 hF (fun x3 hF => ?_)
      refine gz_iload_n 22 hC 0 dX9_refuse_22 rfl rfl ?_
      refine gz_dup2 23 hC dX9_refuse_23 rfl rfl ?_
      refine gz_iald 24 hC dX9_refuse_24 hF (fun x4 hF => ?_)
      refine gz_iconst 25 hC (1 : Int32) dX9_refuse_25 gz_k1 ?_
      refine gz_iadd 26 hC dX9_refuse_26 ?_
      refine gz_iast 27 hC dX9_refuse_27 hF (fun M5 hF => ?_)
      refine gz_sub [2] [(1, .int a1)] rfl ?_
      exact hj28 _ hF
