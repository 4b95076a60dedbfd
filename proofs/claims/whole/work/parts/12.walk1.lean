theorem dX7_footPart_0 : decode cX7_footPart 0 = .ok (.aload_n 0, 1) := by decide +kernel
theorem dX7_footPart_1 : decode cX7_footPart 1 = .ok (.getfield 9, 3) := by decide +kernel
theorem dX7_footPart_4 : decode cX7_footPart 4 = .ok (.iload_n 1, 1) := by decide +kernel
theorem dX7_footPart_5 : decode cX7_footPart 5 = .ok (.iconst 5, 1) := by decide +kernel
theorem dX7_footPart_6 : decode cX7_footPart 6 = .ok (.imul, 1) := by decide +kernel
theorem dX7_footPart_7 : decode cX7_footPart 7 = .ok (.iload_n 2, 1) := by decide +kernel
theorem dX7_footPart_8 : decode cX7_footPart 8 = .ok (.iadd, 1) := by decide +kernel
theorem dX7_footPart_9 : decode cX7_footPart 9 = .ok (.iaload, 1) := by decide +kernel
theorem dX7_footPart_10 : decode cX7_footPart 10 = .ok (.ireturn, 1) := by decide +kernel

def f_X7_footPart (fu : Nat) (M : gz_M) (a0 : Nat) (a1 : Int32) (a2 : Int32) : Option (Int32) :=
  gz_gd M 7 a0 <|
  (gz_gR M 7 0 a0).bind fun x1 =>
  (gz_aI M x1 ((a1 * (5 : Int32)) + a2)).bind fun x2 =>
  some x2

set_option maxHeartbeats 4000000 in
theorem ct_X7_footPart (l : Launch) (G : gz_G) (fu : Nat) (M : gz_M) (a0 : Nat) (a1 : Int32) (a2 : Int32) (y : Int32) (hF : f_X7_footPart fu M a0 a1 a2 = some y) : gz_ct l yX7_footPart cX7_footPart 3 (some .int) 0 0 0 0 G [.ref a0, .int a1, .int a2] M (some (.int y)) M := by
  refine gz_ct.of (by decide) (Nat.le_of_ble_eq_true rfl) (fun C hC hX => ?_)
  unfold f_X7_footPart at hF
  obtain ⟨-, hF⟩ := gz_gd_some hF
  show gz_go C 0 0 M [(0, .ref a0), (1, .int a1), (2, .int a2)] 0 []
  refine gz_aload_n 0 hC 0 dX7_footPart_0 rfl rfl ?_
  refine gz_getR 1 hC fl_X7_9 fk_7_0 dX7_footPart_1 hF (fun x1 hF => ?_)
  refine gz_iload_n 4 hC 1 dX7_footPart_4 rfl rfl ?_
  refine gz_iconst 5 hC (5 : Int32) dX7_footPart_5 gz_k5 ?_
  refine gz_imul 6 hC dX7_footPart_6 ?_
  refine gz_iload_n 7 hC 2 dX7_footPart_7 rfl rfl ?_
  refine gz_iadd 8 hC dX7_footPart_8 ?_
  refine gz_iald 9 hC dX7_footPart_9 hF (fun x2 hF => ?_)
  exact gz_iretP 10 hC hX dX7_footPart_10 hF

theorem dX7_hasFootOf_0 : decode cX7_hasFootOf 0 = .ok (.iconst 0, 1) := by decide +kernel
theorem dX7_hasFootOf_1 : decode cX7_hasFootOf 1 = .ok (.istore_n 3, 1) := by decide +kernel
theorem dX7_hasFootOf_2 : decode cX7_hasFootOf 2 = .ok (.iload_n 3, 1) := by decide +kernel
theorem dX7_hasFootOf_3 : decode cX7_hasFootOf 3 = .ok (.aload_n 0, 1) := by decide +kernel
theorem dX7_hasFootOf_4 : decode cX7_hasFootOf 4 = .ok (.getfield 24, 3) := by decide +kernel
theorem dX7_hasFootOf_7 : decode cX7_hasFootOf 7 = .ok (.if_icmp .ge 21, 3) := by decide +kernel
theorem dX7_hasFootOf_10 : decode cX7_hasFootOf 10 = .ok (.aload_n 0, 1) := by decide +kernel
theorem dX7_hasFootOf_11 : decode cX7_hasFootOf 11 = .ok (.iload_n 3, 1) := by decide +kernel
theorem dX7_hasFootOf_12 : decode cX7_hasFootOf 12 = .ok (.iload_n 1, 1) := by decide +kernel
theorem dX7_hasFootOf_13 : decode cX7_hasFootOf 13 = .ok (.invokevirtual 56, 3) := by decide +kernel
theorem dX7_hasFootOf_16 : decode cX7_hasFootOf 16 = .ok (.iload_n 2, 1) := by decide +kernel
theorem dX7_hasFootOf_17 : decode cX7_hasFootOf 17 = .ok (.if_icmp .ne 5, 3) := by decide +kernel
theorem dX7_hasFootOf_20 : decode cX7_hasFootOf 20 = .ok (.iconst 1, 1) := by decide +kernel
theorem dX7_hasFootOf_21 : decode cX7_hasFootOf 21 = .ok (.ireturn, 1) := by decide +kernel
theorem dX7_hasFootOf_22 : decode cX7_hasFootOf 22 = .ok (.iinc 3 1, 3) := by decide +kernel
theorem dX7_hasFootOf_25 : decode cX7_hasFootOf 25 = .ok (.goto (-23), 3) := by decide +kernel
theorem dX7_hasFootOf_28 : decode cX7_hasFootOf 28 = .ok (.iconst 0, 1) := by decide +kernel
theorem dX7_hasFootOf_29 : decode cX7_hasFootOf 29 = .ok (.ireturn, 1) := by decide +kernel
def lp_X7_hasFootOf_2 (j28 : Option (Int32)) (fu : Nat) (M : gz_M) (a0 : Nat) (a1 : Int32) (a2 : Int32) : Nat → Int32 → Option (Int32)
  | 0, _ => none
  | n2 + 1, x1 =>
    (gz_gI M 7 4 a0).bind fun x2 =>
    if x2 ≤ x1 then
      j28
    else
      (f_X7_footPart fu M a0 x1 a1).bind fun x3 =>
      if x3 = a2 then
        gz_z (1 : Int32) (some (1 : Int32))
      else
        lp_X7_hasFootOf_2 j28 fu M a0 a1 a2 n2 (x1 + (1 : Int32))
def f_X7_hasFootOf (fu : Nat) (M : gz_M) (a0 : Nat) (a1 : Int32) (a2 : Int32) : Option (Int32) :=
  gz_gd M 7 a0 <|
  lp_X7_hasFootOf_2 (gz_z (0 : Int32) (some (0 : Int32))) fu M a0 a1 a2 fu (0 : Int32)
set_option maxHeartbeats 4000000 in
theorem w_X7_hasFootOf_2 {C : gz_C} {y : Int32} {fu : Nat} {M : gz_M} {a0 : Nat} {a1 : Int32} {a2 : Int32} {j28 : Option (Int32)} (hC : gz_ok C cX7_hasFootOf RX7 4) (hX : gz_cx C 1 22 0 0 (some .boolean) (some (.int y)) M "hasFootOf") (hj28 : j28 = some y → gz_go C 0 0 M [] 28 []) : ∀ (n : Nat) (x1 : Int32), lp_X7_hasFootOf_2 j28 fu M a0 a1 a2 n x1 = some y → gz_go C 0 0 M [(0, .ref a0), (1, .int a1), (2, .int a2), (3, .int x1)] 2 [] := by
  intro n
  induction n with
  | zero => intro x1 hF; exact nomatch (show (none : Option (Int32)) = some y from hF)
  | succ n2 ih2 =>
    intro x1 hF
    rw [lp_X7_hasFootOf_2.eq_2] at hF
    refine gz_iload_n 2 hC 3 dX7_hasFootOf_2 rfl rfl ?_
    refine gz_aload_n 3 hC 0 dX7_hasFootOf_3 rfl rfl ?_
    refine gz_getI 4 hC fl_X7_24 fk_7_4 dX7_hasFootOf_4 hF (fun x2 hF => ?_)
    refine gz_icmp_ge 7 28 hC dX7_hasFootOf_7 (by decide) hF (fun hF => ?_) (fun hF => ?_)
    · skip
      refine gz_sub [] [] rfl ?_
      exact hj28 hF
    · skip
      refine gz_aload_n 10 hC 0 dX7_hasFootOf_10 rfl rfl ?_
      refine gz_iload_n 11 hC 3 dX7_hasFootOf_11 rfl rfl ?_
      refine gz_iload_n 12 hC 1 dX7_hasFootOf_12 rfl rfl ?_
      refine gz_cvP (st := []) 13 hC hX [.int x1, .int a1] Value.int yl_X7_footPart yv_X7_footPart q_537 ⟨Nat.le_of_ble_eq_true rfl, Nat.le_of_ble_eq_true rfl⟩ ⟨_, rfl⟩ (fun r h => ct_X7_footPart _ _ fu M a0 x1 a1 r h) rfl rfl (Nat.le_of_ble_eq_true rfl) dX7_hasFootOf_13 gz_00 hF (fun x3 hF => ?_)
      refine gz_iload_n 16 hC 2 dX7_hasFootOf_16 rfl rfl ?_
      refine gz_icmp_ne 17 22 hC dX7_hasFootOf_17 (by decide) hF (fun hF => ?_) (fun hF => ?_)
      · skip
        refine gz_iinc 22 hC (x1 + (1 : Int32)) 3 [(3, .int (x1 + (1 : Int32))), (0, .ref a0), (1, .int a1), (2, .int a2)] dX7_hasFootOf_22 rfl rfl (by decide) rfl ?_
        refine gz_goto 25 2 hC dX7_hasFootOf_25 (by decide) ?_
        refine gz_sub [1, 2, 3, 0] [(0, .ref a0), (1, .int a1), (2, .int a2), (3, .int (x1 + (1 : Int32)))] rfl ?_
        exact ih2 _ hF
      · skip
        refine gz_iconst 20 hC (1 : Int32) dX7_hasFootOf_20 gz_k1 ?_
        exact gz_zretP 21 hC hX dX7_hasFootOf_21 hF
set_option maxHeartbeats 4000000 in
theorem ct_X7_hasFootOf (l : Launch) (G : gz_G) (fu : Nat) (M : gz_M) (a0 : Nat) (a1 : Int32) (a2 : Int32) (y : Int32) (hF : f_X7_hasFootOf fu M a0 a1 a2 = some y) : gz_ct l yX7_hasFootOf cX7_hasFootOf 4 (some .boolean) 1 22 0 0 G [.ref a0, .int a1, .int a2] M (some (.int y)) M := by
  refine gz_ct.of (by decide) (Nat.le_of_ble_eq_true rfl) (fun C hC hX => ?_)
  unfold f_X7_hasFootOf at hF
  obtain ⟨-, hF⟩ := gz_gd_some hF
  show gz_go C 0 0 M [(0, .ref a0), (1, .int a1), (2, .int a2)] 0 []
  refine gz_iconst 0 hC (0 : Int32) dX7_hasFootOf_0 gz_k0 ?_
  refine gz_istore_n 1 hC [(3, .int (0 : Int32)), (0, .ref a0), (1, .int a1), (2, .int a2)] dX7_hasFootOf_1 rfl (by decide) rfl ?_
  refine gz_sub [1, 2, 3, 0] [(0, .ref a0), (1, .int a1), (2, .int a2), (3, .int (0 : Int32))] rfl ?_
  refine w_X7_hasFootOf_2 hC hX ?_ _ _ hF
  intro hF
  refine gz_iconst 28 hC (0 : Int32) dX7_hasFootOf_28 gz_k0 ?_
  exact gz_zretP 29 hC hX dX7_hasFootOf_29 hF

theorem dX7_sizesOf_0 : decode cX7_sizesOf 0 = .ok (.iconst 0, 1) := by decide +kernel
theorem dX7_sizesOf_1 : decode cX7_sizesOf 1 = .ok (.istore_n 3, 1) := by decide +kernel
theorem dX7_sizesOf_2 : decode cX7_sizesOf 2 = .ok (.iconst 0, 1) := by decide +kernel
theorem dX7_sizesOf_3 : decode cX7_sizesOf 3 = .ok (.istore 4, 2) := by decide +kernel
theorem dX7_sizesOf_5 : decode cX7_sizesOf 5 = .ok (.iload 4, 2) := by decide +kernel
theorem dX7_sizesOf_7 : decode cX7_sizesOf 7 = .ok (.bipush 30, 2) := by decide +kernel
theorem dX7_sizesOf_9 : decode cX7_sizesOf 9 = .ok (.if_icmp .gt 33, 3) := by decide +kernel
theorem dX7_sizesOf_12 : decode cX7_sizesOf 12 = .ok (.iload_n 3, 1) := by decide +kernel
theorem dX7_sizesOf_13 : decode cX7_sizesOf 13 = .ok (.aload_n 2, 1) := by decide +kernel
theorem dX7_sizesOf_14 : decode cX7_sizesOf 14 = .ok (.arraylength, 1) := by decide +kernel
theorem dX7_sizesOf_15 : decode cX7_sizesOf 15 = .ok (.if_icmp .ge 27, 3) := by decide +kernel
theorem dX7_sizesOf_18 : decode cX7_sizesOf 18 = .ok (.aload_n 0, 1) := by decide +kernel
theorem dX7_sizesOf_19 : decode cX7_sizesOf 19 = .ok (.iload_n 1, 1) := by decide +kernel
theorem dX7_sizesOf_20 : decode cX7_sizesOf 20 = .ok (.iload 4, 2) := by decide +kernel
theorem dX7_sizesOf_22 : decode cX7_sizesOf 22 = .ok (.invokevirtual 83, 3) := by decide +kernel
theorem dX7_sizesOf_25 : decode cX7_sizesOf 25 = .ok (.ifCond .eq 11, 3) := by decide +kernel
theorem dX7_sizesOf_28 : decode cX7_sizesOf 28 = .ok (.aload_n 2, 1) := by decide +kernel
theorem dX7_sizesOf_29 : decode cX7_sizesOf 29 = .ok (.iload_n 3, 1) := by decide +kernel
theorem dX7_sizesOf_30 : decode cX7_sizesOf 30 = .ok (.iload 4, 2) := by decide +kernel
theorem dX7_sizesOf_32 : decode cX7_sizesOf 32 = .ok (.iastore, 1) := by decide +kernel
theorem dX7_sizesOf_33 : decode cX7_sizesOf 33 = .ok (.iinc 3 1, 3) := by decide +kernel
theorem dX7_sizesOf_36 : decode cX7_sizesOf 36 = .ok (.iinc 4 1, 3) := by decide +kernel
theorem dX7_sizesOf_39 : decode cX7_sizesOf 39 = .ok (.goto (-34), 3) := by decide +kernel
theorem dX7_sizesOf_42 : decode cX7_sizesOf 42 = .ok (.iload_n 3, 1) := by decide +kernel
theorem dX7_sizesOf_43 : decode cX7_sizesOf 43 = .ok (.ireturn, 1) := by decide +kernel
def lp_X7_sizesOf_5 (j42 : Int32 → gz_M → Option (Int32 × gz_M)) (fu : Nat) (a0 : Nat) (a1 : Int32) (a2 : Nat) : Nat → Int32 → Int32 → gz_M → Option (Int32 × gz_M)
  | 0, _, _, _ => none
  | n5 + 1, x1, x2, M3 =>
    if (30 : Int32) < x2 then
      j42 x1 M3
    else
      (gz_ln M3 a2).bind fun x4 =>
      if x4 ≤ x1 then
        j42 x1 M3
      else
        (f_X7_hasFootOf fu M3 a0 a1 x2).bind fun x5 =>
        gz_jn (fun (x7 : Int32) (M8 : gz_M) =>
        lp_X7_sizesOf_5 j42 fu a0 a1 a2 n5 x7 (x2 + (1 : Int32)) M8) fun j36 =>
        if x5 = 0 then
          j36 x1 M3
        else
          (gz_tI M3 a2 x1 x2).bind fun M6 =>
          j36 (x1 + (1 : Int32)) M6
def f_X7_sizesOf (fu : Nat) (M : gz_M) (a0 : Nat) (a1 : Int32) (a2 : Nat) : Option (Int32 × gz_M) :=
  gz_gd M 7 a0 <|
  lp_X7_sizesOf_5 (fun (x9 : Int32) (M10 : gz_M) => some (x9, M10)) fu a0 a1 a2 fu (0 : Int32) (0 : Int32) M
set_option maxHeartbeats 4000000 in
theorem w_X7_sizesOf_5 {C : gz_C} {y : Int32 × gz_M} {fu : Nat} {a0 : Nat} {a1 : Int32} {a2 : Nat} {j42 : Int32 → gz_M → Option (Int32 × gz_M)} (hC : gz_ok C cX7_sizesOf RX7 5) (hX : gz_cx C 2 45 0 0 (some .int) (some (.int y.1)) y.2 "sizesOf") (hj42 : ∀ (x9 : Int32) (M10 : gz_M), j42 x9 M10 = some y → gz_go C 0 0 M10 [(3, .int x9)] 42 []) : ∀ (n : Nat) (x1 : Int32) (x2 : Int32) (M3 : gz_M), lp_X7_sizesOf_5 j42 fu a0 a1 a2 n x1 x2 M3 = some y → gz_go C 0 0 M3 [(0, .ref a0), (1, .int a1), (2, .ref a2), (3, .int x1), (4, .int x2)] 5 [] := by
  intro n
  induction n with
  | zero => intro x1 x2 M3 hF; exact nomatch (show (none : Option (Int32 × gz_M)) = some y from hF)
  | succ n5 ih5 =>
    intro x1 x2 M3 hF
    rw [lp_X7_sizesOf_5.eq_2] at hF
    refine gz_iload 5 hC 4 dX7_sizesOf_5 rfl ?_
    refine gz_bipush 7 hC (30 : Int32) dX7_sizesOf_7 gz_b30 ?_
    refine gz_icmp_gt 9 42 hC dX7_sizesOf_9 (by decide) hF (fun hF => ?_) (fun hF => ?_)
    · skip
      refine gz_sub [3] [(3, .int x1)] rfl ?_
      exact hj42 _ _ hF
    · skip
      refine gz_iload_n 12 hC 3 dX7_sizesOf_12 rfl rfl ?_
      refine gz_aload_n 13 hC 2 dX7_sizesOf_13 rfl rfl ?_
      refine gz_alen 14 hC dX7_sizesOf_14 hF (fun x4 hF => ?_)
      refine gz_icmp_ge 15 42 hC dX7_sizesOf_15 (by decide) hF (fun hF => ?_) (fun hF => ?_)
      · skip
        refine gz_sub [3] [(3, .int x1)] rfl ?_
        exact hj42 _ _ hF
      · skip
        refine gz_aload_n 18 hC 0 dX7_sizesOf_18 rfl rfl ?_
        refine gz_iload_n 19 hC 1 dX7_sizesOf_19 rfl rfl ?_
        refine gz_iload 20 hC 4 dX7_sizesOf_20 rfl ?_
        refine gz_cvP (st := []) 22 hC hX [.int a1, .int x2] Value.int yl_X7_hasFootOf yv_X7_hasFootOf q_917 ⟨Nat.le_of_ble_eq_true rfl, Nat.le_of_ble_eq_true rfl⟩ ⟨_, rfl⟩ (fun r h => ct_X7_hasFootOf _ _ fu M3 a0 a1 x2 r h) rfl rfl (Nat.le_of_ble_eq_true rfl) dX7_sizesOf_22 gz_00 hF (fun x5 hF => ?_)
        refine gz_join (fun (j : Int32 → gz_M → Option (Int32 × gz_M)) => ∀ (x7 : Int32) (M8 : gz_M), j x7 M8 = some y → gz_go C 0 0 M8 [(0, .ref a0), (1, .int a1), (2, .ref a2), (3, .int x7), (4, .int x2)] 36 []) hF (fun x7 M8 hF => ?_) (fun j36 hj36 hF => ?_)
        · skip
          refine gz_iinc 36 hC (x2 + (1 : Int32)) 4 [(4, .int (x2 + (1 : Int32))), (0, .ref a0), (1, .int a1), (2, .ref a2), (3, .int x7)] dX7_sizesOf_36 rfl rfl (by decide) rfl ?_
          refine gz_goto 39 5 hC dX7_sizesOf_39 (by decide) ?_
          refine gz_sub [1, 2, 3, 4, 0] [(0, .ref a0), (1, .int a1), (2, .ref a2), (3, .int x7), (4, .int (x2 + (1 : Int32)))] rfl ?_
          exact ih5 _ _ _ hF
        refine gz_if_eq 25 36 hC dX7_sizesOf_25 (by decide) hF (fun hF => ?_) (fun hF => ?_)
        · skip
          exact hj36 _ _ hF
        · skip
          refine gz_aload_n 28 hC 2 dX7_sizesOf_28 rfl rfl ?_
          refine gz_iload_n 29 hC 3 dX7_sizesOf_29 rfl rfl ?_
          refine gz_iload 30 hC 4 dX7_sizesOf_30 rfl ?_
          refine gz_iast 32 hC dX7_sizesOf_32 hF (fun M6 hF => ?_)
          refine gz_iinc 33 hC (x1 + (1 : Int32)) 3 [(3, .int (x1 + (1 : Int32))), (0, .ref a0), (1, .int a1), (2, .ref a2), (4, .int x2)] dX7_sizesOf_33 rfl rfl (by decide) rfl ?_
          refine gz_sub [1, 2, 3, 0, 4] [(0, .ref a0), (1, .int a1), (2, .ref a2), (3, .int (x1 + (1 : Int32))), (4, .int x2)] rfl ?_
          exact hj36 _ _ hF
set_option maxHeartbeats 4000000 in
theorem ct_X7_sizesOf (l : Launch) (G : gz_G) (fu : Nat) (M : gz_M) (a0 : Nat) (a1 : Int32) (a2 : Nat) (y : Int32 × gz_M) (hF : f_X7_sizesOf fu M a0 a1 a2 = some y) : gz_ct l yX7_sizesOf cX7_sizesOf 5 (some .int) 2 45 0 0 G [.ref a0, .int a1, .ref a2] M (some (.int y.1)) y.2 := by
  refine gz_ct.of (by decide) (Nat.le_of_ble_eq_true rfl) (fun C hC hX => ?_)
  unfold f_X7_sizesOf at hF
  obtain ⟨-, hF⟩ := gz_gd_some hF
  show gz_go C 0 0 M [(0, .ref a0), (1, .int a1), (2, .ref a2)] 0 []
  refine gz_iconst 0 hC (0 : Int32) dX7_sizesOf_0 gz_k0 ?_
  refine gz_istore_n 1 hC [(3, .int (0 : Int32)), (0, .ref a0), (1, .int a1), (2, .ref a2)] dX7_sizesOf_1 rfl (by decide) rfl ?_
  refine gz_iconst 2 hC (0 : Int32) dX7_sizesOf_2 gz_k0 ?_
  refine gz_istore 3 hC [(4, .int (0 : Int32)), (3, .int (0 : Int32)), (0, .ref a0), (1, .int a1), (2, .ref a2)] dX7_sizesOf_3 (by decide) rfl ?_
  refine gz_sub [2, 3, 4, 1, 0] [(0, .ref a0), (1, .int a1), (2, .ref a2), (3, .int (0 : Int32)), (4, .int (0 : Int32))] rfl ?_
  refine w_X7_sizesOf_5 hC hX ?_ _ _ _ _ hF
  intro x9 M10 hF
  refine gz_iload_n 42 hC 0 dX7_sizesOf_42 rfl rfl ?_
  exact gz_iretM 43 hC hX dX7_sizesOf_43 hF

theorem dX0_countIn_0 : decode cX0_countIn 0 = .ok (.iconst 1, 1) := by decide +kernel
theorem dX0_countIn_1 : decode cX0_countIn 1 = .ok (.istore_n 2, 1) := by decide +kernel
theorem dX0_countIn_2 : decode cX0_countIn 2 = .ok (.iconst 0, 1) := by decide +kernel
theorem dX0_countIn_3 : decode cX0_countIn 3 = .ok (.istore_n 3, 1) := by decide +kernel
theorem dX0_countIn_4 : decode cX0_countIn 4 = .ok (.iload_n 3, 1) := by decide +kernel
theorem dX0_countIn_5 : decode cX0_countIn 5 = .ok (.iconst 3, 1) := by decide +kernel
theorem dX0_countIn_6 : decode cX0_countIn 6 = .ok (.if_icmp .ge 35, 3) := by decide +kernel
theorem dX0_countIn_9 : decode cX0_countIn 9 = .ok (.aload_n 0, 1) := by decide +kernel
theorem dX0_countIn_10 : decode cX0_countIn 10 = .ok (.getfield 31, 3) := by decide +kernel
theorem dX0_countIn_13 : decode cX0_countIn 13 = .ok (.iload_n 3, 1) := by decide +kernel
theorem dX0_countIn_14 : decode cX0_countIn 14 = .ok (.aload_n 1, 1) := by decide +kernel
theorem dX0_countIn_15 : decode cX0_countIn 15 = .ok (.iload_n 3, 1) := by decide +kernel
theorem dX0_countIn_16 : decode cX0_countIn 16 = .ok (.aload_n 0, 1) := by decide +kernel
theorem dX0_countIn_17 : decode cX0_countIn 17 = .ok (.getfield 25, 3) := by decide +kernel
theorem dX0_countIn_20 : decode cX0_countIn 20 = .ok (.iload_n 3, 1) := by decide +kernel
theorem dX0_countIn_21 : decode cX0_countIn 21 = .ok (.aaload, 1) := by decide +kernel
theorem dX0_countIn_22 : decode cX0_countIn 22 = .ok (.invokevirtual 52, 3) := by decide +kernel
theorem dX0_countIn_25 : decode cX0_countIn 25 = .ok (.iastore, 1) := by decide +kernel
theorem dX0_countIn_26 : decode cX0_countIn 26 = .ok (.iload_n 2, 1) := by decide +kernel
theorem dX0_countIn_27 : decode cX0_countIn 27 = .ok (.aload_n 0, 1) := by decide +kernel
theorem dX0_countIn_28 : decode cX0_countIn 28 = .ok (.getfield 31, 3) := by decide +kernel
theorem dX0_countIn_31 : decode cX0_countIn 31 = .ok (.iload_n 3, 1) := by decide +kernel
theorem dX0_countIn_32 : decode cX0_countIn 32 = .ok (.iaload, 1) := by decide +kernel
theorem dX0_countIn_33 : decode cX0_countIn 33 = .ok (.imul, 1) := by decide +kernel
theorem dX0_countIn_34 : decode cX0_countIn 34 = .ok (.istore_n 2, 1) := by decide +kernel
theorem dX0_countIn_35 : decode cX0_countIn 35 = .ok (.iinc 3 1, 3) := by decide +kernel
theorem dX0_countIn_38 : decode cX0_countIn 38 = .ok (.goto (-34), 3) := by decide +kernel
theorem dX0_countIn_41 : decode cX0_countIn 41 = .ok (.iload_n 2, 1) := by decide +kernel
theorem dX0_countIn_42 : decode cX0_countIn 42 = .ok (.ireturn, 1) := by decide +kernel
def lp_X0_countIn_4 (j41 : Int32 → gz_M → Option (Int32 × gz_M)) (fu : Nat) (a0 : Nat) (a1 : Nat) : Nat → Int32 → Int32 → gz_M → Option (Int32 × gz_M)
  | 0, _, _, _ => none
  | n4 + 1, x1, x2, M3 =>
    if (3 : Int32) ≤ x2 then
      j41 x1 M3
    else
      (gz_gR M3 0 5 a0).bind fun x4 =>
      (gz_gR M3 0 3 a0).bind fun x5 =>
      (gz_aR M3 x5 x2).bind fun x6 =>
      gz_b2 (f_X7_sizesOf fu M3 a1 x2 x6) fun x7 M8 =>
      (gz_tI M8 x4 x2 x7).bind fun M9 =>
      (gz_gR M9 0 5 a0).bind fun x10 =>
      (gz_aI M9 x10 x2).bind fun x11 =>
      lp_X0_countIn_4 j41 fu a0 a1 n4 (x1 * x11) (x2 + (1 : Int32)) M9
def f_X0_countIn (fu : Nat) (M : gz_M) (a0 : Nat) (a1 : Nat) : Option (Int32 × gz_M) :=
  gz_gd M 0 a0 <|
  lp_X0_countIn_4 (fun (x12 : Int32) (M13 : gz_M) => some (x12, M13)) fu a0 a1 fu (1 : Int32) (0 : Int32) M
set_option maxHeartbeats 4000000 in
theorem w_X0_countIn_4 {C : gz_C} {y : Int32 × gz_M} {fu : Nat} {a0 : Nat} {a1 : Nat} {j41 : Int32 → gz_M → Option (Int32 × gz_M)} (hC : gz_ok C cX0_countIn RX0 4) (hX : gz_cx C 3 69 0 0 (some .int) (some (.int y.1)) y.2 "countIn") (hj41 : ∀ (x12 : Int32) (M13 : gz_M), j41 x12 M13 = some y → gz_go C 0 0 M13 [(2, .int x12)] 41 []) : ∀ (n : Nat) (x1 : Int32) (x2 : Int32) (M3 : gz_M), lp_X0_countIn_4 j41 fu a0 a1 n x1 x2 M3 = some y → gz_go C 0 0 M3 [(0, .ref a0), (1, .ref a1), (2, .int x1), (3, .int x2)] 4 [] := by
  intro n
  induction n with
  | zero => intro x1 x2 M3 hF; exact nomatch (show (none : Option (Int32 × gz_M)) = some y from hF)
  | succ n4 ih4 =>
    intro x1 x2 M3 hF
    rw [lp_X0_countIn_4.eq_2] at hF
    refine gz_iload_n 4 hC 3 dX0_countIn_4 rfl rfl ?_
    refine gz_iconst 5 hC (3 : Int32) dX0_countIn_5 gz_k3 ?_
    refine gz_icmp_ge 6 41 hC dX0_countIn_6 (by decide) hF (fun hF => ?_) (fun hF => ?_)
    · skip
      refine gz_sub [2] [(2, .int x1)] rfl ?_
      exact hj41 _ _ hF
    · skip
      refine gz_aload_n 9 hC 0 dX0_countIn_9 rfl rfl ?_
      refine gz_getR 10 hC fl_X0_31 fk_0_5 dX0_countIn_10 hF (fun x4 hF => ?_)
      refine gz_iload_n 13 hC 3 dX0_countIn_13 rfl rfl ?_
      refine gz_aload_n 14 hC 1 dX0_countIn_14 rfl rfl ?_
      refine gz_iload_n 15 hC 3 dX0_countIn_15 rfl rfl ?_
      refine gz_aload_n 16 hC 0 dX0_countIn_16 rfl rfl ?_
      refine gz_getR 17 hC fl_X0_25 fk_0_3 dX0_countIn_17 hF (fun x5 hF => ?_)
      refine gz_iload_n 20 hC 3 dX0_countIn_20 rfl rfl ?_
      refine gz_aald 21 hC dX0_countIn_21 hF (fun x6 hF => ?_)
      refine gz_cvM (st := [.int x2, .ref x4]) 22 hC hX [.int x2, .ref x6] Value.int yl_X7_sizesOf yv_X7_sizesOf q_948 ⟨Nat.le_of_ble_eq_true rfl, Nat.le_of_ble_eq_true rfl⟩ ⟨_, rfl⟩ (fun r h => ct_X7_sizesOf _ _ fu M3 a1 x2 x6 r h) rfl rfl (Nat.le_of_ble_eq_true rfl) dX0_countIn_22 gz_00 hF (fun x7 M8 hF => ?_)
      refine gz_iast 25 hC dX0_countIn_25 hF (fun M9 hF => ?_)
      refine gz_iload_n 26 hC 2 dX0_countIn_26 rfl rfl ?_
      refine gz_aload_n 27 hC 0 dX0_countIn_27 rfl rfl ?_
      refine gz_getR 28 hC fl_X0_31 fk_0_5 dX0_countIn_28 hF (fun x10 hF => ?_)
      refine gz_iload_n 31 hC 3 dX0_countIn_31 rfl rfl ?_
      refine gz_iald 32 hC dX0_countIn_32 hF (fun x11 hF => ?_)
      refine gz_imul 33 hC dX0_countIn_33 ?_
      refine gz_istore_n 34 hC [(2, .int (x1 * x11)), (0, .ref a0), (1, .ref a1), (3, .int x2)] dX0_countIn_34 rfl (by decide) rfl ?_
      refine gz_iinc 35 hC (x2 + (1 : Int32)) 3 [(3, .int (x2 + (1 : Int32))), (2, .int (x1 * x11)), (0, .ref a0), (1, .ref a1)] dX0_countIn_35 rfl rfl (by decide) rfl ?_
      refine gz_goto 38 4 hC dX0_countIn_38 (by decide) ?_
      refine gz_sub [2, 3, 1, 0] [(0, .ref a0), (1, .ref a1), (2, .int (x1 * x11)), (3, .int (x2 + (1 : Int32)))] rfl ?_
      exact ih4 _ _ _ hF
set_option maxHeartbeats 4000000 in
theorem ct_X0_countIn (l : Launch) (G : gz_G) (fu : Nat) (M : gz_M) (a0 : Nat) (a1 : Nat) (y : Int32 × gz_M) (hF : f_X0_countIn fu M a0 a1 = some y) : gz_ct l yX0_countIn cX0_countIn 4 (some .int) 3 69 0 0 G [.ref a0, .ref a1] M (some (.int y.1)) y.2 := by
  refine gz_ct.of (by decide) (Nat.le_of_ble_eq_true rfl) (fun C hC hX => ?_)
  unfold f_X0_countIn at hF
  obtain ⟨-, hF⟩ := gz_gd_some hF
  show gz_go C 0 0 M [(0, .ref a0), (1, .ref a1)] 0 []
  refine gz_iconst 0 hC (1 : Int32) dX0_countIn_0 gz_k1 ?_
  refine gz_istore_n 1 hC [(2, .int (1 : Int32)), (0, .ref a0), (1, .ref a1)] dX0_countIn_1 rfl (by decide) rfl ?_
  refine gz_iconst 2 hC (0 : Int32) dX0_countIn_2 gz_k0 ?_
  refine gz_istore_n 3 hC [(3, .int (0 : Int32)), (2, .int (1 : Int32)), (0, .ref a0), (1, .ref a1)] dX0_countIn_3 rfl (by decide) rfl ?_
  refine gz_sub [2, 3, 1, 0] [(0, .ref a0), (1, .ref a1), (2, .int (1 : Int32)), (3, .int (0 : Int32))] rfl ?_
  refine w_X0_countIn_4 hC hX ?_ _ _ _ _ hF
  intro x12 M13 hF
  refine gz_iload_n 41 hC 0 dX0_countIn_41 rfl rfl ?_
  exact gz_iretM 42 hC hX dX0_countIn_42 hF

theorem dX7_share_0 : decode cX7_share 0 = .ok (.aload_n 0, 1) := by decide +kernel
theorem dX7_share_1 : decode cX7_share 1 = .ok (.iload_n 1, 1) := by decide +kernel
theorem dX7_share_2 : decode cX7_share 2 = .ok (.iload_n 2, 1) := by decide +kernel
theorem dX7_share_3 : decode cX7_share 3 = .ok (.invokevirtual 56, 3) := by decide +kernel
theorem dX7_share_6 : decode cX7_share 6 = .ok (.iload_n 3, 1) := by decide +kernel
theorem dX7_share_7 : decode cX7_share 7 = .ok (.iadd, 1) := by decide +kernel
theorem dX7_share_8 : decode cX7_share 8 = .ok (.istore 5, 2) := by decide +kernel
theorem dX7_share_10 : decode cX7_share 10 = .ok (.iload 4, 2) := by decide +kernel
theorem dX7_share_12 : decode cX7_share 12 = .ok (.iload 5, 2) := by decide +kernel
theorem dX7_share_14 : decode cX7_share 14 = .ok (.aload_n 0, 1) := by decide +kernel
theorem dX7_share_15 : decode cX7_share 15 = .ok (.iload_n 1, 1) := by decide +kernel
theorem dX7_share_16 : decode cX7_share 16 = .ok (.iconst 4, 1) := by decide +kernel
theorem dX7_share_17 : decode cX7_share 17 = .ok (.invokevirtual 56, 3) := by decide +kernel
theorem dX7_share_20 : decode cX7_share 20 = .ok (.isub, 1) := by decide +kernel
theorem dX7_share_21 : decode cX7_share 21 = .ok (.if_icmp .lt 17, 3) := by decide +kernel
theorem dX7_share_24 : decode cX7_share 24 = .ok (.iload 4, 2) := by decide +kernel
theorem dX7_share_26 : decode cX7_share 26 = .ok (.iload 5, 2) := by decide +kernel
theorem dX7_share_28 : decode cX7_share 28 = .ok (.aload_n 0, 1) := by decide +kernel
theorem dX7_share_29 : decode cX7_share 29 = .ok (.getfield 21, 3) := by decide +kernel
theorem dX7_share_32 : decode cX7_share 32 = .ok (.iload_n 2, 1) := by decide +kernel
theorem dX7_share_33 : decode cX7_share 33 = .ok (.iaload, 1) := by decide +kernel
theorem dX7_share_34 : decode cX7_share 34 = .ok (.iadd, 1) := by decide +kernel
theorem dX7_share_35 : decode cX7_share 35 = .ok (.if_icmp .le 5, 3) := by decide +kernel
theorem dX7_share_38 : decode cX7_share 38 = .ok (.iconst (-1), 1) := by decide +kernel
theorem dX7_share_39 : decode cX7_share 39 = .ok (.ireturn, 1) := by decide +kernel
theorem dX7_share_40 : decode cX7_share 40 = .ok (.iload 4, 2) := by decide +kernel
theorem dX7_share_42 : decode cX7_share 42 = .ok (.iload 5, 2) := by decide +kernel
theorem dX7_share_44 : decode cX7_share 44 = .ok (.if_icmp .le 18, 3) := by decide +kernel
theorem dX7_share_47 : decode cX7_share 47 = .ok (.aload_n 0, 1) := by decide +kernel
theorem dX7_share_48 : decode cX7_share 48 = .ok (.getfield 18, 3) := by decide +kernel
theorem dX7_share_51 : decode cX7_share 51 = .ok (.iload_n 2, 1) := by decide +kernel
theorem dX7_share_52 : decode cX7_share 52 = .ok (.iaload, 1) := by decide +kernel
theorem dX7_share_53 : decode cX7_share 53 = .ok (.iload 4, 2) := by decide +kernel
theorem dX7_share_55 : decode cX7_share 55 = .ok (.iload 5, 2) := by decide +kernel
theorem dX7_share_57 : decode cX7_share 57 = .ok (.isub, 1) := by decide +kernel
theorem dX7_share_58 : decode cX7_share 58 = .ok (.imul, 1) := by decide +kernel
theorem dX7_share_59 : decode cX7_share 59 = .ok (.goto 4, 3) := by decide +kernel
theorem dX7_share_62 : decode cX7_share 62 = .ok (.iconst 0, 1) := by decide +kernel
theorem dX7_share_63 : decode cX7_share 63 = .ok (.ireturn, 1) := by decide +kernel

def f_X7_share (fu : Nat) (M : gz_M) (a0 : Nat) (a1 : Int32) (a2 : Int32) (a3 : Int32) (a4 : Int32) : Option (Int32) :=
  gz_gd M 7 a0 <|
  (f_X7_footPart fu M a0 a1 a2).bind fun x1 =>
  (f_X7_footPart fu M a0 a1 (4 : Int32)).bind fun x2 =>
  gz_jn (some (-1 : Int32)) fun j38 =>
  if a4 < ((x1 + a3) - x2) then
    j38
  else
    (gz_gR M 7 3 a0).bind fun x3 =>
    (gz_aI M x3 a2).bind fun x4 =>
    if a4 ≤ ((x1 + a3) + x4) then
      gz_jn (fun (x7 : Int32) =>
      some x7) fun j63 =>
      if a4 ≤ (x1 + a3) then
        j63 (0 : Int32)
      else
        (gz_gR M 7 2 a0).bind fun x5 =>
        (gz_aI M x5 a2).bind fun x6 =>
        j63 (x6 * (a4 - (x1 + a3)))
    else
      j38

set_option maxHeartbeats 4000000 in
theorem ct_X7_share (l : Launch) (G : gz_G) (fu : Nat) (M : gz_M) (a0 : Nat) (a1 : Int32) (a2 : Int32) (a3 : Int32) (a4 : Int32) (y : Int32) (hF : f_X7_share fu M a0 a1 a2 a3 a4 = some y) : gz_ct l yX7_share cX7_share 6 (some .int) 1 22 0 0 G [.ref a0, .int a1, .int a2, .int a3, .int a4] M (some (.int y)) M := by
  refine gz_ct.of (by decide) (Nat.le_of_ble_eq_true rfl) (fun C hC hX => ?_)
  unfold f_X7_share at hF
  obtain ⟨-, hF⟩ := gz_gd_some hF
  show gz_go C 0 0 M [(0, .ref a0), (1, .int a1), (2, .int a2), (3, .int a3), (4, .int a4)] 0 []
  refine gz_aload_n 0 hC 0 dX7_share_0 rfl rfl ?_
  refine gz_iload_n 1 hC 1 dX7_share_1 rfl rfl ?_
  refine gz_iload_n 2 hC 2 dX7_share_2 rfl rfl ?_
  refine gz_cvP (st := []) 3 hC hX [.int a1, .int a2] Value.int yl_X7_footPart yv_X7_footPart q_537 ⟨Nat.le_of_ble_eq_true rfl, Nat.le_of_ble_eq_true rfl⟩ ⟨_, rfl⟩ (fun r h => ct_X7_footPart _ _ fu M a0 a1 a2 r h) rfl rfl (Nat.le_of_ble_eq_true rfl) dX7_share_3 gz_00 hF (fun x1 hF => ?_)
  refine gz_iload_n 6 hC 3 dX7_share_6 rfl rfl ?_
  refine gz_iadd 7 hC dX7_share_7 ?_
  refine gz_istore 8 hC [(5, .int (x1 + a3)), (0, .ref a0), (1, .int a1), (2, .int a2), (3, .int a3), (4, .int a4)] dX7_share_8 (by decide) rfl ?_
  refine gz_iload 10 hC 5 dX7_share_10 rfl ?_
  refine gz_iload 12 hC 0 dX7_share_12 rfl ?_
  refine gz_aload_n 14 hC 1 dX7_share_14 rfl rfl ?_
  refine gz_iload_n 15 hC 2 dX7_share_15 rfl rfl ?_
  refine gz_iconst 16 hC (4 : Int32) dX7_share_16 gz_k4 ?_
  refine gz_cvP (st := [.int (x1 + a3), .int a4]) 17 hC hX [.int a1, .int (4 : Int32)] Value.int yl_X7_footPart yv_X7_footPart q_537 ⟨Nat.le_of_ble_eq_true rfl, Nat.le_of_ble_eq_true rfl⟩ ⟨_, rfl⟩ (fun r h => ct_X7_footPart _ _ fu M a0 a1 (4 : Int32) r h) rfl rfl (Nat.le_of_ble_eq_true rfl) dX7_share_17 gz_00 hF (fun x2 hF => ?_)
  refine gz_isub 20 hC dX7_share_20 ?_
  refine gz_join (fun (j : Option (Int32)) => j = some y → gz_go C 0 0 M [] 38 []) hF (fun hF => ?_) (fun j38 hj38 hF => ?_)
  · skip
    refine gz_iconst 38 hC (-1 : Int32) dX7_share_38 gz_km1 ?_
    exact gz_iretP 39 hC hX dX7_share_39 hF
  refine gz_icmp_lt 21 38 hC dX7_share_21 (by decide) hF (fun hF => ?_) (fun hF => ?_)
  · skip
    refine gz_sub [] [] rfl ?_
    exact hj38 hF
  · skip
    refine gz_iload 24 hC 5 dX7_share_24 rfl ?_
    refine gz_iload 26 hC 0 dX7_share_26 rfl ?_
    refine gz_aload_n 28 hC 1 dX7_share_28 rfl rfl ?_
    refine gz_getR 29 hC fl_X7_21 fk_7_3 dX7_share_29 hF (fun x3 hF => ?_)
    refine gz_iload_n 32 hC 3 dX7_share_32 rfl rfl ?_
    refine gz_iald 33 hC dX7_share_33 hF (fun x4 hF => ?_)
    refine gz_iadd 34 hC dX7_share_34 ?_
    refine gz_icmp_le 35 40 hC dX7_share_35 (by decide) hF (fun hF => ?_) (fun hF => ?_)
    · skip
      refine gz_iload 40 hC 5 dX7_share_40 rfl ?_
      refine gz_iload 42 hC 0 dX7_share_42 rfl ?_
      refine gz_join (fun (j : Int32 → Option (Int32)) => ∀ (x7 : Int32), j x7 = some y → gz_go C 0 0 M [] 63 [.int x7]) hF (fun x7 hF => ?_) (fun j63 hj63 hF => ?_)
      · skip
        exact gz_iretP 63 hC hX dX7_share_63 hF
      refine gz_icmp_le 44 62 hC dX7_share_44 (by decide) hF (fun hF => ?_) (fun hF => ?_)
      · skip
        refine gz_iconst 62 hC (0 : Int32) dX7_share_62 gz_k0 ?_
        refine gz_sub [] [] rfl ?_
        exact hj63 _ hF
      · skip
        refine gz_aload_n 47 hC 1 dX7_share_47 rfl rfl ?_
        refine gz_getR 48 hC fl_X7_18 fk_7_2 dX7_share_48 hF (fun x5 hF => ?_)
        refine gz_iload_n 51 hC 3 dX7_share_51 rfl rfl ?_
        refine gz_iald 52 hC dX7_share_52 hF (fun x6 hF => ?_)
        refine gz_iload 53 hC 5 dX7_share_53 rfl ?_
        refine gz_iload 55 hC 0 dX7_share_55 rfl ?_
        refine gz_isub 57 hC dX7_share_57 ?_
        refine gz_imul 58 hC dX7_share_58 ?_
        refine gz_goto 59 63 hC dX7_share_59 (by decide) ?_
        refine gz_sub [] [] rfl ?_
        exact hj63 _ hF
    · skip
      refine gz_sub [] [] rfl ?_
      exact hj38 hF

theorem dX0_readFeet_0 : decode cX0_readFeet 0 = .ok (.aload_n 0, 1) := by decide +kernel
theorem dX0_readFeet_1 : decode cX0_readFeet 1 = .ok (.aload_n 1, 1) := by decide +kernel
theorem dX0_readFeet_2 : decode cX0_readFeet 2 = .ok (.getfield 74, 3) := by decide +kernel
theorem dX0_readFeet_5 : decode cX0_readFeet 5 = .ok (.putfield 46, 3) := by decide +kernel
theorem dX0_readFeet_8 : decode cX0_readFeet 8 = .ok (.aload_n 0, 1) := by decide +kernel
theorem dX0_readFeet_9 : decode cX0_readFeet 9 = .ok (.aload_n 1, 1) := by decide +kernel
theorem dX0_readFeet_10 : decode cX0_readFeet 10 = .ok (.getfield 75, 3) := by decide +kernel
theorem dX0_readFeet_13 : decode cX0_readFeet 13 = .ok (.putfield 49, 3) := by decide +kernel
theorem dX0_readFeet_16 : decode cX0_readFeet 16 = .ok (.iconst 0, 1) := by decide +kernel
theorem dX0_readFeet_17 : decode cX0_readFeet 17 = .ok (.istore_n 2, 1) := by decide +kernel
theorem dX0_readFeet_18 : decode cX0_readFeet 18 = .ok (.iload_n 2, 1) := by decide +kernel
theorem dX0_readFeet_19 : decode cX0_readFeet 19 = .ok (.aload_n 0, 1) := by decide +kernel
theorem dX0_readFeet_20 : decode cX0_readFeet 20 = .ok (.getfield 46, 3) := by decide +kernel
theorem dX0_readFeet_23 : decode cX0_readFeet 23 = .ok (.if_icmp .ge 84, 3) := by decide +kernel
theorem dX0_readFeet_26 : decode cX0_readFeet 26 = .ok (.aload_n 0, 1) := by decide +kernel
theorem dX0_readFeet_27 : decode cX0_readFeet 27 = .ok (.getfield 43, 3) := by decide +kernel
theorem dX0_readFeet_30 : decode cX0_readFeet 30 = .ok (.iload_n 2, 1) := by decide +kernel
theorem dX0_readFeet_31 : decode cX0_readFeet 31 = .ok (.aload_n 1, 1) := by decide +kernel
theorem dX0_readFeet_32 : decode cX0_readFeet 32 = .ok (.iload_n 2, 1) := by decide +kernel
theorem dX0_readFeet_33 : decode cX0_readFeet 33 = .ok (.iconst 3, 1) := by decide +kernel
theorem dX0_readFeet_34 : decode cX0_readFeet 34 = .ok (.invokevirtual 76, 3) := by decide +kernel
theorem dX0_readFeet_37 : decode cX0_readFeet 37 = .ok (.iastore, 1) := by decide +kernel
theorem dX0_readFeet_38 : decode cX0_readFeet 38 = .ok (.iconst 0, 1) := by decide +kernel
theorem dX0_readFeet_39 : decode cX0_readFeet 39 = .ok (.istore_n 3, 1) := by decide +kernel
theorem dX0_readFeet_40 : decode cX0_readFeet 40 = .ok (.iload_n 3, 1) := by decide +kernel
theorem dX0_readFeet_41 : decode cX0_readFeet 41 = .ok (.iconst 3, 1) := by decide +kernel
theorem dX0_readFeet_42 : decode cX0_readFeet 42 = .ok (.if_icmp .ge 59, 3) := by decide +kernel
theorem dX0_readFeet_45 : decode cX0_readFeet 45 = .ok (.iconst 0, 1) := by decide +kernel
theorem dX0_readFeet_46 : decode cX0_readFeet 46 = .ok (.istore 4, 2) := by decide +kernel
theorem dX0_readFeet_48 : decode cX0_readFeet 48 = .ok (.iload 4, 2) := by decide +kernel
theorem dX0_readFeet_50 : decode cX0_readFeet 50 = .ok (.aload_n 0, 1) := by decide +kernel
theorem dX0_readFeet_51 : decode cX0_readFeet 51 = .ok (.getfield 31, 3) := by decide +kernel
theorem dX0_readFeet_54 : decode cX0_readFeet 54 = .ok (.iload_n 3, 1) := by decide +kernel
theorem dX0_readFeet_55 : decode cX0_readFeet 55 = .ok (.iaload, 1) := by decide +kernel
theorem dX0_readFeet_56 : decode cX0_readFeet 56 = .ok (.if_icmp .ge 39, 3) := by decide +kernel
theorem dX0_readFeet_59 : decode cX0_readFeet 59 = .ok (.aload_n 0, 1) := by decide +kernel
theorem dX0_readFeet_60 : decode cX0_readFeet 60 = .ok (.getfield 28, 3) := by decide +kernel
theorem dX0_readFeet_63 : decode cX0_readFeet 63 = .ok (.iload_n 3, 1) := by decide +kernel
theorem dX0_readFeet_64 : decode cX0_readFeet 64 = .ok (.aaload, 1) := by decide +kernel
theorem dX0_readFeet_65 : decode cX0_readFeet 65 = .ok (.iload 4, 2) := by decide +kernel
theorem dX0_readFeet_67 : decode cX0_readFeet 67 = .ok (.bipush 12, 2) := by decide +kernel
theorem dX0_readFeet_69 : decode cX0_readFeet 69 = .ok (.imul, 1) := by decide +kernel
theorem dX0_readFeet_70 : decode cX0_readFeet 70 = .ok (.iload_n 2, 1) := by decide +kernel
theorem dX0_readFeet_71 : decode cX0_readFeet 71 = .ok (.iadd, 1) := by decide +kernel
theorem dX0_readFeet_72 : decode cX0_readFeet 72 = .ok (.aload_n 1, 1) := by decide +kernel
theorem dX0_readFeet_73 : decode cX0_readFeet 73 = .ok (.iload_n 2, 1) := by decide +kernel
theorem dX0_readFeet_74 : decode cX0_readFeet 74 = .ok (.iload_n 3, 1) := by decide +kernel
theorem dX0_readFeet_75 : decode cX0_readFeet 75 = .ok (.iconst 0, 1) := by decide +kernel
theorem dX0_readFeet_76 : decode cX0_readFeet 76 = .ok (.aload_n 0, 1) := by decide +kernel
theorem dX0_readFeet_77 : decode cX0_readFeet 77 = .ok (.getfield 25, 3) := by decide +kernel
theorem dX0_readFeet_80 : decode cX0_readFeet 80 = .ok (.iload_n 3, 1) := by decide +kernel
theorem dX0_readFeet_81 : decode cX0_readFeet 81 = .ok (.aaload, 1) := by decide +kernel
theorem dX0_readFeet_82 : decode cX0_readFeet 82 = .ok (.iload 4, 2) := by decide +kernel
theorem dX0_readFeet_84 : decode cX0_readFeet 84 = .ok (.iaload, 1) := by decide +kernel
theorem dX0_readFeet_85 : decode cX0_readFeet 85 = .ok (.invokevirtual 80, 3) := by decide +kernel
theorem dX0_readFeet_88 : decode cX0_readFeet 88 = .ok (.iastore, 1) := by decide +kernel
theorem dX0_readFeet_89 : decode cX0_readFeet 89 = .ok (.iinc 4 1, 3) := by decide +kernel
theorem dX0_readFeet_92 : decode cX0_readFeet 92 = .ok (.goto (-44), 3) := by decide +kernel
theorem dX0_readFeet_95 : decode cX0_readFeet 95 = .ok (.iinc 3 1, 3) := by decide +kernel
theorem dX0_readFeet_98 : decode cX0_readFeet 98 = .ok (.goto (-58), 3) := by decide +kernel
theorem dX0_readFeet_101 : decode cX0_readFeet 101 = .ok (.iinc 2 1, 3) := by decide +kernel
theorem dX0_readFeet_104 : decode cX0_readFeet 104 = .ok (.goto (-86), 3) := by decide +kernel
theorem dX0_readFeet_107 : decode cX0_readFeet 107 = .ok (.return_, 1) := by decide +kernel
def lp_X0_readFeet_48 (j95 : gz_M → Option (gz_M)) (fu : Nat) (a0 : Nat) (a1 : Nat) (x5 : Int32) (x11 : Int32) : Nat → Int32 → gz_M → Option (gz_M)
  | 0, _, _ => none
  | n48 + 1, x13, M14 =>
    (gz_gR M14 0 5 a0).bind fun x15 =>
    (gz_aI M14 x15 x11).bind fun x16 =>
    if x16 ≤ x13 then
      j95 M14
    else
      (gz_gR M14 0 4 a0).bind fun x17 =>
      (gz_aR M14 x17 x11).bind fun x18 =>
      (gz_gR M14 0 3 a0).bind fun x19 =>
      (gz_aR M14 x19 x11).bind fun x20 =>
      (gz_aI M14 x20 x13).bind fun x21 =>
      (f_X7_share fu M14 a1 x5 x11 (0 : Int32) x21).bind fun x22 =>
      (gz_tI M14 x18 ((x13 * (12 : Int32)) + x5) x22).bind fun M23 =>
      lp_X0_readFeet_48 j95 fu a0 a1 x5 x11 n48 (x13 + (1 : Int32)) M23
def lp_X0_readFeet_40 (j101 : gz_M → Option (gz_M)) (fu : Nat) (a0 : Nat) (a1 : Nat) (x5 : Int32) : Nat → Int32 → gz_M → Option (gz_M)
  | 0, _, _ => none
  | n40 + 1, x11, M12 =>
    if (3 : Int32) ≤ x11 then
      j101 M12
    else
      lp_X0_readFeet_48 (fun (M24 : gz_M) => lp_X0_readFeet_40 j101 fu a0 a1 x5 n40 (x11 + (1 : Int32)) M24) fu a0 a1 x5 x11 fu (0 : Int32) M12
def lp_X0_readFeet_18 (j107 : gz_M → Option (gz_M)) (fu : Nat) (a0 : Nat) (a1 : Nat) : Nat → Int32 → gz_M → Option (gz_M)
  | 0, _, _ => none
  | n18 + 1, x5, M6 =>
    (gz_gI M6 0 10 a0).bind fun x7 =>
    if x7 ≤ x5 then
      j107 M6
    else
      (gz_gR M6 0 9 a0).bind fun x8 =>
      (f_X7_footPart fu M6 a1 x5 (3 : Int32)).bind fun x9 =>
      (gz_tI M6 x8 x5 x9).bind fun M10 =>
      lp_X0_readFeet_40 (fun (M25 : gz_M) => lp_X0_readFeet_18 j107 fu a0 a1 n18 (x5 + (1 : Int32)) M25) fu a0 a1 x5 fu (0 : Int32) M10
def f_X0_readFeet (fu : Nat) (M : gz_M) (a0 : Nat) (a1 : Nat) : Option (gz_M) :=
  gz_gd M 0 a0 <|
  (gz_gI M 7 4 a1).bind fun x1 =>
  (gz_pI M 0 10 a0 x1).bind fun M2 =>
  (gz_gI M2 7 6 a1).bind fun x3 =>
  (gz_pI M2 0 11 a0 x3).bind fun M4 =>
  lp_X0_readFeet_18 (fun (M26 : gz_M) => some M26) fu a0 a1 fu (0 : Int32) M4
set_option maxHeartbeats 4000000 in
theorem w_X0_readFeet_48 {C : gz_C} {y : gz_M} {fu : Nat} {a0 : Nat} {a1 : Nat} {x5 : Int32} {x11 : Int32} {j95 : gz_M → Option (gz_M)} (hC : gz_ok C cX0_readFeet RX0 5) (hX : gz_cx C 2 47 0 0 none none y "readFeet") (hj95 : ∀ (M24 : gz_M), j95 M24 = some y → gz_go C 0 0 M24 [(0, .ref a0), (1, .ref a1), (2, .int x5), (3, .int x11)] 95 []) : ∀ (n : Nat) (x13 : Int32) (M14 : gz_M), lp_X0_readFeet_48 j95 fu a0 a1 x5 x11 n x13 M14 = some y → gz_go C 0 0 M14 [(0, .ref a0), (1, .ref a1), (2, .int x5), (3, .int x11), (4, .int x13)] 48 [] := by
  intro n
  induction n with
  | zero => intro x13 M14 hF; exact nomatch (show (none : Option (gz_M)) = some y from hF)
  | succ n48 ih48 =>
    intro x13 M14 hF
    rw [lp_X0_readFeet_48.eq_2] at hF
    refine gz_iload 48 hC 4 dX0_readFeet_48 rfl ?_
    refine gz_aload_n 50 hC 0 dX0_readFeet_50 rfl rfl ?_
    refine gz_getR 51 hC fl_X0_31 fk_0_5 dX0_readFeet_51 hF (fun x15 hF => ?_)
    refine gz_iload_n 54 hC 3 dX0_readFeet_54 rfl rfl ?_
    refine gz_iald 55 hC dX0_readFeet_55 hF (fun x16 hF => ?_)
    refine gz_icmp_ge 56 95 hC dX0_readFeet_56 (by decide) hF (fun hF => ?_) (fun hF => ?_)
    · skip
      refine gz_sub [0, 1, 2, 3] [(0, .ref a0), (1, .ref a1), (2, .int x5), (3, .int x11)] rfl ?_
      exact hj95 _ hF
    · skip
      refine gz_aload_n 59 hC 0 dX0_readFeet_59 rfl rfl ?_
      refine gz_getR 60 hC fl_X0_28 fk_0_4 dX0_readFeet_60 hF (fun x17 hF => ?_)
      refine gz_iload_n 63 hC 3 dX0_readFeet_63 rfl rfl ?_
      refine gz_aald 64 hC dX0_readFeet_64 hF (fun x18 hF => ?_)
      refine gz_iload 65 hC 4 dX0_readFeet_65 rfl ?_
      refine gz_bipush 67 hC (12 : Int32) dX0_readFeet_67 gz_b12 ?_
      refine gz_imul 69 hC dX0_readFeet_69 ?_
      refine gz_iload_n 70 hC 2 dX0_readFeet_70 rfl rfl ?_
      refine gz_iadd 71 hC dX0_readFeet_71 ?_
      refine gz_aload_n 72 hC 1 dX0_readFeet_72 rfl rfl ?_
      refine gz_iload_n 73 hC 2 dX0_readFeet_73 rfl rfl ?_
      refine gz_iload_n 74 hC 3 dX0_readFeet_74 rfl rfl ?_
      refine gz_iconst 75 hC (0 : Int32) dX0_readFeet_75 gz_k0 ?_
      refine gz_aload_n 76 hC 0 dX0_readFeet_76 rfl rfl ?_
      refine gz_getR 77 hC fl_X0_25 fk_0_3 dX0_readFeet_77 hF (fun x19 hF => ?_)
      refine gz_iload_n 80 hC 3 dX0_readFeet_80 rfl rfl ?_
      refine gz_aald 81 hC dX0_readFeet_81 hF (fun x20 hF => ?_)
      refine gz_iload 82 hC 4 dX0_readFeet_82 rfl ?_
      refine gz_iald 84 hC dX0_readFeet_84 hF (fun x21 hF => ?_)
      refine gz_cvP (st := [.int ((x13 * (12 : Int32)) + x5), .ref x18]) 85 hC hX [.int x5, .int x11, .int (0 : Int32), .int x21] Value.int yl_X7_share yv_X7_share q_963 ⟨Nat.le_of_ble_eq_true rfl, Nat.le_of_ble_eq_true rfl⟩ ⟨_, rfl⟩ (fun r h => ct_X7_share _ _ fu M14 a1 x5 x11 (0 : Int32) x21 r h) rfl rfl (Nat.le_of_ble_eq_true rfl) dX0_readFeet_85 gz_00 hF (fun x22 hF => ?_)
      refine gz_iast 88 hC dX0_readFeet_88 hF (fun M23 hF => ?_)
      refine gz_iinc 89 hC (x13 + (1 : Int32)) 4 [(4, .int (x13 + (1 : Int32))), (0, .ref a0), (1, .ref a1), (2, .int x5), (3, .int x11)] dX0_readFeet_89 rfl rfl (by decide) rfl ?_
      refine gz_goto 92 48 hC dX0_readFeet_92 (by decide) ?_
      refine gz_sub [1, 2, 3, 4, 0] [(0, .ref a0), (1, .ref a1), (2, .int x5), (3, .int x11), (4, .int (x13 + (1 : Int32)))] rfl ?_
      exact ih48 _ _ hF
set_option maxHeartbeats 4000000 in
theorem w_X0_readFeet_40 {C : gz_C} {y : gz_M} {fu : Nat} {a0 : Nat} {a1 : Nat} {x5 : Int32} {j101 : gz_M → Option (gz_M)} (hC : gz_ok C cX0_readFeet RX0 5) (hX : gz_cx C 2 47 0 0 none none y "readFeet") (hj101 : ∀ (M25 : gz_M), j101 M25 = some y → gz_go C 0 0 M25 [(0, .ref a0), (1, .ref a1), (2, .int x5)] 101 []) : ∀ (n : Nat) (x11 : Int32) (M12 : gz_M), lp_X0_readFeet_40 j101 fu a0 a1 x5 n x11 M12 = some y → gz_go C 0 0 M12 [(0, .ref a0), (1, .ref a1), (2, .int x5), (3, .int x11)] 40 [] := by
  intro n
  induction n with
  | zero => intro x11 M12 hF; exact nomatch (show (none : Option (gz_M)) = some y from hF)
  | succ n40 ih40 =>
    intro x11 M12 hF
    rw [lp_X0_readFeet_40.eq_2] at hF
    refine gz_iload_n 40 hC 3 dX0_readFeet_40 rfl rfl ?_
    refine gz_iconst 41 hC (3 : Int32) dX0_readFeet_41 gz_k3 ?_
    refine gz_icmp_ge 42 101 hC dX0_readFeet_42 (by decide) hF (fun hF => ?_) (fun hF => ?_)
    · skip
      refine gz_sub [0, 1, 2] [(0, .ref a0), (1, .ref a1), (2, .int x5)] rfl ?_
      exact hj101 _ hF
    · skip
      refine gz_iconst 45 hC (0 : Int32) dX0_readFeet_45 gz_k0 ?_
      refine gz_istore 46 hC [(4, .int (0 : Int32)), (0, .ref a0), (1, .ref a1), (2, .int x5), (3, .int x11)] dX0_readFeet_46 (by decide) rfl ?_
      refine gz_sub [1, 2, 3, 4, 0] [(0, .ref a0), (1, .ref a1), (2, .int x5), (3, .int x11), (4, .int (0 : Int32))] rfl ?_
      refine w_X0_readFeet_48 hC hX ?_ _ _ _ hF
      intro M24 hF
      refine gz_iinc 95 hC (x11 + (1 : Int32)) 3 [(3, .int (x11 + (1 : Int32))), (0, .ref a0), (1, .ref a1), (2, .int x5)] dX0_readFeet_95 rfl rfl (by decide) rfl ?_
      refine gz_goto 98 40 hC dX0_readFeet_98 (by decide) ?_
      refine gz_sub [1, 2, 3, 0] [(0, .ref a0), (1, .ref a1), (2, .int x5), (3, .int (x11 + (1 : Int32)))] rfl ?_
      exact ih40 _ _ hF
set_option maxHeartbeats 4000000 in
theorem w_X0_readFeet_18 {C : gz_C} {y : gz_M} {fu : Nat} {a0 : Nat} {a1 : Nat} {j107 : gz_M → Option (gz_M)} (hC : gz_ok C cX0_readFeet RX0 5) (hX : gz_cx C 2 47 0 0 none none y "readFeet") (hj107 : ∀ (M26 : gz_M), j107 M26 = some y → gz_go C 0 0 M26 [] 107 []) : ∀ (n : Nat) (x5 : Int32) (M6 : gz_M), lp_X0_readFeet_18 j107 fu a0 a1 n x5 M6 = some y → gz_go C 0 0 M6 [(0, .ref a0), (1, .ref a1), (2, .int x5)] 18 [] := by
  intro n
  induction n with
  | zero => intro x5 M6 hF; exact nomatch (show (none : Option (gz_M)) = some y from hF)
  | succ n18 ih18 =>
    intro x5 M6 hF
    rw [lp_X0_readFeet_18.eq_2] at hF
    refine gz_iload_n 18 hC 2 dX0_readFeet_18 rfl rfl ?_
    refine gz_aload_n 19 hC 0 dX0_readFeet_19 rfl rfl ?_
    refine gz_getI 20 hC fl_X0_46 fk_0_10 dX0_readFeet_20 hF (fun x7 hF => ?_)
    refine gz_icmp_ge 23 107 hC dX0_readFeet_23 (by decide) hF (fun hF => ?_) (fun hF => ?_)
    · skip
      refine gz_sub [] [] rfl ?_
      exact hj107 _ hF
    · skip
      refine gz_aload_n 26 hC 0 dX0_readFeet_26 rfl rfl ?_
      refine gz_getR 27 hC fl_X0_43 fk_0_9 dX0_readFeet_27 hF (fun x8 hF => ?_)
      refine gz_iload_n 30 hC 2 dX0_readFeet_30 rfl rfl ?_
      refine gz_aload_n 31 hC 1 dX0_readFeet_31 rfl rfl ?_
      refine gz_iload_n 32 hC 2 dX0_readFeet_32 rfl rfl ?_
      refine gz_iconst 33 hC (3 : Int32) dX0_readFeet_33 gz_k3 ?_
      refine gz_cvP (st := [.int x5, .ref x8]) 34 hC hX [.int x5, .int (3 : Int32)] Value.int yl_X7_footPart yv_X7_footPart q_962 ⟨Nat.le_of_ble_eq_true rfl, Nat.le_of_ble_eq_true rfl⟩ ⟨_, rfl⟩ (fun r h => ct_X7_footPart _ _ fu M6 a1 x5 (3 : Int32) r h) rfl rfl (Nat.le_of_ble_eq_true rfl) dX0_readFeet_34 gz_00 hF (fun x9 hF => ?_)
      refine gz_iast 37 hC dX0_readFeet_37 hF (fun M10 hF => ?_)
      refine gz_iconst 38 hC (0 : Int32) dX0_readFeet_38 gz_k0 ?_
      refine gz_istore_n 39 hC [(3, .int (0 : Int32)), (0, .ref a0), (1, .ref a1), (2, .int x5)] dX0_readFeet_39 rfl (by decide) rfl ?_
      refine gz_sub [1, 2, 3, 0] [(0, .ref a0), (1, .ref a1), (2, .int x5), (3, .int (0 : Int32))] rfl ?_
      refine w_X0_readFeet_40 hC hX ?_ _ _ _ hF
      intro M25 hF
      refine gz_iinc 101 hC (x5 + (1 : Int32)) 2 [(2, .int (x5 + (1 : Int32))), (0, .ref a0), (1, .ref a1)] dX0_readFeet_101 rfl rfl (by decide) rfl ?_
      refine gz_goto 104 18 hC dX0_readFeet_104 (by decide) ?_
      refine gz_sub [1, 2, 0] [(0, .ref a0), (1, .ref a1), (2, .int (x5 + (1 : Int32)))] rfl ?_
      exact ih18 _ _ hF
set_option maxHeartbeats 4000000 in
theorem ct_X0_readFeet (l : Launch) (G : gz_G) (fu : Nat) (M : gz_M) (a0 : Nat) (a1 : Nat) (y : gz_M) (hF : f_X0_readFeet fu M a0 a1 = some y) : gz_ct l yX0_readFeet cX0_readFeet 5 none 2 47 0 0 G [.ref a0, .ref a1] M none y := by
  refine gz_ct.of (by decide) (Nat.le_of_ble_eq_true rfl) (fun C hC hX => ?_)
  unfold f_X0_readFeet at hF
  obtain ⟨-, hF⟩ := gz_gd_some hF
  show gz_go C 0 0 M [(0, .ref a0), (1, .ref a1)] 0 []
  refine gz_aload_n 0 hC 0 dX0_readFeet_0 rfl rfl ?_
  refine gz_aload_n 1 hC 1 dX0_readFeet_1 rfl rfl ?_
  refine gz_getI 2 hC fl_X0_74 fk_7_4 dX0_readFeet_2 hF (fun x1 hF => ?_)
  refine gz_putI 5 hC fl_X0_46 fk_0_10 dX0_readFeet_5 hF (fun M2 hF => ?_)
  refine gz_aload_n 8 hC 0 dX0_readFeet_8 rfl rfl ?_
  refine gz_aload_n 9 hC 1 dX0_readFeet_9 rfl rfl ?_
  refine gz_getI 10 hC fl_X0_75 fk_7_6 dX0_readFeet_10 hF (fun x3 hF => ?_)
  refine gz_putI 13 hC fl_X0_49 fk_0_11 dX0_readFeet_13 hF (fun M4 hF => ?_)
  refine gz_iconst 16 hC (0 : Int32) dX0_readFeet_16 gz_k0 ?_
  refine gz_istore_n 17 hC [(2, .int (0 : Int32)), (0, .ref a0), (1, .ref a1)] dX0_readFeet_17 rfl (by decide) rfl ?_
  refine gz_sub [1, 2, 0] [(0, .ref a0), (1, .ref a1), (2, .int (0 : Int32))] rfl ?_
  refine w_X0_readFeet_18 hC hX ?_ _ _ _ hF
  intro M26 hF
  exact gz_vretM 107 hC hX dX0_readFeet_107 hF

theorem dX0_addShares_0 : decode cX0_addShares 0 = .ok (.iconst 0, 1) := by decide +kernel
theorem dX0_addShares_1 : decode cX0_addShares 1 = .ok (.istore 5, 2) := by decide +kernel
theorem dX0_addShares_3 : decode cX0_addShares 3 = .ok (.iload 5, 2) := by decide +kernel
theorem dX0_addShares_5 : decode cX0_addShares 5 = .ok (.aload_n 0, 1) := by decide +kernel
theorem dX0_addShares_6 : decode cX0_addShares 6 = .ok (.getfield 46, 3) := by decide +kernel
theorem dX0_addShares_9 : decode cX0_addShares 9 = .ok (.if_icmp .ge 57, 3) := by decide +kernel
theorem dX0_addShares_12 : decode cX0_addShares 12 = .ok (.aload_n 0, 1) := by decide +kernel
theorem dX0_addShares_13 : decode cX0_addShares 13 = .ok (.getfield 28, 3) := by decide +kernel
theorem dX0_addShares_16 : decode cX0_addShares 16 = .ok (.iload_n 1, 1) := by decide +kernel
theorem dX0_addShares_17 : decode cX0_addShares 17 = .ok (.aaload, 1) := by decide +kernel
theorem dX0_addShares_18 : decode cX0_addShares 18 = .ok (.iload_n 2, 1) := by decide +kernel
theorem dX0_addShares_19 : decode cX0_addShares 19 = .ok (.bipush 12, 2) := by decide +kernel
theorem dX0_addShares_21 : decode cX0_addShares 21 = .ok (.imul, 1) := by decide +kernel
theorem dX0_addShares_22 : decode cX0_addShares 22 = .ok (.iload 5, 2) := by decide +kernel
theorem dX0_addShares_24 : decode cX0_addShares 24 = .ok (.iadd, 1) := by decide +kernel
theorem dX0_addShares_25 : decode cX0_addShares 25 = .ok (.iaload, 1) := by decide +kernel
theorem dX0_addShares_26 : decode cX0_addShares 26 = .ok (.istore 6, 2) := by decide +kernel
theorem dX0_addShares_28 : decode cX0_addShares 28 = .ok (.aload 4, 2) := by decide +kernel
theorem dX0_addShares_30 : decode cX0_addShares 30 = .ok (.iload 5, 2) := by decide +kernel
theorem dX0_addShares_32 : decode cX0_addShares 32 = .ok (.iload 6, 2) := by decide +kernel
theorem dX0_addShares_34 : decode cX0_addShares 34 = .ok (.iconst (-1), 1) := by decide +kernel
theorem dX0_addShares_35 : decode cX0_addShares 35 = .ok (.if_icmp .eq 12, 3) := by decide +kernel
theorem dX0_addShares_38 : decode cX0_addShares 38 = .ok (.aload_n 3, 1) := by decide +kernel
theorem dX0_addShares_39 : decode cX0_addShares 39 = .ok (.iload 5, 2) := by decide +kernel
theorem dX0_addShares_41 : decode cX0_addShares 41 = .ok (.iaload, 1) := by decide +kernel
theorem dX0_addShares_42 : decode cX0_addShares 42 = .ok (.ldc 19, 2) := by decide +kernel
theorem dX0_addShares_44 : decode cX0_addShares 44 = .ok (.if_icmp .ne 8, 3) := by decide +kernel
theorem dX0_addShares_47 : decode cX0_addShares 47 = .ok (.ldc 19, 2) := by decide +kernel
theorem dX0_addShares_49 : decode cX0_addShares 49 = .ok (.goto 10, 3) := by decide +kernel
theorem dX0_addShares_52 : decode cX0_addShares 52 = .ok (.aload_n 3, 1) := by decide +kernel
theorem dX0_addShares_53 : decode cX0_addShares 53 = .ok (.iload 5, 2) := by decide +kernel
theorem dX0_addShares_55 : decode cX0_addShares 55 = .ok (.iaload, 1) := by decide +kernel
theorem dX0_addShares_56 : decode cX0_addShares 56 = .ok (.iload 6, 2) := by decide +kernel
theorem dX0_addShares_58 : decode cX0_addShares 58 = .ok (.iadd, 1) := by decide +kernel
theorem dX0_addShares_59 : decode cX0_addShares 59 = .ok (.iastore, 1) := by decide +kernel
theorem dX0_addShares_60 : decode cX0_addShares 60 = .ok (.iinc 5 1, 3) := by decide +kernel
theorem dX0_addShares_63 : decode cX0_addShares 63 = .ok (.goto (-60), 3) := by decide +kernel
theorem dX0_addShares_66 : decode cX0_addShares 66 = .ok (.return_, 1) := by decide +kernel
def lp_X0_addShares_3 (j66 : gz_M → Option (gz_M)) (a0 : Nat) (a1 : Int32) (a2 : Int32) (a3 : Nat) (a4 : Nat) : Nat → Int32 → gz_M → Option (gz_M)
  | 0, _, _ => none
  | n3 + 1, x1, M2 =>
    (gz_gI M2 0 10 a0).bind fun x3 =>
    if x3 ≤ x1 then
      j66 M2
    else
      (gz_gR M2 0 4 a0).bind fun x4 =>
      (gz_aR M2 x4 a1).bind fun x5 =>
      (gz_aI M2 x5 ((a2 * (12 : Int32)) + x1)).bind fun x6 =>
      gz_jn (fun (x9 : Int32) =>
      (gz_tI M2 a4 x1 x9).bind fun M10 =>
        lp_X0_addShares_3 j66 a0 a1 a2 a3 a4 n3 (x1 + (1 : Int32)) M10) fun j59 =>
      gz_jn (j59 (2147483647 : Int32)) fun j47 =>
      if x6 = (-1 : Int32) then
        j47
      else
        (gz_aI M2 a3 x1).bind fun x7 =>
        if x7 = (2147483647 : Int32) then
          j47
        else
          (gz_aI M2 a3 x1).bind fun x8 =>
          j59 (x8 + x6)
def f_X0_addShares (fu : Nat) (M : gz_M) (a0 : Nat) (a1 : Int32) (a2 : Int32) (a3 : Nat) (a4 : Nat) : Option (gz_M) :=
  gz_gd M 0 a0 <|
  lp_X0_addShares_3 (fun (M11 : gz_M) => some M11) a0 a1 a2 a3 a4 fu (0 : Int32) M
set_option maxHeartbeats 4000000 in
theorem w_X0_addShares_3 {C : gz_C} {y : gz_M} {a0 : Nat} {a1 : Int32} {a2 : Int32} {a3 : Nat} {a4 : Nat} {j66 : gz_M → Option (gz_M)} (hC : gz_ok C cX0_addShares RX0 7) (hX : gz_cx C 0 0 0 0 none none y "addShares") (hj66 : ∀ (M11 : gz_M), j66 M11 = some y → gz_go C 0 0 M11 [] 66 []) : ∀ (n : Nat) (x1 : Int32) (M2 : gz_M), lp_X0_addShares_3 j66 a0 a1 a2 a3 a4 n x1 M2 = some y → gz_go C 0 0 M2 [(0, .ref a0), (1, .int a1), (2, .int a2), (3, .ref a3), (4, .ref a4), (5, .int x1)] 3 [] := by
  intro n
  induction n with
  | zero => intro x1 M2 hF; exact nomatch (show (none : Option (gz_M)) = some y from hF)
  | succ n3 ih3 =>
    intro x1 M2 hF
    rw [lp_X0_addShares_3.eq_2] at hF
    refine gz_iload 3 hC 5 dX0_addShares_3 rfl ?_
    refine gz_aload_n 5 hC 0 dX0_addShares_5 rfl rfl ?_
    refine gz_getI 6 hC fl_X0_46 fk_0_10 dX0_addShares_6 hF (fun x3 hF => ?_)
    refine gz_icmp_ge 9 66 hC dX0_addShares_9 (by decide) hF (fun hF => ?_) (fun hF => ?_)
    · skip
      refine gz_sub [] [] rfl ?_
      exact hj66 _ hF
    · skip
      refine gz_aload_n 12 hC 0 dX0_addShares_12 rfl rfl ?_
      refine gz_getR 13 hC fl_X0_28 fk_0_4 dX0_addShares_13 hF (fun x4 hF => ?_)
      refine gz_iload_n 16 hC 1 dX0_addShares_16 rfl rfl ?_
      refine gz_aald 17 hC dX0_addShares_17 hF (fun x5 hF => ?_)
      refine gz_iload_n 18 hC 2 dX0_addShares_18 rfl rfl ?_
      refine gz_bipush 19 hC (12 : Int32) dX0_addShares_19 gz_b12 ?_
      refine gz_imul 21 hC dX0_addShares_21 ?_
      refine gz_iload 22 hC 5 dX0_addShares_22 rfl ?_
      refine gz_iadd 24 hC dX0_addShares_24 ?_
      refine gz_iald 25 hC dX0_addShares_25 hF (fun x6 hF => ?_)
      refine gz_istore 26 hC [(6, .int x6), (0, .ref a0), (1, .int a1), (2, .int a2), (3, .ref a3), (4, .ref a4), (5, .int x1)] dX0_addShares_26 (by decide) rfl ?_
      refine gz_aload 28 hC 5 dX0_addShares_28 rfl ?_
      refine gz_iload 30 hC 6 dX0_addShares_30 rfl ?_
      refine gz_iload 32 hC 0 dX0_addShares_32 rfl ?_
      refine gz_iconst 34 hC (-1 : Int32) dX0_addShares_34 gz_km1 ?_
      refine gz_join (fun (j : Int32 → Option (gz_M)) => ∀ (x9 : Int32), j x9 = some y → gz_go C 0 0 M2 [(0, .ref a0), (1, .int a1), (2, .int a2), (3, .ref a3), (4, .ref a4), (5, .int x1)] 59 [.int x9, .int x1, .ref a4]) hF (fun x9 hF => ?_) (fun j59 hj59 hF => ?_)
      · skip
        refine gz_iast 59 hC dX0_addShares_59 hF (fun M10 hF => ?_)
        refine gz_iinc 60 hC (x1 + (1 : Int32)) 5 [(5, .int (x1 + (1 : Int32))), (0, .ref a0), (1, .int a1), (2, .int a2), (3, .ref a3), (4, .ref a4)] dX0_addShares_60 rfl rfl (by decide) rfl ?_
        refine gz_goto 63 3 hC dX0_addShares_63 (by decide) ?_
        refine gz_sub [1, 2, 3, 4, 5, 0] [(0, .ref a0), (1, .int a1), (2, .int a2), (3, .ref a3), (4, .ref a4), (5, .int (x1 + (1 : Int32)))] rfl ?_
        exact ih3 _ _ hF
      refine gz_join (fun (j : Option (gz_M)) => j = some y → gz_go C 0 0 M2 [(0, .ref a0), (1, .int a1), (2, .int a2), (3, .ref a3), (4, .ref a4), (5, .int x1)] 47 [.int x1, .ref a4]) hF (fun hF => ?_) (fun j47 hj47 hF => ?_)
      · skip
        refine gz_ldc 47 hC dX0_addShares_47 q_309 ?_
        refine gz_goto 49 59 hC dX0_addShares_49 (by decide) ?_
        exact hj59 _ hF
      refine gz_icmp_eq 35 47 hC dX0_addShares_35 (by decide) hF (fun hF => ?_) (fun hF => ?_)
      · skip
        refine gz_sub [1, 2, 3, 4, 5, 6] [(0, .ref a0), (1, .int a1), (2, .int a2), (3, .ref a3), (4, .ref a4), (5, .int x1)] rfl ?_
        exact hj47 hF
      · skip
        refine gz_aload_n 38 hC 4 dX0_addShares_38 rfl rfl ?_
        refine gz_iload 39 hC 6 dX0_addShares_39 rfl ?_
        refine gz_iald 41 hC dX0_addShares_41 hF (fun x7 hF => ?_)
        refine gz_ldc 42 hC dX0_addShares_42 q_309 ?_
        refine gz_icmp_ne 44 52 hC dX0_addShares_44 (by decide) hF (fun hF => ?_) (fun hF => ?_)
        · skip
          refine gz_aload_n 52 hC 4 dX0_addShares_52 rfl rfl ?_
          refine gz_iload 53 hC 6 dX0_addShares_53 rfl ?_
          refine gz_iald 55 hC dX0_addShares_55 hF (fun x8 hF => ?_)
          refine gz_iload 56 hC 0 dX0_addShares_56 rfl ?_
          refine gz_iadd 58 hC dX0_addShares_58 ?_
          refine gz_sub [1, 2, 3, 4, 5, 6] [(0, .ref a0), (1, .int a1), (2, .int a2), (3, .ref a3), (4, .ref a4), (5, .int x1)] rfl ?_
          exact hj59 _ hF
        · skip
          refine gz_sub [1, 2, 3, 4, 5, 6] [(0, .ref a0), (1, .int a1), (2, .int a2), (3, .ref a3), (4, .ref a4), (5, .int x1)] rfl ?_
          exact hj47 hF
set_option maxHeartbeats 4000000 in
theorem ct_X0_addShares (l : Launch) (G : gz_G) (fu : Nat) (M : gz_M) (a0 : Nat) (a1 : Int32) (a2 : Int32) (a3 : Nat) (a4 : Nat) (y : gz_M) (hF : f_X0_addShares fu M a0 a1 a2 a3 a4 = some y) : gz_ct l yX0_addShares cX0_addShares 7 none 0 0 0 0 G [.ref a0, .int a1, .int a2, .ref a3, .ref a4] M none y := by
  refine gz_ct.of (by decide) (Nat.le_of_ble_eq_true rfl) (fun C hC hX => ?_)
  unfold f_X0_addShares at hF
  obtain ⟨-, hF⟩ := gz_gd_some hF
  show gz_go C 0 0 M [(0, .ref a0), (1, .int a1), (2, .int a2), (3, .ref a3), (4, .ref a4)] 0 []
  refine gz_iconst 0 hC (0 : Int32) dX0_addShares_0 gz_k0 ?_
  refine gz_istore 1 hC [(5, .int (0 : Int32)), (0, .ref a0), (1, .int a1), (2, .int a2), (3, .ref a3), (4, .ref a4)] dX0_addShares_1 (by decide) rfl ?_
  refine gz_sub [1, 2, 3, 4, 5, 0] [(0, .ref a0), (1, .int a1), (2, .int a2), (3, .ref a3), (4, .ref a4), (5, .int (0 : Int32))] rfl ?_
  refine w_X0_addShares_3 hC hX ?_ _ _ _ hF
  intro M11 hF
  exact gz_vretM 66 hC hX dX0_addShares_66 hF

theorem dX0_sumWith_0 : decode cX0_sumWith 0 = .ok (.iconst 0, 1) := by decide +kernel
theorem dX0_sumWith_1 : decode cX0_sumWith 1 = .ok (.istore_n 2, 1) := by decide +kernel
theorem dX0_sumWith_2 : decode cX0_sumWith 2 = .ok (.iconst 0, 1) := by decide +kernel
theorem dX0_sumWith_3 : decode cX0_sumWith 3 = .ok (.istore_n 3, 1) := by decide +kernel
theorem dX0_sumWith_4 : decode cX0_sumWith 4 = .ok (.iload_n 3, 1) := by decide +kernel
theorem dX0_sumWith_5 : decode cX0_sumWith 5 = .ok (.aload_n 0, 1) := by decide +kernel
theorem dX0_sumWith_6 : decode cX0_sumWith 6 = .ok (.getfield 46, 3) := by decide +kernel
theorem dX0_sumWith_9 : decode cX0_sumWith 9 = .ok (.if_icmp .ge 79, 3) := by decide +kernel
theorem dX0_sumWith_12 : decode cX0_sumWith 12 = .ok (.aload_n 0, 1) := by decide +kernel
theorem dX0_sumWith_13 : decode cX0_sumWith 13 = .ok (.getfield 28, 3) := by decide +kernel
theorem dX0_sumWith_16 : decode cX0_sumWith 16 = .ok (.iconst 2, 1) := by decide +kernel
theorem dX0_sumWith_17 : decode cX0_sumWith 17 = .ok (.aaload, 1) := by decide +kernel
theorem dX0_sumWith_18 : decode cX0_sumWith 18 = .ok (.iload_n 1, 1) := by decide +kernel
theorem dX0_sumWith_19 : decode cX0_sumWith 19 = .ok (.bipush 12, 2) := by decide +kernel
theorem dX0_sumWith_21 : decode cX0_sumWith 21 = .ok (.imul, 1) := by decide +kernel
theorem dX0_sumWith_22 : decode cX0_sumWith 22 = .ok (.iload_n 3, 1) := by decide +kernel
theorem dX0_sumWith_23 : decode cX0_sumWith 23 = .ok (.iadd, 1) := by decide +kernel
theorem dX0_sumWith_24 : decode cX0_sumWith 24 = .ok (.iaload, 1) := by decide +kernel
theorem dX0_sumWith_25 : decode cX0_sumWith 25 = .ok (.istore 4, 2) := by decide +kernel
theorem dX0_sumWith_27 : decode cX0_sumWith 27 = .ok (.iload 4, 2) := by decide +kernel
theorem dX0_sumWith_29 : decode cX0_sumWith 29 = .ok (.iconst (-1), 1) := by decide +kernel
theorem dX0_sumWith_30 : decode cX0_sumWith 30 = .ok (.if_icmp .eq 14, 3) := by decide +kernel
theorem dX0_sumWith_33 : decode cX0_sumWith 33 = .ok (.aload_n 0, 1) := by decide +kernel
theorem dX0_sumWith_34 : decode cX0_sumWith 34 = .ok (.getfield 40, 3) := by decide +kernel
theorem dX0_sumWith_37 : decode cX0_sumWith 37 = .ok (.iload_n 3, 1) := by decide +kernel
theorem dX0_sumWith_38 : decode cX0_sumWith 38 = .ok (.iaload, 1) := by decide +kernel
theorem dX0_sumWith_39 : decode cX0_sumWith 39 = .ok (.ldc 19, 2) := by decide +kernel
theorem dX0_sumWith_41 : decode cX0_sumWith 41 = .ok (.if_icmp .ne 7, 3) := by decide +kernel
theorem dX0_sumWith_44 : decode cX0_sumWith 44 = .ok (.iconst 1, 1) := by decide +kernel
theorem dX0_sumWith_45 : decode cX0_sumWith 45 = .ok (.goto 4, 3) := by decide +kernel
theorem dX0_sumWith_48 : decode cX0_sumWith 48 = .ok (.iconst 0, 1) := by decide +kernel
theorem dX0_sumWith_49 : decode cX0_sumWith 49 = .ok (.istore 5, 2) := by decide +kernel
theorem dX0_sumWith_51 : decode cX0_sumWith 51 = .ok (.iload_n 2, 1) := by decide +kernel
theorem dX0_sumWith_52 : decode cX0_sumWith 52 = .ok (.aload_n 0, 1) := by decide +kernel
theorem dX0_sumWith_53 : decode cX0_sumWith 53 = .ok (.getfield 43, 3) := by decide +kernel
theorem dX0_sumWith_56 : decode cX0_sumWith 56 = .ok (.iload_n 3, 1) := by decide +kernel
theorem dX0_sumWith_57 : decode cX0_sumWith 57 = .ok (.iaload, 1) := by decide +kernel
theorem dX0_sumWith_58 : decode cX0_sumWith 58 = .ok (.iload 5, 2) := by decide +kernel
theorem dX0_sumWith_60 : decode cX0_sumWith 60 = .ok (.ifCond .eq 10, 3) := by decide +kernel
theorem dX0_sumWith_63 : decode cX0_sumWith 63 = .ok (.aload_n 0, 1) := by decide +kernel
theorem dX0_sumWith_64 : decode cX0_sumWith 64 = .ok (.getfield 49, 3) := by decide +kernel
theorem dX0_sumWith_67 : decode cX0_sumWith 67 = .ok (.goto 12, 3) := by decide +kernel
theorem dX0_sumWith_70 : decode cX0_sumWith 70 = .ok (.aload_n 0, 1) := by decide +kernel
theorem dX0_sumWith_71 : decode cX0_sumWith 71 = .ok (.getfield 40, 3) := by decide +kernel
theorem dX0_sumWith_74 : decode cX0_sumWith 74 = .ok (.iload_n 3, 1) := by decide +kernel
theorem dX0_sumWith_75 : decode cX0_sumWith 75 = .ok (.iaload, 1) := by decide +kernel
theorem dX0_sumWith_76 : decode cX0_sumWith 76 = .ok (.iload 4, 2) := by decide +kernel
theorem dX0_sumWith_78 : decode cX0_sumWith 78 = .ok (.iadd, 1) := by decide +kernel
theorem dX0_sumWith_79 : decode cX0_sumWith 79 = .ok (.imul, 1) := by decide +kernel
theorem dX0_sumWith_80 : decode cX0_sumWith 80 = .ok (.iadd, 1) := by decide +kernel
theorem dX0_sumWith_81 : decode cX0_sumWith 81 = .ok (.istore_n 2, 1) := by decide +kernel
theorem dX0_sumWith_82 : decode cX0_sumWith 82 = .ok (.iinc 3 1, 3) := by decide +kernel
theorem dX0_sumWith_85 : decode cX0_sumWith 85 = .ok (.goto (-81), 3) := by decide +kernel
theorem dX0_sumWith_88 : decode cX0_sumWith 88 = .ok (.iload_n 2, 1) := by decide +kernel
theorem dX0_sumWith_89 : decode cX0_sumWith 89 = .ok (.ireturn, 1) := by decide +kernel
def lp_X0_sumWith_4 (j88 : Int32 → Option (Int32)) (M : gz_M) (a0 : Nat) (a1 : Int32) : Nat → Int32 → Int32 → Option (Int32)
  | 0, _, _ => none
  | n4 + 1, x1, x2 =>
    (gz_gI M 0 10 a0).bind fun x3 =>
    if x3 ≤ x2 then
      j88 x1
    else
      (gz_gR M 0 4 a0).bind fun x4 =>
      (gz_aR M x4 (2 : Int32)).bind fun x5 =>
      (gz_aI M x5 ((a1 * (12 : Int32)) + x2)).bind fun x6 =>
      gz_jn (fun (x9 : Int32) =>
      (gz_gR M 0 9 a0).bind fun x10 =>
        (gz_aI M x10 x2).bind fun x11 =>
        gz_jn (fun (x15 : Int32) =>
        lp_X0_sumWith_4 j88 M a0 a1 n4 (x1 + (x11 * x15)) (x2 + (1 : Int32))) fun j79 =>
        if x9 = 0 then
          (gz_gR M 0 8 a0).bind fun x13 =>
          (gz_aI M x13 x2).bind fun x14 =>
          j79 (x14 + x6)
        else
          (gz_gI M 0 11 a0).bind fun x12 =>
          j79 x12) fun j49 =>
      gz_jn (j49 (1 : Int32)) fun j44 =>
      if x6 = (-1 : Int32) then
        j44
      else
        (gz_gR M 0 8 a0).bind fun x7 =>
        (gz_aI M x7 x2).bind fun x8 =>
        if x8 = (2147483647 : Int32) then
          j44
        else
          j49 (0 : Int32)
def f_X0_sumWith (fu : Nat) (M : gz_M) (a0 : Nat) (a1 : Int32) : Option (Int32) :=
  gz_gd M 0 a0 <|
  lp_X0_sumWith_4 (fun (x16 : Int32) => some x16) M a0 a1 fu (0 : Int32) (0 : Int32)
set_option maxHeartbeats 4000000 in
theorem w_X0_sumWith_4 {C : gz_C} {y : Int32} {M : gz_M} {a0 : Nat} {a1 : Int32} {j88 : Int32 → Option (Int32)} (hC : gz_ok C cX0_sumWith RX0 6) (hX : gz_cx C 0 0 0 0 (some .int) (some (.int y)) M "sumWith") (hj88 : ∀ (x16 : Int32), j88 x16 = some y → gz_go C 0 0 M [(2, .int x16)] 88 []) : ∀ (n : Nat) (x1 : Int32) (x2 : Int32), lp_X0_sumWith_4 j88 M a0 a1 n x1 x2 = some y → gz_go C 0 0 M [(0, .ref a0), (1, .int a1), (2, .int x1), (3, .int x2)] 4 [] := by
  intro n
  induction n with
  | zero => intro x1 x2 hF; exact nomatch (show (none : Option (Int32)) = some y from hF)
  | succ n4 ih4 =>
    intro x1 x2 hF
    rw [lp_X0_sumWith_4.eq_2] at hF
    refine gz_iload_n 4 hC 3 dX0_sumWith_4 rfl rfl ?_
    refine gz_aload_n 5 hC 0 dX0_sumWith_5 rfl rfl ?_
    refine gz_getI 6 hC fl_X0_46 fk_0_10 dX0_sumWith_6 hF (fun x3 hF => ?_)
    refine gz_icmp_ge 9 88 hC dX0_sumWith_9 (by decide) hF (fun hF => ?_) (fun hF => ?_)
    · skip
      refine gz_sub [2] [(2, .int x1)] rfl ?_
      exact hj88 _ hF
    · skip
      refine gz_aload_n 12 hC 0 dX0_sumWith_12 rfl rfl ?_
      refine gz_getR 13 hC fl_X0_28 fk_0_4 dX0_sumWith_13 hF (fun x4 hF => ?_)
      refine gz_iconst 16 hC (2 : Int32) dX0_sumWith_16 gz_k2 ?_
      refine gz_aald 17 hC dX0_sumWith_17 hF (fun x5 hF => ?_)
      refine gz_iload_n 18 hC 1 dX0_sumWith_18 rfl rfl ?_
      refine gz_bipush 19 hC (12 : Int32) dX0_sumWith_19 gz_b12 ?_
      refine gz_imul 21 hC dX0_sumWith_21 ?_
      refine gz_iload_n 22 hC 3 dX0_sumWith_22 rfl rfl ?_
      refine gz_iadd 23 hC dX0_sumWith_23 ?_
      refine gz_iald 24 hC dX0_sumWith_24 hF (fun x6 hF => ?_)
      refine gz_istore 25 hC [(4, .int x6), (0, .ref a0), (1, .int a1), (2, .int x1), (3, .int x2)] dX0_sumWith_25 (by decide) rfl ?_
      refine gz_iload 27 hC 0 dX0_sumWith_27 rfl ?_
      refine gz_iconst 29 hC (-1 : Int32) dX0_sumWith_29 gz_km1 ?_
      refine gz_join (fun (j : Int32 → Option (Int32)) => ∀ (x9 : Int32), j x9 = some y → gz_go C 0 0 M [(0, .ref a0), (1, .int a1), (2, .int x1), (3, .int x2), (4, .int x6)] 49 [.int x9]) hF (fun x9 hF => ?_) (fun j49 hj49 hF => ?_)
      · skip
        refine gz_istore 49 hC [(5, .int x9), (0, .ref a0), (1, .int a1), (2, .int x1), (3, .int x2), (4, .int x6)] dX0_sumWith_49 (by decide) rfl ?_
        refine gz_iload_n 51 hC 3 dX0_sumWith_51 rfl rfl ?_
        refine gz_aload_n 52 hC 1 dX0_sumWith_52 rfl rfl ?_
        refine gz_getR 53 hC fl_X0_43 fk_0_9 dX0_sumWith_53 hF (fun x10 hF => ?_)
        refine gz_iload_n 56 hC 4 dX0_sumWith_56 rfl rfl ?_
        refine gz_iald 57 hC dX0_sumWith_57 hF (fun x11 hF => ?_)
        refine gz_iload 58 hC 0 dX0_sumWith_58 rfl ?_
        refine gz_join (fun (j : Int32 → Option (Int32)) => ∀ (x15 : Int32), j x15 = some y → gz_go C 0 0 M [(0, .ref a0), (1, .int a1), (3, .int x2)] 79 [.int x15, .int x11, .int x1]) hF (fun x15 hF => ?_) (fun j79 hj79 hF => ?_)
        · skip
          refine gz_imul 79 hC dX0_sumWith_79 ?_
          refine gz_iadd 80 hC dX0_sumWith_80 ?_
          refine gz_istore_n 81 hC [(2, .int (x1 + (x11 * x15))), (0, .ref a0), (1, .int a1), (3, .int x2)] dX0_sumWith_81 rfl (by decide) rfl ?_
          refine gz_iinc 82 hC (x2 + (1 : Int32)) 3 [(3, .int (x2 + (1 : Int32))), (2, .int (x1 + (x11 * x15))), (0, .ref a0), (1, .int a1)] dX0_sumWith_82 rfl rfl (by decide) rfl ?_
          refine gz_goto 85 4 hC dX0_sumWith_85 (by decide) ?_
          refine gz_sub [2, 3, 1, 0] [(0, .ref a0), (1, .int a1), (2, .int (x1 + (x11 * x15))), (3, .int (x2 + (1 : Int32)))] rfl ?_
          exact ih4 _ _ hF
        refine gz_if_eq 60 70 hC dX0_sumWith_60 (by decide) hF (fun hF => ?_) (fun hF => ?_)
        · skip
          refine gz_aload_n 70 hC 1 dX0_sumWith_70 rfl rfl ?_
          refine gz_getR 71 hC fl_X0_40 fk_0_8 dX0_sumWith_71 hF (fun x13 hF => ?_)
          refine gz_iload_n 74 hC 4 dX0_sumWith_74 rfl rfl ?_
          refine gz_iald 75 hC dX0_sumWith_75 hF (fun x14 hF => ?_)
          refine gz_iload 76 hC 5 dX0_sumWith_76 rfl ?_
          refine gz_iadd 78 hC dX0_sumWith_78 ?_
          refine gz_sub [1, 2, 4] [(0, .ref a0), (1, .int a1), (3, .int x2)] rfl ?_
          exact hj79 _ hF
        · skip
          refine gz_aload_n 63 hC 1 dX0_sumWith_63 rfl rfl ?_
          refine gz_getI 64 hC fl_X0_49 fk_0_11 dX0_sumWith_64 hF (fun x12 hF => ?_)
          refine gz_goto 67 79 hC dX0_sumWith_67 (by decide) ?_
          refine gz_sub [1, 2, 4] [(0, .ref a0), (1, .int a1), (3, .int x2)] rfl ?_
          exact hj79 _ hF
      refine gz_join (fun (j : Option (Int32)) => j = some y → gz_go C 0 0 M [(0, .ref a0), (1, .int a1), (2, .int x1), (3, .int x2), (4, .int x6)] 44 []) hF (fun hF => ?_) (fun j44 hj44 hF => ?_)
      · skip
        refine gz_iconst 44 hC (1 : Int32) dX0_sumWith_44 gz_k1 ?_
        refine gz_goto 45 49 hC dX0_sumWith_45 (by decide) ?_
        exact hj49 _ hF
      refine gz_icmp_eq 30 44 hC dX0_sumWith_30 (by decide) hF (fun hF => ?_) (fun hF => ?_)
      · skip
        refine gz_sub [1, 2, 3, 4, 0] [(0, .ref a0), (1, .int a1), (2, .int x1), (3, .int x2), (4, .int x6)] rfl ?_
        exact hj44 hF
      · skip
        refine gz_aload_n 33 hC 1 dX0_sumWith_33 rfl rfl ?_
        refine gz_getR 34 hC fl_X0_40 fk_0_8 dX0_sumWith_34 hF (fun x7 hF => ?_)
        refine gz_iload_n 37 hC 4 dX0_sumWith_37 rfl rfl ?_
        refine gz_iald 38 hC dX0_sumWith_38 hF (fun x8 hF => ?_)
        refine gz_ldc 39 hC dX0_sumWith_39 q_309 ?_
        refine gz_icmp_ne 41 48 hC dX0_sumWith_41 (by decide) hF (fun hF => ?_) (fun hF => ?_)
        · skip
          refine gz_iconst 48 hC (0 : Int32) dX0_sumWith_48 gz_k0 ?_
          refine gz_sub [1, 2, 3, 4, 0] [(0, .ref a0), (1, .int a1), (2, .int x1), (3, .int x2), (4, .int x6)] rfl ?_
          exact hj49 _ hF
        · skip
          refine gz_sub [1, 2, 3, 4, 0] [(0, .ref a0), (1, .int a1), (2, .int x1), (3, .int x2), (4, .int x6)] rfl ?_
          exact hj44 hF
set_option maxHeartbeats 4000000 in
theorem ct_X0_sumWith (l : Launch) (G : gz_G) (fu : Nat) (M : gz_M) (a0 : Nat) (a1 : Int32) (y : Int32) (hF : f_X0_sumWith fu M a0 a1 = some y) : gz_ct l yX0_sumWith cX0_sumWith 6 (some .int) 0 0 0 0 G [.ref a0, .int a1] M (some (.int y)) M := by
  refine gz_ct.of (by decide) (Nat.le_of_ble_eq_true rfl) (fun C hC hX => ?_)
  unfold f_X0_sumWith at hF
  obtain ⟨-, hF⟩ := gz_gd_some hF
  show gz_go C 0 0 M [(0, .ref a0), (1, .int a1)] 0 []
  refine gz_iconst 0 hC (0 : Int32) dX0_sumWith_0 gz_k0 ?_
  refine gz_istore_n 1 hC [(2, .int (0 : Int32)), (0, .ref a0), (1, .int a1)] dX0_sumWith_1 rfl (by decide) rfl ?_
  refine gz_iconst 2 hC (0 : Int32) dX0_sumWith_2 gz_k0 ?_
  refine gz_istore_n 3 hC [(3, .int (0 : Int32)), (2, .int (0 : Int32)), (0, .ref a0), (1, .int a1)] dX0_sumWith_3 rfl (by decide) rfl ?_
  refine gz_sub [2, 3, 1, 0] [(0, .ref a0), (1, .int a1), (2, .int (0 : Int32)), (3, .int (0 : Int32))] rfl ?_
  refine w_X0_sumWith_4 hC hX ?_ _ _ _ hF
  intro x16 hF
  refine gz_iload_n 88 hC 0 dX0_sumWith_88 rfl rfl ?_
  exact gz_iretP 89 hC hX dX0_sumWith_89 hF

theorem dX0_seekIn_0 : decode cX0_seekIn 0 = .ok (.aload_n 0, 1) := by decide +kernel
theorem dX0_seekIn_1 : decode cX0_seekIn 1 = .ok (.aload_n 1, 1) := by decide +kernel
theorem dX0_seekIn_2 : decode cX0_seekIn 2 = .ok (.invokevirtual 58, 3) := by decide +kernel
theorem dX0_seekIn_5 : decode cX0_seekIn 5 = .ok (.pop, 1) := by decide +kernel
theorem dX0_seekIn_6 : decode cX0_seekIn 6 = .ok (.aload_n 0, 1) := by decide +kernel
theorem dX0_seekIn_7 : decode cX0_seekIn 7 = .ok (.aload_n 1, 1) := by decide +kernel
theorem dX0_seekIn_8 : decode cX0_seekIn 8 = .ok (.invokevirtual 62, 3) := by decide +kernel
theorem dX0_seekIn_11 : decode cX0_seekIn 11 = .ok (.aload_n 0, 1) := by decide +kernel
theorem dX0_seekIn_12 : decode cX0_seekIn 12 = .ok (.iconst (-1), 1) := by decide +kernel
theorem dX0_seekIn_13 : decode cX0_seekIn 13 = .ok (.putfield 15, 3) := by decide +kernel
theorem dX0_seekIn_16 : decode cX0_seekIn 16 = .ok (.aload_n 0, 1) := by decide +kernel
theorem dX0_seekIn_17 : decode cX0_seekIn 17 = .ok (.ldc 19, 2) := by decide +kernel
theorem dX0_seekIn_19 : decode cX0_seekIn 19 = .ok (.putfield 20, 3) := by decide +kernel
theorem dX0_seekIn_22 : decode cX0_seekIn 22 = .ok (.iconst 0, 1) := by decide +kernel
theorem dX0_seekIn_23 : decode cX0_seekIn 23 = .ok (.istore_n 2, 1) := by decide +kernel
theorem dX0_seekIn_24 : decode cX0_seekIn 24 = .ok (.iconst 0, 1) := by decide +kernel
theorem dX0_seekIn_25 : decode cX0_seekIn 25 = .ok (.istore_n 3, 1) := by decide +kernel
theorem dX0_seekIn_26 : decode cX0_seekIn 26 = .ok (.iload_n 3, 1) := by decide +kernel
theorem dX0_seekIn_27 : decode cX0_seekIn 27 = .ok (.aload_n 0, 1) := by decide +kernel
theorem dX0_seekIn_28 : decode cX0_seekIn 28 = .ok (.getfield 31, 3) := by decide +kernel
theorem dX0_seekIn_31 : decode cX0_seekIn 31 = .ok (.iconst 0, 1) := by decide +kernel
theorem dX0_seekIn_32 : decode cX0_seekIn 32 = .ok (.iaload, 1) := by decide +kernel
theorem dX0_seekIn_33 : decode cX0_seekIn 33 = .ok (.if_icmp .ge 153, 3) := by decide +kernel
theorem dX0_seekIn_36 : decode cX0_seekIn 36 = .ok (.aload_n 0, 1) := by decide +kernel
theorem dX0_seekIn_37 : decode cX0_seekIn 37 = .ok (.iconst 0, 1) := by decide +kernel
theorem dX0_seekIn_38 : decode cX0_seekIn 38 = .ok (.iload_n 3, 1) := by decide +kernel
theorem dX0_seekIn_39 : decode cX0_seekIn 39 = .ok (.aload_n 0, 1) := by decide +kernel
theorem dX0_seekIn_40 : decode cX0_seekIn 40 = .ok (.getfield 34, 3) := by decide +kernel
theorem dX0_seekIn_43 : decode cX0_seekIn 43 = .ok (.aload_n 0, 1) := by decide +kernel
theorem dX0_seekIn_44 : decode cX0_seekIn 44 = .ok (.getfield 37, 3) := by decide +kernel
theorem dX0_seekIn_47 : decode cX0_seekIn 47 = .ok (.invokevirtual 66, 3) := by decide +kernel
theorem dX0_seekIn_50 : decode cX0_seekIn 50 = .ok (.iconst 0, 1) := by decide +kernel
theorem dX0_seekIn_51 : decode cX0_seekIn 51 = .ok (.istore 4, 2) := by decide +kernel
theorem dX0_seekIn_53 : decode cX0_seekIn 53 = .ok (.iload 4, 2) := by decide +kernel
theorem dX0_seekIn_55 : decode cX0_seekIn 55 = .ok (.aload_n 0, 1) := by decide +kernel
theorem dX0_seekIn_56 : decode cX0_seekIn 56 = .ok (.getfield 31, 3) := by decide +kernel
theorem dX0_seekIn_59 : decode cX0_seekIn 59 = .ok (.iconst 1, 1) := by decide +kernel
theorem dX0_seekIn_60 : decode cX0_seekIn 60 = .ok (.iaload, 1) := by decide +kernel
theorem dX0_seekIn_61 : decode cX0_seekIn 61 = .ok (.if_icmp .ge 119, 3) := by decide +kernel
theorem dX0_seekIn_64 : decode cX0_seekIn 64 = .ok (.aload_n 0, 1) := by decide +kernel
theorem dX0_seekIn_65 : decode cX0_seekIn 65 = .ok (.iconst 1, 1) := by decide +kernel
theorem dX0_seekIn_66 : decode cX0_seekIn 66 = .ok (.iload 4, 2) := by decide +kernel
theorem dX0_seekIn_68 : decode cX0_seekIn 68 = .ok (.aload_n 0, 1) := by decide +kernel
theorem dX0_seekIn_69 : decode cX0_seekIn 69 = .ok (.getfield 37, 3) := by decide +kernel
theorem dX0_seekIn_72 : decode cX0_seekIn 72 = .ok (.aload_n 0, 1) := by decide +kernel
theorem dX0_seekIn_73 : decode cX0_seekIn 73 = .ok (.getfield 40, 3) := by decide +kernel
theorem dX0_seekIn_76 : decode cX0_seekIn 76 = .ok (.invokevirtual 66, 3) := by decide +kernel
theorem dX0_seekIn_79 : decode cX0_seekIn 79 = .ok (.iconst 0, 1) := by decide +kernel
theorem dX0_seekIn_80 : decode cX0_seekIn 80 = .ok (.istore 5, 2) := by decide +kernel
theorem dX0_seekIn_82 : decode cX0_seekIn 82 = .ok (.iload 5, 2) := by decide +kernel
theorem dX0_seekIn_84 : decode cX0_seekIn 84 = .ok (.aload_n 0, 1) := by decide +kernel
theorem dX0_seekIn_85 : decode cX0_seekIn 85 = .ok (.getfield 31, 3) := by decide +kernel
theorem dX0_seekIn_88 : decode cX0_seekIn 88 = .ok (.iconst 2, 1) := by decide +kernel
theorem dX0_seekIn_89 : decode cX0_seekIn 89 = .ok (.iaload, 1) := by decide +kernel
theorem dX0_seekIn_90 : decode cX0_seekIn 90 = .ok (.if_icmp .ge 84, 3) := by decide +kernel
theorem dX0_seekIn_93 : decode cX0_seekIn 93 = .ok (.aload_n 0, 1) := by decide +kernel
theorem dX0_seekIn_94 : decode cX0_seekIn 94 = .ok (.iload 5, 2) := by decide +kernel
theorem dX0_seekIn_96 : decode cX0_seekIn 96 = .ok (.invokevirtual 70, 3) := by decide +kernel
theorem dX0_seekIn_99 : decode cX0_seekIn 99 = .ok (.istore 6, 2) := by decide +kernel
theorem dX0_seekIn_101 : decode cX0_seekIn 101 = .ok (.iload 6, 2) := by decide +kernel
theorem dX0_seekIn_103 : decode cX0_seekIn 103 = .ok (.aload_n 0, 1) := by decide +kernel
theorem dX0_seekIn_104 : decode cX0_seekIn 104 = .ok (.getfield 20, 3) := by decide +kernel
theorem dX0_seekIn_107 : decode cX0_seekIn 107 = .ok (.if_icmp .ge 58, 3) := by decide +kernel
theorem dX0_seekIn_110 : decode cX0_seekIn 110 = .ok (.aload_n 0, 1) := by decide +kernel
theorem dX0_seekIn_111 : decode cX0_seekIn 111 = .ok (.iload 6, 2) := by decide +kernel
theorem dX0_seekIn_113 : decode cX0_seekIn 113 = .ok (.putfield 20, 3) := by decide +kernel
theorem dX0_seekIn_116 : decode cX0_seekIn 116 = .ok (.aload_n 0, 1) := by decide +kernel
theorem dX0_seekIn_117 : decode cX0_seekIn 117 = .ok (.iload_n 2, 1) := by decide +kernel
theorem dX0_seekIn_118 : decode cX0_seekIn 118 = .ok (.putfield 15, 3) := by decide +kernel
theorem dX0_seekIn_121 : decode cX0_seekIn 121 = .ok (.aload_n 0, 1) := by decide +kernel
theorem dX0_seekIn_122 : decode cX0_seekIn 122 = .ok (.getfield 9, 3) := by decide +kernel
theorem dX0_seekIn_125 : decode cX0_seekIn 125 = .ok (.iconst 0, 1) := by decide +kernel
theorem dX0_seekIn_126 : decode cX0_seekIn 126 = .ok (.aload_n 0, 1) := by decide +kernel
theorem dX0_seekIn_127 : decode cX0_seekIn 127 = .ok (.getfield 25, 3) := by decide +kernel
theorem dX0_seekIn_130 : decode cX0_seekIn 130 = .ok (.iconst 0, 1) := by decide +kernel
theorem dX0_seekIn_131 : decode cX0_seekIn 131 = .ok (.aaload, 1) := by decide +kernel
theorem dX0_seekIn_132 : decode cX0_seekIn 132 = .ok (.iload_n 3, 1) := by decide +kernel
theorem dX0_seekIn_133 : decode cX0_seekIn 133 = .ok (.iaload, 1) := by decide +kernel
theorem dX0_seekIn_134 : decode cX0_seekIn 134 = .ok (.iastore, 1) := by decide +kernel
theorem dX0_seekIn_135 : decode cX0_seekIn 135 = .ok (.aload_n 0, 1) := by decide +kernel
theorem dX0_seekIn_136 : decode cX0_seekIn 136 = .ok (.getfield 9, 3) := by decide +kernel
theorem dX0_seekIn_139 : decode cX0_seekIn 139 = .ok (.iconst 1, 1) := by decide +kernel
theorem dX0_seekIn_140 : decode cX0_seekIn 140 = .ok (.aload_n 0, 1) := by decide +kernel
theorem dX0_seekIn_141 : decode cX0_seekIn 141 = .ok (.getfield 25, 3) := by decide +kernel
theorem dX0_seekIn_144 : decode cX0_seekIn 144 = .ok (.iconst 1, 1) := by decide +kernel
theorem dX0_seekIn_145 : decode cX0_seekIn 145 = .ok (.aaload, 1) := by decide +kernel
theorem dX0_seekIn_146 : decode cX0_seekIn 146 = .ok (.iload 4, 2) := by decide +kernel
theorem dX0_seekIn_148 : decode cX0_seekIn 148 = .ok (.iaload, 1) := by decide +kernel
theorem dX0_seekIn_149 : decode cX0_seekIn 149 = .ok (.iastore, 1) := by decide +kernel
theorem dX0_seekIn_150 : decode cX0_seekIn 150 = .ok (.aload_n 0, 1) := by decide +kernel
theorem dX0_seekIn_151 : decode cX0_seekIn 151 = .ok (.getfield 9, 3) := by decide +kernel
theorem dX0_seekIn_154 : decode cX0_seekIn 154 = .ok (.iconst 2, 1) := by decide +kernel
theorem dX0_seekIn_155 : decode cX0_seekIn 155 = .ok (.aload_n 0, 1) := by decide +kernel
theorem dX0_seekIn_156 : decode cX0_seekIn 156 = .ok (.getfield 25, 3) := by decide +kernel
theorem dX0_seekIn_159 : decode cX0_seekIn 159 = .ok (.iconst 2, 1) := by decide +kernel
theorem dX0_seekIn_160 : decode cX0_seekIn 160 = .ok (.aaload, 1) := by decide +kernel
theorem dX0_seekIn_161 : decode cX0_seekIn 161 = .ok (.iload 5, 2) := by decide +kernel
theorem dX0_seekIn_163 : decode cX0_seekIn 163 = .ok (.iaload, 1) := by decide +kernel
theorem dX0_seekIn_164 : decode cX0_seekIn 164 = .ok (.iastore, 1) := by decide +kernel
theorem dX0_seekIn_165 : decode cX0_seekIn 165 = .ok (.iinc 2 1, 3) := by decide +kernel
theorem dX0_seekIn_168 : decode cX0_seekIn 168 = .ok (.iinc 5 1, 3) := by decide +kernel
theorem dX0_seekIn_171 : decode cX0_seekIn 171 = .ok (.goto (-89), 3) := by decide +kernel
theorem dX0_seekIn_174 : decode cX0_seekIn 174 = .ok (.iinc 4 1, 3) := by decide +kernel
theorem dX0_seekIn_177 : decode cX0_seekIn 177 = .ok (.goto (-124), 3) := by decide +kernel
theorem dX0_seekIn_180 : decode cX0_seekIn 180 = .ok (.iinc 3 1, 3) := by decide +kernel
theorem dX0_seekIn_183 : decode cX0_seekIn 183 = .ok (.goto (-157), 3) := by decide +kernel
theorem dX0_seekIn_186 : decode cX0_seekIn 186 = .ok (.return_, 1) := by decide +kernel
def lp_X0_seekIn_82 (j174 : Int32 → gz_M → Option (gz_M)) (fu : Nat) (a0 : Nat) (x7 : Int32) (x15 : Int32) : Nat → Int32 → Int32 → gz_M → Option (gz_M)
  | 0, _, _, _ => none
  | n82 + 1, x22, x23, M24 =>
    (gz_gR M24 0 5 a0).bind fun x25 =>
    (gz_aI M24 x25 (2 : Int32)).bind fun x26 =>
    if x26 ≤ x23 then
      j174 x22 M24
    else
      (f_X0_sumWith fu M24 a0 x23).bind fun x27 =>
      (gz_gI M24 0 2 a0).bind fun x28 =>
      gz_jn (fun (M46 : gz_M) =>
      lp_X0_seekIn_82 j174 fu a0 x7 x15 n82 (x22 + (1 : Int32)) (x23 + (1 : Int32)) M46) fun j165 =>
      if x28 ≤ x27 then
        j165 M24
      else
        (gz_pI M24 0 2 a0 x27).bind fun M29 =>
        (gz_pI M29 0 1 a0 x22).bind fun M30 =>
        (gz_gR M30 0 0 a0).bind fun x31 =>
        (gz_gR M30 0 3 a0).bind fun x32 =>
        (gz_aR M30 x32 (0 : Int32)).bind fun x33 =>
        (gz_aI M30 x33 x7).bind fun x34 =>
        (gz_tI M30 x31 (0 : Int32) x34).bind fun M35 =>
        (gz_gR M35 0 0 a0).bind fun x36 =>
        (gz_gR M35 0 3 a0).bind fun x37 =>
        (gz_aR M35 x37 (1 : Int32)).bind fun x38 =>
        (gz_aI M35 x38 x15).bind fun x39 =>
        (gz_tI M35 x36 (1 : Int32) x39).bind fun M40 =>
        (gz_gR M40 0 0 a0).bind fun x41 =>
        (gz_gR M40 0 3 a0).bind fun x42 =>
        (gz_aR M40 x42 (2 : Int32)).bind fun x43 =>
        (gz_aI M40 x43 x23).bind fun x44 =>
        (gz_tI M40 x41 (2 : Int32) x44).bind fun M45 =>
        j165 M45
def lp_X0_seekIn_53 (j180 : Int32 → gz_M → Option (gz_M)) (fu : Nat) (a0 : Nat) (x7 : Int32) : Nat → Int32 → Int32 → gz_M → Option (gz_M)
  | 0, _, _, _ => none
  | n53 + 1, x14, x15, M16 =>
    (gz_gR M16 0 5 a0).bind fun x17 =>
    (gz_aI M16 x17 (1 : Int32)).bind fun x18 =>
    if x18 ≤ x15 then
      j180 x14 M16
    else
      (gz_gR M16 0 7 a0).bind fun x19 =>
      (gz_gR M16 0 8 a0).bind fun x20 =>
      (f_X0_addShares fu M16 a0 (1 : Int32) x15 x19 x20).bind fun M21 =>
      lp_X0_seekIn_82 (fun (x47 : Int32) (M48 : gz_M) => lp_X0_seekIn_53 j180 fu a0 x7 n53 x47 (x15 + (1 : Int32)) M48) fu a0 x7 x15 fu x14 (0 : Int32) M21
def lp_X0_seekIn_26 (j186 : gz_M → Option (gz_M)) (fu : Nat) (a0 : Nat) : Nat → Int32 → Int32 → gz_M → Option (gz_M)
  | 0, _, _, _ => none
  | n26 + 1, x6, x7, M8 =>
    (gz_gR M8 0 5 a0).bind fun x9 =>
    (gz_aI M8 x9 (0 : Int32)).bind fun x10 =>
    if x10 ≤ x7 then
      j186 M8
    else
      (gz_gR M8 0 6 a0).bind fun x11 =>
      (gz_gR M8 0 7 a0).bind fun x12 =>
      (f_X0_addShares fu M8 a0 (0 : Int32) x7 x11 x12).bind fun M13 =>
      lp_X0_seekIn_53 (fun (x49 : Int32) (M50 : gz_M) => lp_X0_seekIn_26 j186 fu a0 n26 x49 (x7 + (1 : Int32)) M50) fu a0 x7 fu x6 (0 : Int32) M13
def f_X0_seekIn (fu : Nat) (M : gz_M) (a0 : Nat) (a1 : Nat) : Option (gz_M) :=
  gz_gd M 0 a0 <|
  gz_b2 (f_X0_countIn fu M a0 a1) fun x1 M2 =>
  (f_X0_readFeet fu M2 a0 a1).bind fun M3 =>
  (gz_pI M3 0 1 a0 (-1 : Int32)).bind fun M4 =>
  (gz_pI M4 0 2 a0 (2147483647 : Int32)).bind fun M5 =>
  lp_X0_seekIn_26 (fun (M51 : gz_M) => some M51) fu a0 fu (0 : Int32) (0 : Int32) M5
set_option maxHeartbeats 4000000 in
theorem w_X0_seekIn_82 {C : gz_C} {y : gz_M} {fu : Nat} {a0 : Nat} {x7 : Int32} {x15 : Int32} {j174 : Int32 → gz_M → Option (gz_M)} (hC : gz_ok C cX0_seekIn RX0 7) (hX : gz_cx C 4 92 0 0 none none y "seekIn") (hj174 : ∀ (x47 : Int32) (M48 : gz_M), j174 x47 M48 = some y → gz_go C 0 0 M48 [(0, .ref a0), (2, .int x47), (3, .int x7), (4, .int x15)] 174 []) : ∀ (n : Nat) (x22 : Int32) (x23 : Int32) (M24 : gz_M), lp_X0_seekIn_82 j174 fu a0 x7 x15 n x22 x23 M24 = some y → gz_go C 0 0 M24 [(0, .ref a0), (2, .int x22), (3, .int x7), (4, .int x15), (5, .int x23)] 82 [] := by
  intro n
  induction n with
  | zero => intro x22 x23 M24 hF; exact nomatch (show (none : Option (gz_M)) = some y from hF)
  | succ n82 ih82 =>
    intro x22 x23 M24 hF
    rw [lp_X0_seekIn_82.eq_2] at hF
    refine gz_iload 82 hC 4 dX0_seekIn_82 rfl ?_
    refine gz_aload_n 84 hC 0 dX0_seekIn_84 rfl rfl ?_
    refine gz_getR 85 hC fl_X0_31 fk_0_5 dX0_seekIn_85 hF (fun x25 hF => ?_)
    refine gz_iconst 88 hC (2 : Int32) dX0_seekIn_88 gz_k2 ?_
    refine gz_iald 89 hC dX0_seekIn_89 hF (fun x26 hF => ?_)
    refine gz_icmp_ge 90 174 hC dX0_seekIn_90 (by decide) hF (fun hF => ?_) (fun hF => ?_)
    · skip
      refine gz_sub [0, 1, 2, 3] [(0, .ref a0), (2, .int x22), (3, .int x7), (4, .int x15)] rfl ?_
      exact hj174 _ _ hF
    · skip
      refine gz_aload_n 93 hC 0 dX0_seekIn_93 rfl rfl ?_
      refine gz_iload 94 hC 4 dX0_seekIn_94 rfl ?_
      refine gz_cvP (st := []) 96 hC hX [.int x23] Value.int yl_X0_sumWith yv_X0_sumWith q_968 ⟨Nat.le_of_ble_eq_true rfl, Nat.le_of_ble_eq_true rfl⟩ ⟨_, rfl⟩ (fun r h => ct_X0_sumWith _ _ fu M24 a0 x23 r h) rfl rfl (Nat.le_of_ble_eq_true rfl) dX0_seekIn_96 gz_00 hF (fun x27 hF => ?_)
      refine gz_istore 99 hC [(6, .int x27), (0, .ref a0), (2, .int x22), (3, .int x7), (4, .int x15), (5, .int x23)] dX0_seekIn_99 (by decide) rfl ?_
      refine gz_iload 101 hC 0 dX0_seekIn_101 rfl ?_
      refine gz_aload_n 103 hC 1 dX0_seekIn_103 rfl rfl ?_
      refine gz_getI 104 hC fl_X0_20 fk_0_2 dX0_seekIn_104 hF (fun x28 hF => ?_)
      refine gz_join (fun (j : gz_M → Option (gz_M)) => ∀ (M46 : gz_M), j M46 = some y → gz_go C 0 0 M46 [(0, .ref a0), (2, .int x22), (3, .int x7), (4, .int x15), (5, .int x23)] 165 []) hF (fun M46 hF => ?_) (fun j165 hj165 hF => ?_)
      · skip
        refine gz_iinc 165 hC (x22 + (1 : Int32)) 1 [(2, .int (x22 + (1 : Int32))), (0, .ref a0), (3, .int x7), (4, .int x15), (5, .int x23)] dX0_seekIn_165 rfl rfl (by decide) rfl ?_
        refine gz_iinc 168 hC (x23 + (1 : Int32)) 4 [(5, .int (x23 + (1 : Int32))), (2, .int (x22 + (1 : Int32))), (0, .ref a0), (3, .int x7), (4, .int x15)] dX0_seekIn_168 rfl rfl (by decide) rfl ?_
        refine gz_goto 171 82 hC dX0_seekIn_171 (by decide) ?_
        refine gz_sub [2, 1, 3, 4, 0] [(0, .ref a0), (2, .int (x22 + (1 : Int32))), (3, .int x7), (4, .int x15), (5, .int (x23 + (1 : Int32)))] rfl ?_
        exact ih82 _ _ _ hF
      refine gz_icmp_ge 107 165 hC dX0_seekIn_107 (by decide) hF (fun hF => ?_) (fun hF => ?_)
      · skip
        refine gz_sub [1, 2, 3, 4, 5] [(0, .ref a0), (2, .int x22), (3, .int x7), (4, .int x15), (5, .int x23)] rfl ?_
        exact hj165 _ hF
      · skip
        refine gz_aload_n 110 hC 1 dX0_seekIn_110 rfl rfl ?_
        refine gz_iload 111 hC 0 dX0_seekIn_111 rfl ?_
        refine gz_putI 113 hC fl_X0_20 fk_0_2 dX0_seekIn_113 hF (fun M29 hF => ?_)
        refine gz_aload_n 116 hC 1 dX0_seekIn_116 rfl rfl ?_
        refine gz_iload_n 117 hC 2 dX0_seekIn_117 rfl rfl ?_
        refine gz_putI 118 hC fl_X0_15 fk_0_1 dX0_seekIn_118 hF (fun M30 hF => ?_)
        refine gz_aload_n 121 hC 1 dX0_seekIn_121 rfl rfl ?_
        refine gz_getR 122 hC fl_X0_9 fk_0_0 dX0_seekIn_122 hF (fun x31 hF => ?_)
        refine gz_iconst 125 hC (0 : Int32) dX0_seekIn_125 gz_k0 ?_
        refine gz_aload_n 126 hC 1 dX0_seekIn_126 rfl rfl ?_
        refine gz_getR 127 hC fl_X0_25 fk_0_3 dX0_seekIn_127 hF (fun x32 hF => ?_)
        refine gz_iconst 130 hC (0 : Int32) dX0_seekIn_130 gz_k0 ?_
        refine gz_aald 131 hC dX0_seekIn_131 hF (fun x33 hF => ?_)
        refine gz_iload_n 132 hC 3 dX0_seekIn_132 rfl rfl ?_
        refine gz_iald 133 hC dX0_seekIn_133 hF (fun x34 hF => ?_)
        refine gz_iast 134 hC dX0_seekIn_134 hF (fun M35 hF => ?_)
        refine gz_aload_n 135 hC 1 dX0_seekIn_135 rfl rfl ?_
        refine gz_getR 136 hC fl_X0_9 fk_0_0 dX0_seekIn_136 hF (fun x36 hF => ?_)
        refine gz_iconst 139 hC (1 : Int32) dX0_seekIn_139 gz_k1 ?_
        refine gz_aload_n 140 hC 1 dX0_seekIn_140 rfl rfl ?_
        refine gz_getR 141 hC fl_X0_25 fk_0_3 dX0_seekIn_141 hF (fun x37 hF => ?_)
        refine gz_iconst 144 hC (1 : Int32) dX0_seekIn_144 gz_k1 ?_
        refine gz_aald 145 hC dX0_seekIn_145 hF (fun x38 hF => ?_)
        refine gz_iload 146 hC 4 dX0_seekIn_146 rfl ?_
        refine gz_iald 148 hC dX0_seekIn_148 hF (fun x39 hF => ?_)
        refine gz_iast 149 hC dX0_seekIn_149 hF (fun M40 hF => ?_)
        refine gz_aload_n 150 hC 1 dX0_seekIn_150 rfl rfl ?_
        refine gz_getR 151 hC fl_X0_9 fk_0_0 dX0_seekIn_151 hF (fun x41 hF => ?_)
        refine gz_iconst 154 hC (2 : Int32) dX0_seekIn_154 gz_k2 ?_
        refine gz_aload_n 155 hC 1 dX0_seekIn_155 rfl rfl ?_
        refine gz_getR 156 hC fl_X0_25 fk_0_3 dX0_seekIn_156 hF (fun x42 hF => ?_)
        refine gz_iconst 159 hC (2 : Int32) dX0_seekIn_159 gz_k2 ?_
        refine gz_aald 160 hC dX0_seekIn_160 hF (fun x43 hF => ?_)
        refine gz_iload 161 hC 5 dX0_seekIn_161 rfl ?_
        refine gz_iald 163 hC dX0_seekIn_163 hF (fun x44 hF => ?_)
        refine gz_iast 164 hC dX0_seekIn_164 hF (fun M45 hF => ?_)
        refine gz_sub [1, 2, 3, 4, 5] [(0, .ref a0), (2, .int x22), (3, .int x7), (4, .int x15), (5, .int x23)] rfl ?_
        exact hj165 _ hF
set_option maxHeartbeats 4000000 in
theorem w_X0_seekIn_53 {C : gz_C} {y : gz_M} {fu : Nat} {a0 : Nat} {x7 : Int32} {j180 : Int32 → gz_M → Option (gz_M)} (hC : gz_ok C cX0_seekIn RX0 7) (hX : gz_cx C 4 92 0 0 none none y "seekIn") (hj180 : ∀ (x49 : Int32) (M50 : gz_M), j180 x49 M50 = some y → gz_go C 0 0 M50 [(0, .ref a0), (2, .int x49), (3, .int x7)] 180 []) : ∀ (n : Nat) (x14 : Int32) (x15 : Int32) (M16 : gz_M), lp_X0_seekIn_53 j180 fu a0 x7 n x14 x15 M16 = some y → gz_go C 0 0 M16 [(0, .ref a0), (2, .int x14), (3, .int x7), (4, .int x15)] 53 [] := by
  intro n
  induction n with
  | zero => intro x14 x15 M16 hF; exact nomatch (show (none : Option (gz_M)) = some y from hF)
  | succ n53 ih53 =>
    intro x14 x15 M16 hF
    rw [lp_X0_seekIn_53.eq_2] at hF
    refine gz_iload 53 hC 3 dX0_seekIn_53 rfl ?_
    refine gz_aload_n 55 hC 0 dX0_seekIn_55 rfl rfl ?_
    refine gz_getR 56 hC fl_X0_31 fk_0_5 dX0_seekIn_56 hF (fun x17 hF => ?_)
    refine gz_iconst 59 hC (1 : Int32) dX0_seekIn_59 gz_k1 ?_
    refine gz_iald 60 hC dX0_seekIn_60 hF (fun x18 hF => ?_)
    refine gz_icmp_ge 61 180 hC dX0_seekIn_61 (by decide) hF (fun hF => ?_) (fun hF => ?_)
    · skip
      refine gz_sub [0, 1, 2] [(0, .ref a0), (2, .int x14), (3, .int x7)] rfl ?_
      exact hj180 _ _ hF
    · skip
      refine gz_aload_n 64 hC 0 dX0_seekIn_64 rfl rfl ?_
      refine gz_iconst 65 hC (1 : Int32) dX0_seekIn_65 gz_k1 ?_
      refine gz_iload 66 hC 3 dX0_seekIn_66 rfl ?_
      refine gz_aload_n 68 hC 0 dX0_seekIn_68 rfl rfl ?_
      refine gz_getR 69 hC fl_X0_37 fk_0_7 dX0_seekIn_69 hF (fun x19 hF => ?_)
      refine gz_aload_n 72 hC 0 dX0_seekIn_72 rfl rfl ?_
      refine gz_getR 73 hC fl_X0_40 fk_0_8 dX0_seekIn_73 hF (fun x20 hF => ?_)
      refine gz_cvV (st := []) 76 hC hX [.int (1 : Int32), .int x15, .ref x19, .ref x20] yl_X0_addShares yv_X0_addShares q_964 ⟨Nat.le_of_ble_eq_true rfl, Nat.le_of_ble_eq_true rfl⟩ ⟨_, rfl⟩ (fun r h => ct_X0_addShares _ _ fu M16 a0 (1 : Int32) x15 x19 x20 r h) rfl rfl (Nat.le_of_ble_eq_true rfl) dX0_seekIn_76 gz_00 hF (fun M21 hF => ?_)
      refine gz_iconst 79 hC (0 : Int32) dX0_seekIn_79 gz_k0 ?_
      refine gz_istore 80 hC [(5, .int (0 : Int32)), (0, .ref a0), (2, .int x14), (3, .int x7), (4, .int x15)] dX0_seekIn_80 (by decide) rfl ?_
      refine gz_sub [1, 2, 3, 4, 0] [(0, .ref a0), (2, .int x14), (3, .int x7), (4, .int x15), (5, .int (0 : Int32))] rfl ?_
      refine w_X0_seekIn_82 hC hX ?_ _ _ _ _ hF
      intro x47 M48 hF
      refine gz_iinc 174 hC (x15 + (1 : Int32)) 3 [(4, .int (x15 + (1 : Int32))), (0, .ref a0), (2, .int x47), (3, .int x7)] dX0_seekIn_174 rfl rfl (by decide) rfl ?_
      refine gz_goto 177 53 hC dX0_seekIn_177 (by decide) ?_
      refine gz_sub [1, 2, 3, 0] [(0, .ref a0), (2, .int x47), (3, .int x7), (4, .int (x15 + (1 : Int32)))] rfl ?_
      exact ih53 _ _ _ hF
set_option maxHeartbeats 4000000 in
theorem w_X0_seekIn_26 {C : gz_C} {y : gz_M} {fu : Nat} {a0 : Nat} {j186 : gz_M → Option (gz_M)} (hC : gz_ok C cX0_seekIn RX0 7) (hX : gz_cx C 4 92 0 0 none none y "seekIn") (hj186 : ∀ (M51 : gz_M), j186 M51 = some y → gz_go C 0 0 M51 [] 186 []) : ∀ (n : Nat) (x6 : Int32) (x7 : Int32) (M8 : gz_M), lp_X0_seekIn_26 j186 fu a0 n x6 x7 M8 = some y → gz_go C 0 0 M8 [(0, .ref a0), (2, .int x6), (3, .int x7)] 26 [] := by
  intro n
  induction n with
  | zero => intro x6 x7 M8 hF; exact nomatch (show (none : Option (gz_M)) = some y from hF)
  | succ n26 ih26 =>
    intro x6 x7 M8 hF
    rw [lp_X0_seekIn_26.eq_2] at hF
    refine gz_iload_n 26 hC 2 dX0_seekIn_26 rfl rfl ?_
    refine gz_aload_n 27 hC 0 dX0_seekIn_27 rfl rfl ?_
    refine gz_getR 28 hC fl_X0_31 fk_0_5 dX0_seekIn_28 hF (fun x9 hF => ?_)
    refine gz_iconst 31 hC (0 : Int32) dX0_seekIn_31 gz_k0 ?_
    refine gz_iald 32 hC dX0_seekIn_32 hF (fun x10 hF => ?_)
    refine gz_icmp_ge 33 186 hC dX0_seekIn_33 (by decide) hF (fun hF => ?_) (fun hF => ?_)
    · skip
      refine gz_sub [] [] rfl ?_
      exact hj186 _ hF
    · skip
      refine gz_aload_n 36 hC 0 dX0_seekIn_36 rfl rfl ?_
      refine gz_iconst 37 hC (0 : Int32) dX0_seekIn_37 gz_k0 ?_
      refine gz_iload_n 38 hC 2 dX0_seekIn_38 rfl rfl ?_
      refine gz_aload_n 39 hC 0 dX0_seekIn_39 rfl rfl ?_
      refine gz_getR 40 hC fl_X0_34 fk_0_6 dX0_seekIn_40 hF (fun x11 hF => ?_)
      refine gz_aload_n 43 hC 0 dX0_seekIn_43 rfl rfl ?_
      refine gz_getR 44 hC fl_X0_37 fk_0_7 dX0_seekIn_44 hF (fun x12 hF => ?_)
      refine gz_cvV (st := []) 47 hC hX [.int (0 : Int32), .int x7, .ref x11, .ref x12] yl_X0_addShares yv_X0_addShares q_964 ⟨Nat.le_of_ble_eq_true rfl, Nat.le_of_ble_eq_true rfl⟩ ⟨_, rfl⟩ (fun r h => ct_X0_addShares _ _ fu M8 a0 (0 : Int32) x7 x11 x12 r h) rfl rfl (Nat.le_of_ble_eq_true rfl) dX0_seekIn_47 gz_00 hF (fun M13 hF => ?_)
      refine gz_iconst 50 hC (0 : Int32) dX0_seekIn_50 gz_k0 ?_
      refine gz_istore 51 hC [(4, .int (0 : Int32)), (0, .ref a0), (2, .int x6), (3, .int x7)] dX0_seekIn_51 (by decide) rfl ?_
      refine gz_sub [1, 2, 3, 0] [(0, .ref a0), (2, .int x6), (3, .int x7), (4, .int (0 : Int32))] rfl ?_
      refine w_X0_seekIn_53 hC hX ?_ _ _ _ _ hF
      intro x49 M50 hF
      refine gz_iinc 180 hC (x7 + (1 : Int32)) 2 [(3, .int (x7 + (1 : Int32))), (0, .ref a0), (2, .int x49)] dX0_seekIn_180 rfl rfl (by decide) rfl ?_
      refine gz_goto 183 26 hC dX0_seekIn_183 (by decide) ?_
      refine gz_sub [1, 2, 0] [(0, .ref a0), (2, .int x49), (3, .int (x7 + (1 : Int32)))] rfl ?_
      exact ih26 _ _ _ hF
set_option maxHeartbeats 4000000 in
theorem ct_X0_seekIn (l : Launch) (G : gz_G) (fu : Nat) (M : gz_M) (a0 : Nat) (a1 : Nat) (y : gz_M) (hF : f_X0_seekIn fu M a0 a1 = some y) : gz_ct l yX0_seekIn cX0_seekIn 7 none 4 92 0 0 G [.ref a0, .ref a1] M none y := by
  refine gz_ct.of (by decide) (Nat.le_of_ble_eq_true rfl) (fun C hC hX => ?_)
  unfold f_X0_seekIn at hF
  obtain ⟨-, hF⟩ := gz_gd_some hF
  show gz_go C 0 0 M [(0, .ref a0), (1, .ref a1)] 0 []
  refine gz_aload_n 0 hC 0 dX0_seekIn_0 rfl rfl ?_
  refine gz_aload_n 1 hC 1 dX0_seekIn_1 rfl rfl ?_
  refine gz_cvM (st := []) 2 hC hX [.ref a1] Value.int yl_X0_countIn yv_X0_countIn q_957 ⟨Nat.le_of_ble_eq_true rfl, Nat.le_of_ble_eq_true rfl⟩ ⟨_, rfl⟩ (fun r h => ct_X0_countIn _ _ fu M a0 a1 r h) rfl rfl (Nat.le_of_ble_eq_true rfl) dX0_seekIn_2 gz_00 hF (fun x1 M2 hF => ?_)
  refine gz_pop 5 hC dX0_seekIn_5 rfl ?_
  refine gz_aload_n 6 hC 0 dX0_seekIn_6 rfl rfl ?_
  refine gz_aload_n 7 hC 1 dX0_seekIn_7 rfl rfl ?_
  refine gz_cvV (st := []) 8 hC hX [.ref a1] yl_X0_readFeet yv_X0_readFeet q_958 ⟨Nat.le_of_ble_eq_true rfl, Nat.le_of_ble_eq_true rfl⟩ ⟨_, rfl⟩ (fun r h => ct_X0_readFeet _ _ fu M2 a0 a1 r h) rfl rfl (Nat.le_of_ble_eq_true rfl) dX0_seekIn_8 gz_00 hF (fun M3 hF => ?_)
  refine gz_aload_n 11 hC 0 dX0_seekIn_11 rfl rfl ?_
  refine gz_iconst 12 hC (-1 : Int32) dX0_seekIn_12 gz_km1 ?_
  refine gz_putI 13 hC fl_X0_15 fk_0_1 dX0_seekIn_13 hF (fun M4 hF => ?_)
  refine gz_aload_n 16 hC 0 dX0_seekIn_16 rfl rfl ?_
  refine gz_ldc 17 hC dX0_seekIn_17 q_309 ?_
  refine gz_putI 19 hC fl_X0_20 fk_0_2 dX0_seekIn_19 hF (fun M5 hF => ?_)
  refine gz_iconst 22 hC (0 : Int32) dX0_seekIn_22 gz_k0 ?_
  refine gz_istore_n 23 hC [(2, .int (0 : Int32)), (0, .ref a0), (1, .ref a1)] dX0_seekIn_23 rfl (by decide) rfl ?_
  refine gz_iconst 24 hC (0 : Int32) dX0_seekIn_24 gz_k0 ?_
  refine gz_istore_n 25 hC [(3, .int (0 : Int32)), (2, .int (0 : Int32)), (0, .ref a0), (1, .ref a1)] dX0_seekIn_25 rfl (by decide) rfl ?_
  refine gz_sub [2, 1, 0] [(0, .ref a0), (2, .int (0 : Int32)), (3, .int (0 : Int32))] rfl ?_
  refine w_X0_seekIn_26 hC hX ?_ _ _ _ _ hF
  intro M51 hF
  exact gz_vretM 186 hC hX dX0_seekIn_186 hF

theorem dX7_takeFrom_0 : decode cX7_takeFrom 0 = .ok (.aload_n 0, 1) := by decide +kernel
theorem dX7_takeFrom_1 : decode cX7_takeFrom 1 = .ok (.aload_n 1, 1) := by decide +kernel
theorem dX7_takeFrom_2 : decode cX7_takeFrom 2 = .ok (.getfield 24, 3) := by decide +kernel
theorem dX7_takeFrom_5 : decode cX7_takeFrom 5 = .ok (.putfield 24, 3) := by decide +kernel
theorem dX7_takeFrom_8 : decode cX7_takeFrom 8 = .ok (.aload_n 0, 1) := by decide +kernel
theorem dX7_takeFrom_9 : decode cX7_takeFrom 9 = .ok (.aload_n 1, 1) := by decide +kernel
theorem dX7_takeFrom_10 : decode cX7_takeFrom 10 = .ok (.getfield 28, 3) := by decide +kernel
theorem dX7_takeFrom_13 : decode cX7_takeFrom 13 = .ok (.putfield 28, 3) := by decide +kernel
theorem dX7_takeFrom_16 : decode cX7_takeFrom 16 = .ok (.aload_n 0, 1) := by decide +kernel
theorem dX7_takeFrom_17 : decode cX7_takeFrom 17 = .ok (.aload_n 1, 1) := by decide +kernel
theorem dX7_takeFrom_18 : decode cX7_takeFrom 18 = .ok (.getfield 31, 3) := by decide +kernel
theorem dX7_takeFrom_21 : decode cX7_takeFrom 21 = .ok (.putfield 31, 3) := by decide +kernel
theorem dX7_takeFrom_24 : decode cX7_takeFrom 24 = .ok (.aload_n 0, 1) := by decide +kernel
theorem dX7_takeFrom_25 : decode cX7_takeFrom 25 = .ok (.aload_n 1, 1) := by decide +kernel
theorem dX7_takeFrom_26 : decode cX7_takeFrom 26 = .ok (.getfield 34, 3) := by decide +kernel
theorem dX7_takeFrom_29 : decode cX7_takeFrom 29 = .ok (.putfield 34, 3) := by decide +kernel
theorem dX7_takeFrom_32 : decode cX7_takeFrom 32 = .ok (.aload_n 1, 1) := by decide +kernel
theorem dX7_takeFrom_33 : decode cX7_takeFrom 33 = .ok (.getfield 9, 3) := by decide +kernel
theorem dX7_takeFrom_36 : decode cX7_takeFrom 36 = .ok (.iconst 0, 1) := by decide +kernel
theorem dX7_takeFrom_37 : decode cX7_takeFrom 37 = .ok (.aload_n 0, 1) := by decide +kernel
theorem dX7_takeFrom_38 : decode cX7_takeFrom 38 = .ok (.getfield 9, 3) := by decide +kernel
theorem dX7_takeFrom_41 : decode cX7_takeFrom 41 = .ok (.iconst 0, 1) := by decide +kernel
theorem dX7_takeFrom_42 : decode cX7_takeFrom 42 = .ok (.aload_n 0, 1) := by decide +kernel
theorem dX7_takeFrom_43 : decode cX7_takeFrom 43 = .ok (.getfield 24, 3) := by decide +kernel
theorem dX7_takeFrom_46 : decode cX7_takeFrom 46 = .ok (.iconst 5, 1) := by decide +kernel
theorem dX7_takeFrom_47 : decode cX7_takeFrom 47 = .ok (.imul, 1) := by decide +kernel
theorem dX7_takeFrom_48 : decode cX7_takeFrom 48 = .ok (.invokestatic 43, 3) := by decide +kernel
theorem dX7_takeFrom_51 : decode cX7_takeFrom 51 = .ok (.aload_n 1, 1) := by decide +kernel
theorem dX7_takeFrom_52 : decode cX7_takeFrom 52 = .ok (.getfield 15, 3) := by decide +kernel
theorem dX7_takeFrom_55 : decode cX7_takeFrom 55 = .ok (.iconst 0, 1) := by decide +kernel
theorem dX7_takeFrom_56 : decode cX7_takeFrom 56 = .ok (.aload_n 0, 1) := by decide +kernel
theorem dX7_takeFrom_57 : decode cX7_takeFrom 57 = .ok (.getfield 15, 3) := by decide +kernel
theorem dX7_takeFrom_60 : decode cX7_takeFrom 60 = .ok (.iconst 0, 1) := by decide +kernel
theorem dX7_takeFrom_61 : decode cX7_takeFrom 61 = .ok (.aload_n 0, 1) := by decide +kernel
theorem dX7_takeFrom_62 : decode cX7_takeFrom 62 = .ok (.getfield 28, 3) := by decide +kernel
theorem dX7_takeFrom_65 : decode cX7_takeFrom 65 = .ok (.iconst 4, 1) := by decide +kernel
theorem dX7_takeFrom_66 : decode cX7_takeFrom 66 = .ok (.imul, 1) := by decide +kernel
theorem dX7_takeFrom_67 : decode cX7_takeFrom 67 = .ok (.invokestatic 43, 3) := by decide +kernel
theorem dX7_takeFrom_70 : decode cX7_takeFrom 70 = .ok (.aload_n 1, 1) := by decide +kernel
theorem dX7_takeFrom_71 : decode cX7_takeFrom 71 = .ok (.getfield 18, 3) := by decide +kernel
theorem dX7_takeFrom_74 : decode cX7_takeFrom 74 = .ok (.iconst 0, 1) := by decide +kernel
theorem dX7_takeFrom_75 : decode cX7_takeFrom 75 = .ok (.aload_n 0, 1) := by decide +kernel
theorem dX7_takeFrom_76 : decode cX7_takeFrom 76 = .ok (.getfield 18, 3) := by decide +kernel
theorem dX7_takeFrom_79 : decode cX7_takeFrom 79 = .ok (.iconst 0, 1) := by decide +kernel
theorem dX7_takeFrom_80 : decode cX7_takeFrom 80 = .ok (.iconst 3, 1) := by decide +kernel
theorem dX7_takeFrom_81 : decode cX7_takeFrom 81 = .ok (.invokestatic 43, 3) := by decide +kernel
theorem dX7_takeFrom_84 : decode cX7_takeFrom 84 = .ok (.aload_n 1, 1) := by decide +kernel
theorem dX7_takeFrom_85 : decode cX7_takeFrom 85 = .ok (.getfield 21, 3) := by decide +kernel
theorem dX7_takeFrom_88 : decode cX7_takeFrom 88 = .ok (.iconst 0, 1) := by decide +kernel
theorem dX7_takeFrom_89 : decode cX7_takeFrom 89 = .ok (.aload_n 0, 1) := by decide +kernel
theorem dX7_takeFrom_90 : decode cX7_takeFrom 90 = .ok (.getfield 21, 3) := by decide +kernel
theorem dX7_takeFrom_93 : decode cX7_takeFrom 93 = .ok (.iconst 0, 1) := by decide +kernel
theorem dX7_takeFrom_94 : decode cX7_takeFrom 94 = .ok (.iconst 3, 1) := by decide +kernel
theorem dX7_takeFrom_95 : decode cX7_takeFrom 95 = .ok (.invokestatic 43, 3) := by decide +kernel
theorem dX7_takeFrom_98 : decode cX7_takeFrom 98 = .ok (.return_, 1) := by decide +kernel

def f_X7_takeFrom (fu : Nat) (M : gz_M) (a0 : Nat) (a1 : Nat) : Option (gz_M) :=
  gz_gd M 7 a0 <|
  (gz_gI M 7 4 a1).bind fun x1 =>
  (gz_pI M 7 4 a0 x1).bind fun M2 =>
  (gz_gI M2 7 5 a1).bind fun x3 =>
  (gz_pI M2 7 5 a0 x3).bind fun M4 =>
  (gz_gI M4 7 6 a1).bind fun x5 =>
  (gz_pI M4 7 6 a0 x5).bind fun M6 =>
  (gz_gI M6 7 7 a1).bind fun x7 =>
  (gz_pI M6 7 7 a0 x7).bind fun M8 =>
  (gz_gR M8 7 0 a1).bind fun x9 =>
  (gz_gR M8 7 0 a0).bind fun x10 =>
  (gz_gI M8 7 4 a0).bind fun x11 =>
  (gz_cpI M8 x9 (0 : Int32) x10 (0 : Int32) (x11 * (5 : Int32))).bind fun M12 =>
  (gz_gR M12 7 1 a1).bind fun x13 =>
  (gz_gR M12 7 1 a0).bind fun x14 =>
  (gz_gI M12 7 5 a0).bind fun x15 =>
  (gz_cpI M12 x13 (0 : Int32) x14 (0 : Int32) (x15 * (4 : Int32))).bind fun M16 =>
  (gz_gR M16 7 2 a1).bind fun x17 =>
  (gz_gR M16 7 2 a0).bind fun x18 =>
  (gz_cpI M16 x17 (0 : Int32) x18 (0 : Int32) (3 : Int32)).bind fun M19 =>
  (gz_gR M19 7 3 a1).bind fun x20 =>
  (gz_gR M19 7 3 a0).bind fun x21 =>
  (gz_cpI M19 x20 (0 : Int32) x21 (0 : Int32) (3 : Int32)).bind fun M22 =>
  some M22

set_option maxHeartbeats 4000000 in
theorem ct_X7_takeFrom (l : Launch) (G : gz_G) (fu : Nat) (M : gz_M) (a0 : Nat) (a1 : Nat) (y : gz_M) (hF : f_X7_takeFrom fu M a0 a1 = some y) : gz_ct l yX7_takeFrom cX7_takeFrom 2 none 1 26 0 0 G [.ref a0, .ref a1] M none y := by
  refine gz_ct.of (by decide) (Nat.le_of_ble_eq_true rfl) (fun C hC hX => ?_)
  unfold f_X7_takeFrom at hF
  obtain ⟨-, hF⟩ := gz_gd_some hF
  show gz_go C 0 0 M [(0, .ref a0), (1, .ref a1)] 0 []
  refine gz_aload_n 0 hC 0 dX7_takeFrom_0 rfl rfl ?_
  refine gz_aload_n 1 hC 1 dX7_takeFrom_1 rfl rfl ?_
  refine gz_getI 2 hC fl_X7_24 fk_7_4 dX7_takeFrom_2 hF (fun x1 hF => ?_)
  refine gz_putI 5 hC fl_X7_24 fk_7_4 dX7_takeFrom_5 hF (fun M2 hF => ?_)
  refine gz_aload_n 8 hC 0 dX7_takeFrom_8 rfl rfl ?_
  refine gz_aload_n 9 hC 1 dX7_takeFrom_9 rfl rfl ?_
  refine gz_getI 10 hC fl_X7_28 fk_7_5 dX7_takeFrom_10 hF (fun x3 hF => ?_)
  refine gz_putI 13 hC fl_X7_28 fk_7_5 dX7_takeFrom_13 hF (fun M4 hF => ?_)
  refine gz_aload_n 16 hC 0 dX7_takeFrom_16 rfl rfl ?_
  refine gz_aload_n 17 hC 1 dX7_takeFrom_17 rfl rfl ?_
  refine gz_getI 18 hC fl_X7_31 fk_7_6 dX7_takeFrom_18 hF (fun x5 hF => ?_)
  refine gz_putI 21 hC fl_X7_31 fk_7_6 dX7_takeFrom_21 hF (fun M6 hF => ?_)
  refine gz_aload_n 24 hC 0 dX7_takeFrom_24 rfl rfl ?_
  refine gz_aload_n 25 hC 1 dX7_takeFrom_25 rfl rfl ?_
  refine gz_getI 26 hC fl_X7_34 fk_7_7 dX7_takeFrom_26 hF (fun x7 hF => ?_)
  refine gz_putI 29 hC fl_X7_34 fk_7_7 dX7_takeFrom_29 hF (fun M8 hF => ?_)
  refine gz_aload_n 32 hC 1 dX7_takeFrom_32 rfl rfl ?_
  refine gz_getR 33 hC fl_X7_9 fk_7_0 dX7_takeFrom_33 hF (fun x9 hF => ?_)
  refine gz_iconst 36 hC (0 : Int32) dX7_takeFrom_36 gz_k0 ?_
  refine gz_aload_n 37 hC 0 dX7_takeFrom_37 rfl rfl ?_
  refine gz_getR 38 hC fl_X7_9 fk_7_0 dX7_takeFrom_38 hF (fun x10 hF => ?_)
  refine gz_iconst 41 hC (0 : Int32) dX7_takeFrom_41 gz_k0 ?_
  refine gz_aload_n 42 hC 0 dX7_takeFrom_42 rfl rfl ?_
  refine gz_getI 43 hC fl_X7_24 fk_7_4 dX7_takeFrom_43 hF (fun x11 hF => ?_)
  refine gz_iconst 46 hC (5 : Int32) dX7_takeFrom_46 gz_k5 ?_
  refine gz_imul 47 hC dX7_takeFrom_47 ?_
  refine gz_acpI 48 hC hX q_1017 ⟨Nat.le_of_ble_eq_true rfl, Nat.le_of_ble_eq_true rfl⟩ dX7_takeFrom_48 hF (fun M12 hF => ?_)
  refine gz_aload_n 51 hC 1 dX7_takeFrom_51 rfl rfl ?_
  refine gz_getR 52 hC fl_X7_15 fk_7_1 dX7_takeFrom_52 hF (fun x13 hF => ?_)
  refine gz_iconst 55 hC (0 : Int32) dX7_takeFrom_55 gz_k0 ?_
  refine gz_aload_n 56 hC 0 dX7_takeFrom_56 rfl rfl ?_
  refine gz_getR 57 hC fl_X7_15 fk_7_1 dX7_takeFrom_57 hF (fun x14 hF => ?_)
  refine gz_iconst 60 hC (0 : Int32) dX7_takeFrom_60 gz_k0 ?_
  refine gz_aload_n 61 hC 0 dX7_takeFrom_61 rfl rfl ?_
  refine gz_getI 62 hC fl_X7_28 fk_7_5 dX7_takeFrom_62 hF (fun x15 hF => ?_)
  refine gz_iconst 65 hC (4 : Int32) dX7_takeFrom_65 gz_k4 ?_
  refine gz_imul 66 hC dX7_takeFrom_66 ?_
  refine gz_acpI 67 hC hX q_1017 ⟨Nat.le_of_ble_eq_true rfl, Nat.le_of_ble_eq_true rfl⟩ dX7_takeFrom_67 hF (fun M16 hF => ?_)
  refine gz_aload_n 70 hC 1 dX7_takeFrom_70 rfl rfl ?_
  refine gz_getR 71 hC fl_X7_18 fk_7_2 dX7_takeFrom_71 hF (fun x17 hF => ?_)
  refine gz_iconst 74 hC (0 : Int32) dX7_takeFrom_74 gz_k0 ?_
  refine gz_aload_n 75 hC 0 dX7_takeFrom_75 rfl rfl ?_
  refine gz_getR 76 hC fl_X7_18 fk_7_2 dX7_takeFrom_76 hF (fun x18 hF => ?_)
  refine gz_iconst 79 hC (0 : Int32) dX7_takeFrom_79 gz_k0 ?_
  refine gz_iconst 80 hC (3 : Int32) dX7_takeFrom_80 gz_k3 ?_
  refine gz_acpI 81 hC hX q_1017 ⟨Nat.le_of_ble_eq_true rfl, Nat.le_of_ble_eq_true rfl⟩ dX7_takeFrom_81 hF (fun M19 hF => ?_)
  refine gz_aload_n 84 hC 1 dX7_takeFrom_84 rfl rfl ?_
  refine gz_getR 85 hC fl_X7_21 fk_7_3 dX7_takeFrom_85 hF (fun x20 hF => ?_)
  refine gz_iconst 88 hC (0 : Int32) dX7_takeFrom_88 gz_k0 ?_
  refine gz_aload_n 89 hC 0 dX7_takeFrom_89 rfl rfl ?_
  refine gz_getR 90 hC fl_X7_21 fk_7_3 dX7_takeFrom_90 hF (fun x21 hF => ?_)
  refine gz_iconst 93 hC (0 : Int32) dX7_takeFrom_93 gz_k0 ?_
  refine gz_iconst 94 hC (3 : Int32) dX7_takeFrom_94 gz_k3 ?_
  refine gz_acpI 95 hC hX q_1017 ⟨Nat.le_of_ble_eq_true rfl, Nat.le_of_ble_eq_true rfl⟩ dX7_takeFrom_95 hF (fun M22 hF => ?_)
  exact gz_vretM 98 hC hX dX7_takeFrom_98 hF

theorem dX1_start_0 : decode cX1_start 0 = .ok (.aload_n 0, 1) := by decide +kernel
theorem dX1_start_1 : decode cX1_start 1 = .ok (.getfield 12, 3) := by decide +kernel
theorem dX1_start_4 : decode cX1_start 4 = .ok (.aload_n 1, 1) := by decide +kernel
theorem dX1_start_5 : decode cX1_start 5 = .ok (.invokevirtual 38, 3) := by decide +kernel
theorem dX1_start_8 : decode cX1_start 8 = .ok (.aload_n 0, 1) := by decide +kernel
theorem dX1_start_9 : decode cX1_start 9 = .ok (.iconst 1, 1) := by decide +kernel
theorem dX1_start_10 : decode cX1_start 10 = .ok (.putfield 18, 3) := by decide +kernel
theorem dX1_start_13 : decode cX1_start 13 = .ok (.aload_n 0, 1) := by decide +kernel
theorem dX1_start_14 : decode cX1_start 14 = .ok (.iload_n 2, 1) := by decide +kernel
theorem dX1_start_15 : decode cX1_start 15 = .ok (.putfield 22, 3) := by decide +kernel
theorem dX1_start_18 : decode cX1_start 18 = .ok (.aload_n 0, 1) := by decide +kernel
theorem dX1_start_19 : decode cX1_start 19 = .ok (.iload_n 3, 1) := by decide +kernel
theorem dX1_start_20 : decode cX1_start 20 = .ok (.putfield 26, 3) := by decide +kernel
theorem dX1_start_23 : decode cX1_start 23 = .ok (.aload_n 0, 1) := by decide +kernel
theorem dX1_start_24 : decode cX1_start 24 = .ok (.iconst 0, 1) := by decide +kernel
theorem dX1_start_25 : decode cX1_start 25 = .ok (.putfield 29, 3) := by decide +kernel
theorem dX1_start_28 : decode cX1_start 28 = .ok (.aload_n 0, 1) := by decide +kernel
theorem dX1_start_29 : decode cX1_start 29 = .ok (.iconst (-1), 1) := by decide +kernel
theorem dX1_start_30 : decode cX1_start 30 = .ok (.putfield 32, 3) := by decide +kernel
theorem dX1_start_33 : decode cX1_start 33 = .ok (.aload_n 0, 1) := by decide +kernel
theorem dX1_start_34 : decode cX1_start 34 = .ok (.iconst (-1), 1) := by decide +kernel
theorem dX1_start_35 : decode cX1_start 35 = .ok (.putfield 35, 3) := by decide +kernel
theorem dX1_start_38 : decode cX1_start 38 = .ok (.return_, 1) := by decide +kernel

def f_X1_start (fu : Nat) (M : gz_M) (a0 : Nat) (a1 : Nat) (a2 : Int32) (a3 : Int32) : Option (gz_M) :=
  gz_gd M 1 a0 <|
  (gz_gR M 1 0 a0).bind fun x1 =>
  (f_X7_takeFrom fu M x1 a1).bind fun M2 =>
  (gz_pZ M2 1 1 a0 (1 : Int32)).bind fun M3 =>
  (gz_pI M3 1 2 a0 a2).bind fun M4 =>
  (gz_pI M4 1 3 a0 a3).bind fun M5 =>
  (gz_pI M5 1 4 a0 (0 : Int32)).bind fun M6 =>
  (gz_pI M6 1 5 a0 (-1 : Int32)).bind fun M7 =>
  (gz_pI M7 1 6 a0 (-1 : Int32)).bind fun M8 =>
  some M8

set_option maxHeartbeats 4000000 in
theorem ct_X1_start (l : Launch) (G : gz_G) (fu : Nat) (M : gz_M) (a0 : Nat) (a1 : Nat) (a2 : Int32) (a3 : Int32) (y : gz_M) (hF : f_X1_start fu M a0 a1 a2 a3 = some y) : gz_ct l yX1_start cX1_start 4 none 2 47 0 0 G [.ref a0, .ref a1, .int a2, .int a3] M none y := by
  refine gz_ct.of (by decide) (Nat.le_of_ble_eq_true rfl) (fun C hC hX => ?_)
  unfold f_X1_start at hF
  obtain ⟨-, hF⟩ := gz_gd_some hF
  show gz_go C 0 0 M [(0, .ref a0), (1, .ref a1), (2, .int a2), (3, .int a3)] 0 []
  refine gz_aload_n 0 hC 0 dX1_start_0 rfl rfl ?_
  refine gz_getR 1 hC fl_X1_12 fk_1_0 dX1_start_1 hF (fun x1 hF => ?_)
  refine gz_aload_n 4 hC 1 dX1_start_4 rfl rfl ?_
  refine gz_cvV (st := []) 5 hC hX [.ref a1] yl_X7_takeFrom yv_X7_takeFrom q_1013 ⟨Nat.le_of_ble_eq_true rfl, Nat.le_of_ble_eq_true rfl⟩ ⟨_, rfl⟩ (fun r h => ct_X7_takeFrom _ _ fu M x1 a1 r h) rfl rfl (Nat.le_of_ble_eq_true rfl) dX1_start_5 gz_00 hF (fun M2 hF => ?_)
  refine gz_aload_n 8 hC 0 dX1_start_8 rfl rfl ?_
  refine gz_iconst 9 hC (1 : Int32) dX1_start_9 gz_k1 ?_
  refine gz_putZ 10 hC fl_X1_18 fk_1_1 dX1_start_10 hF (fun M3 hF => ?_)
  refine gz_aload_n 13 hC 0 dX1_start_13 rfl rfl ?_
  refine gz_iload_n 14 hC 2 dX1_start_14 rfl rfl ?_
  refine gz_putI 15 hC fl_X1_22 fk_1_2 dX1_start_15 hF (fun M4 hF => ?_)
  refine gz_aload_n 18 hC 0 dX1_start_18 rfl rfl ?_
  refine gz_iload_n 19 hC 3 dX1_start_19 rfl rfl ?_
  refine gz_putI 20 hC fl_X1_26 fk_1_3 dX1_start_20 hF (fun M5 hF => ?_)
  refine gz_aload_n 23 hC 0 dX1_start_23 rfl rfl ?_
  refine gz_iconst 24 hC (0 : Int32) dX1_start_24 gz_k0 ?_
  refine gz_putI 25 hC fl_X1_29 fk_1_4 dX1_start_25 hF (fun M6 hF => ?_)
  refine gz_aload_n 28 hC 0 dX1_start_28 rfl rfl ?_
  refine gz_iconst 29 hC (-1 : Int32) dX1_start_29 gz_km1 ?_
  refine gz_putI 30 hC fl_X1_32 fk_1_5 dX1_start_30 hF (fun M7 hF => ?_)
  refine gz_aload_n 33 hC 0 dX1_start_33 rfl rfl ?_
  refine gz_iconst 34 hC (-1 : Int32) dX1_start_34 gz_km1 ?_
  refine gz_putI 35 hC fl_X1_35 fk_1_6 dX1_start_35 hF (fun M8 hF => ?_)
  exact gz_vretM 38 hC hX dX1_start_38 hF

theorem dX1_takeFrom_0 : decode cX1_takeFrom 0 = .ok (.aload_n 0, 1) := by decide +kernel
theorem dX1_takeFrom_1 : decode cX1_takeFrom 1 = .ok (.getfield 12, 3) := by decide +kernel
theorem dX1_takeFrom_4 : decode cX1_takeFrom 4 = .ok (.aload_n 1, 1) := by decide +kernel
theorem dX1_takeFrom_5 : decode cX1_takeFrom 5 = .ok (.getfield 12, 3) := by decide +kernel
theorem dX1_takeFrom_8 : decode cX1_takeFrom 8 = .ok (.invokevirtual 38, 3) := by decide +kernel
theorem dX1_takeFrom_11 : decode cX1_takeFrom 11 = .ok (.aload_n 0, 1) := by decide +kernel
theorem dX1_takeFrom_12 : decode cX1_takeFrom 12 = .ok (.aload_n 1, 1) := by decide +kernel
theorem dX1_takeFrom_13 : decode cX1_takeFrom 13 = .ok (.getfield 18, 3) := by decide +kernel
theorem dX1_takeFrom_16 : decode cX1_takeFrom 16 = .ok (.putfield 18, 3) := by decide +kernel
theorem dX1_takeFrom_19 : decode cX1_takeFrom 19 = .ok (.aload_n 0, 1) := by decide +kernel
theorem dX1_takeFrom_20 : decode cX1_takeFrom 20 = .ok (.aload_n 1, 1) := by decide +kernel
theorem dX1_takeFrom_21 : decode cX1_takeFrom 21 = .ok (.getfield 22, 3) := by decide +kernel
theorem dX1_takeFrom_24 : decode cX1_takeFrom 24 = .ok (.putfield 22, 3) := by decide +kernel
theorem dX1_takeFrom_27 : decode cX1_takeFrom 27 = .ok (.aload_n 0, 1) := by decide +kernel
theorem dX1_takeFrom_28 : decode cX1_takeFrom 28 = .ok (.aload_n 1, 1) := by decide +kernel
theorem dX1_takeFrom_29 : decode cX1_takeFrom 29 = .ok (.getfield 26, 3) := by decide +kernel
theorem dX1_takeFrom_32 : decode cX1_takeFrom 32 = .ok (.putfield 26, 3) := by decide +kernel
theorem dX1_takeFrom_35 : decode cX1_takeFrom 35 = .ok (.aload_n 0, 1) := by decide +kernel
theorem dX1_takeFrom_36 : decode cX1_takeFrom 36 = .ok (.aload_n 1, 1) := by decide +kernel
theorem dX1_takeFrom_37 : decode cX1_takeFrom 37 = .ok (.getfield 29, 3) := by decide +kernel
theorem dX1_takeFrom_40 : decode cX1_takeFrom 40 = .ok (.putfield 29, 3) := by decide +kernel
theorem dX1_takeFrom_43 : decode cX1_takeFrom 43 = .ok (.aload_n 0, 1) := by decide +kernel
theorem dX1_takeFrom_44 : decode cX1_takeFrom 44 = .ok (.aload_n 1, 1) := by decide +kernel
theorem dX1_takeFrom_45 : decode cX1_takeFrom 45 = .ok (.getfield 32, 3) := by decide +kernel
theorem dX1_takeFrom_48 : decode cX1_takeFrom 48 = .ok (.putfield 32, 3) := by decide +kernel
theorem dX1_takeFrom_51 : decode cX1_takeFrom 51 = .ok (.aload_n 0, 1) := by decide +kernel
theorem dX1_takeFrom_52 : decode cX1_takeFrom 52 = .ok (.aload_n 1, 1) := by decide +kernel
theorem dX1_takeFrom_53 : decode cX1_takeFrom 53 = .ok (.getfield 35, 3) := by decide +kernel
theorem dX1_takeFrom_56 : decode cX1_takeFrom 56 = .ok (.putfield 35, 3) := by decide +kernel
theorem dX1_takeFrom_59 : decode cX1_takeFrom 59 = .ok (.return_, 1) := by decide +kernel

def f_X1_takeFrom (fu : Nat) (M : gz_M) (a0 : Nat) (a1 : Nat) : Option (gz_M) :=
  gz_gd M 1 a0 <|
  (gz_gR M 1 0 a0).bind fun x1 =>
  (gz_gR M 1 0 a1).bind fun x2 =>
  (f_X7_takeFrom fu M x1 x2).bind fun M3 =>
  (gz_gI M3 1 1 a1).bind fun x4 =>
  (gz_pZ M3 1 1 a0 x4).bind fun M5 =>
  (gz_gI M5 1 2 a1).bind fun x6 =>
  (gz_pI M5 1 2 a0 x6).bind fun M7 =>
  (gz_gI M7 1 3 a1).bind fun x8 =>
  (gz_pI M7 1 3 a0 x8).bind fun M9 =>
  (gz_gI M9 1 4 a1).bind fun x10 =>
  (gz_pI M9 1 4 a0 x10).bind fun M11 =>
  (gz_gI M11 1 5 a1).bind fun x12 =>
  (gz_pI M11 1 5 a0 x12).bind fun M13 =>
  (gz_gI M13 1 6 a1).bind fun x14 =>
  (gz_pI M13 1 6 a0 x14).bind fun M15 =>
  some M15

set_option maxHeartbeats 4000000 in
theorem ct_X1_takeFrom (l : Launch) (G : gz_G) (fu : Nat) (M : gz_M) (a0 : Nat) (a1 : Nat) (y : gz_M) (hF : f_X1_takeFrom fu M a0 a1 = some y) : gz_ct l yX1_takeFrom cX1_takeFrom 2 none 2 47 0 0 G [.ref a0, .ref a1] M none y := by
  refine gz_ct.of (by decide) (Nat.le_of_ble_eq_true rfl) (fun C hC hX => ?_)
  unfold f_X1_takeFrom at hF
  obtain ⟨-, hF⟩ := gz_gd_some hF
  show gz_go C 0 0 M [(0, .ref a0), (1, .ref a1)] 0 []
  refine gz_aload_n 0 hC 0 dX1_takeFrom_0 rfl rfl ?_
  refine gz_getR 1 hC fl_X1_12 fk_1_0 dX1_takeFrom_1 hF (fun x1 hF => ?_)
  refine gz_aload_n 4 hC 1 dX1_takeFrom_4 rfl rfl ?_
  refine gz_getR 5 hC fl_X1_12 fk_1_0 dX1_takeFrom_5 hF (fun x2 hF => ?_)
  refine gz_cvV (st := []) 8 hC hX [.ref x2] yl_X7_takeFrom yv_X7_takeFrom q_1013 ⟨Nat.le_of_ble_eq_true rfl, Nat.le_of_ble_eq_true rfl⟩ ⟨_, rfl⟩ (fun r h => ct_X7_takeFrom _ _ fu M x1 x2 r h) rfl rfl (Nat.le_of_ble_eq_true rfl) dX1_takeFrom_8 gz_00 hF (fun M3 hF => ?_)
  refine gz_aload_n 11 hC 0 dX1_takeFrom_11 rfl rfl ?_
  refine gz_aload_n 12 hC 1 dX1_takeFrom_12 rfl rfl ?_
  refine gz_getI 13 hC fl_X1_18 fk_1_1 dX1_takeFrom_13 hF (fun x4 hF => ?_)
  refine gz_putZ 16 hC fl_X1_18 fk_1_1 dX1_takeFrom_16 hF (fun M5 hF => ?_)
  refine gz_aload_n 19 hC 0 dX1_takeFrom_19 rfl rfl ?_
  refine gz_aload_n 20 hC 1 dX1_takeFrom_20 rfl rfl ?_
  refine gz_getI 21 hC fl_X1_22 fk_1_2 dX1_takeFrom_21 hF (fun x6 hF => ?_)
  refine gz_putI 24 hC fl_X1_22 fk_1_2 dX1_takeFrom_24 hF (fun M7 hF => ?_)
  refine gz_aload_n 27 hC 0 dX1_takeFrom_27 rfl rfl ?_
  refine gz_aload_n 28 hC 1 dX1_takeFrom_28 rfl rfl ?_
  refine gz_getI 29 hC fl_X1_26 fk_1_3 dX1_takeFrom_29 hF (fun x8 hF => ?_)
  refine gz_putI 32 hC fl_X1_26 fk_1_3 dX1_takeFrom_32 hF (fun M9 hF => ?_)
  refine gz_aload_n 35 hC 0 dX1_takeFrom_35 rfl rfl ?_
  refine gz_aload_n 36 hC 1 dX1_takeFrom_36 rfl rfl ?_
  refine gz_getI 37 hC fl_X1_29 fk_1_4 dX1_takeFrom_37 hF (fun x10 hF => ?_)
  refine gz_putI 40 hC fl_X1_29 fk_1_4 dX1_takeFrom_40 hF (fun M11 hF => ?_)
  refine gz_aload_n 43 hC 0 dX1_takeFrom_43 rfl rfl ?_
  refine gz_aload_n 44 hC 1 dX1_takeFrom_44 rfl rfl ?_
  refine gz_getI 45 hC fl_X1_32 fk_1_5 dX1_takeFrom_45 hF (fun x12 hF => ?_)
  refine gz_putI 48 hC fl_X1_32 fk_1_5 dX1_takeFrom_48 hF (fun M13 hF => ?_)
  refine gz_aload_n 51 hC 0 dX1_takeFrom_51 rfl rfl ?_
  refine gz_aload_n 52 hC 1 dX1_takeFrom_52 rfl rfl ?_
  refine gz_getI 53 hC fl_X1_35 fk_1_6 dX1_takeFrom_53 hF (fun x14 hF => ?_)
  refine gz_putI 56 hC fl_X1_35 fk_1_6 dX1_takeFrom_56 hF (fun M15 hF => ?_)
  exact gz_vretM 59 hC hX dX1_takeFrom_59 hF

theorem dX1_sets_0 : decode cX1_sets 0 = .ok (.iconst 1, 1) := by decide +kernel
theorem dX1_sets_1 : decode cX1_sets 1 = .ok (.aload_n 0, 1) := by decide +kernel
theorem dX1_sets_2 : decode cX1_sets 2 = .ok (.getfield 12, 3) := by decide +kernel
theorem dX1_sets_5 : decode cX1_sets 5 = .ok (.getfield 42, 3) := by decide +kernel
theorem dX1_sets_8 : decode cX1_sets 8 = .ok (.ishl, 1) := by decide +kernel
theorem dX1_sets_9 : decode cX1_sets 9 = .ok (.ireturn, 1) := by decide +kernel

def f_X1_sets (fu : Nat) (M : gz_M) (a0 : Nat) : Option (Int32) :=
  gz_gd M 1 a0 <|
  (gz_gR M 1 0 a0).bind fun x1 =>
  (gz_gI M 7 5 x1).bind fun x2 =>
  some ((1 : Int32) <<< (x2 &&& 31))

set_option maxHeartbeats 4000000 in
theorem ct_X1_sets (l : Launch) (G : gz_G) (fu : Nat) (M : gz_M) (a0 : Nat) (y : Int32) (hF : f_X1_sets fu M a0 = some y) : gz_ct l yX1_sets cX1_sets 1 (some .int) 0 0 0 0 G [.ref a0] M (some (.int y)) M := by
  refine gz_ct.of (by decide) (Nat.le_of_ble_eq_true rfl) (fun C hC hX => ?_)
  unfold f_X1_sets at hF
  obtain ⟨-, hF⟩ := gz_gd_some hF
  show gz_go C 0 0 M [(0, .ref a0)] 0 []
  refine gz_iconst 0 hC (1 : Int32) dX1_sets_0 gz_k1 ?_
  refine gz_aload_n 1 hC 0 dX1_sets_1 rfl rfl ?_
  refine gz_getR 2 hC fl_X1_12 fk_1_0 dX1_sets_2 hF (fun x1 hF => ?_)
  refine gz_getI 5 hC fl_X1_42 fk_7_5 dX1_sets_5 hF (fun x2 hF => ?_)
  refine gz_ishl 8 hC dX1_sets_8 ?_
  exact gz_iretP 9 hC hX dX1_sets_9 hF

theorem dX1_isDone_0 : decode cX1_isDone 0 = .ok (.aload_n 0, 1) := by decide +kernel
theorem dX1_isDone_1 : decode cX1_isDone 1 = .ok (.getfield 29, 3) := by decide +kernel
theorem dX1_isDone_4 : decode cX1_isDone 4 = .ok (.aload_n 0, 1) := by decide +kernel
theorem dX1_isDone_5 : decode cX1_isDone 5 = .ok (.invokevirtual 45, 3) := by decide +kernel
theorem dX1_isDone_8 : decode cX1_isDone 8 = .ok (.if_icmp .lt 7, 3) := by decide +kernel
theorem dX1_isDone_11 : decode cX1_isDone 11 = .ok (.iconst 1, 1) := by decide +kernel
theorem dX1_isDone_12 : decode cX1_isDone 12 = .ok (.goto 4, 3) := by decide +kernel
theorem dX1_isDone_15 : decode cX1_isDone 15 = .ok (.iconst 0, 1) := by decide +kernel
theorem dX1_isDone_16 : decode cX1_isDone 16 = .ok (.ireturn, 1) := by decide +kernel

def f_X1_isDone (fu : Nat) (M : gz_M) (a0 : Nat) : Option (Int32) :=
  gz_gd M 1 a0 <|
  (gz_gI M 1 4 a0).bind fun x1 =>
  (f_X1_sets fu M a0).bind fun x2 =>
  gz_jn (fun (x3 : Int32) =>
  gz_z x3 (some x3)) fun j16 =>
  if x1 < x2 then
    j16 (0 : Int32)
  else
    j16 (1 : Int32)

set_option maxHeartbeats 4000000 in
theorem ct_X1_isDone (l : Launch) (G : gz_G) (fu : Nat) (M : gz_M) (a0 : Nat) (y : Int32) (hF : f_X1_isDone fu M a0 = some y) : gz_ct l yX1_isDone cX1_isDone 1 (some .boolean) 1 20 0 0 G [.ref a0] M (some (.int y)) M := by
  refine gz_ct.of (by decide) (Nat.le_of_ble_eq_true rfl) (fun C hC hX => ?_)
  unfold f_X1_isDone at hF
  obtain ⟨-, hF⟩ := gz_gd_some hF
  show gz_go C 0 0 M [(0, .ref a0)] 0 []
  refine gz_aload_n 0 hC 0 dX1_isDone_0 rfl rfl ?_
  refine gz_getI 1 hC fl_X1_29 fk_1_4 dX1_isDone_1 hF (fun x1 hF => ?_)
  refine gz_aload_n 4 hC 0 dX1_isDone_4 rfl rfl ?_
  refine gz_cvP (st := [.int x1]) 5 hC hX [] Value.int yl_X1_sets yv_X1_sets q_1030 ⟨Nat.le_of_ble_eq_true rfl, Nat.le_of_ble_eq_true rfl⟩ ⟨_, rfl⟩ (fun r h => ct_X1_sets _ _ fu M a0 r h) rfl rfl (Nat.le_of_ble_eq_true rfl) dX1_isDone_5 gz_00 hF (fun x2 hF => ?_)
  refine gz_join (fun (j : Int32 → Option (Int32)) => ∀ (x3 : Int32), j x3 = some y → gz_go C 0 0 M [] 16 [.int x3]) hF (fun x3 hF => ?_) (fun j16 hj16 hF => ?_)
  · skip
    exact gz_zretP 16 hC hX dX1_isDone_16 hF
  refine gz_icmp_lt 8 15 hC dX1_isDone_8 (by decide) hF (fun hF => ?_) (fun hF => ?_)
  · skip
    refine gz_iconst 15 hC (0 : Int32) dX1_isDone_15 gz_k0 ?_
    refine gz_sub [] [] rfl ?_
    exact hj16 _ hF
  · skip
    refine gz_iconst 11 hC (1 : Int32) dX1_isDone_11 gz_k1 ?_
    refine gz_goto 12 16 hC dX1_isDone_12 (by decide) ?_
    refine gz_sub [] [] rfl ?_
    exact hj16 _ hF

theorem dJ6_bitCount_0f7a4_0 : decode cJ6_bitCount_0f7a4 0 = .ok (.iload_n 0, 1) := by decide +kernel
theorem dJ6_bitCount_0f7a4_1 : decode cJ6_bitCount_0f7a4 1 = .ok (.iload_n 0, 1) := by decide +kernel
theorem dJ6_bitCount_0f7a4_2 : decode cJ6_bitCount_0f7a4 2 = .ok (.iconst 1, 1) := by decide +kernel
theorem dJ6_bitCount_0f7a4_3 : decode cJ6_bitCount_0f7a4 3 = .ok (.iushr, 1) := by decide +kernel
theorem dJ6_bitCount_0f7a4_4 : decode cJ6_bitCount_0f7a4 4 = .ok (.ldc_w 265, 3) := by decide +kernel
theorem dJ6_bitCount_0f7a4_7 : decode cJ6_bitCount_0f7a4 7 = .ok (.iand, 1) := by decide +kernel
theorem dJ6_bitCount_0f7a4_8 : decode cJ6_bitCount_0f7a4 8 = .ok (.isub, 1) := by decide +kernel
theorem dJ6_bitCount_0f7a4_9 : decode cJ6_bitCount_0f7a4 9 = .ok (.istore_n 0, 1) := by decide +kernel
theorem dJ6_bitCount_0f7a4_10 : decode cJ6_bitCount_0f7a4 10 = .ok (.iload_n 0, 1) := by decide +kernel
theorem dJ6_bitCount_0f7a4_11 : decode cJ6_bitCount_0f7a4 11 = .ok (.ldc_w 266, 3) := by decide +kernel
theorem dJ6_bitCount_0f7a4_14 : decode cJ6_bitCount_0f7a4 14 = .ok (.iand, 1) := by decide +kernel
theorem dJ6_bitCount_0f7a4_15 : decode cJ6_bitCount_0f7a4 15 = .ok (.iload_n 0, 1) := by decide +kernel
theorem dJ6_bitCount_0f7a4_16 : decode cJ6_bitCount_0f7a4 16 = .ok (.iconst 2, 1) := by decide +kernel
theorem dJ6_bitCount_0f7a4_17 : decode cJ6_bitCount_0f7a4 17 = .ok (.iushr, 1) := by decide +kernel
theorem dJ6_bitCount_0f7a4_18 : decode cJ6_bitCount_0f7a4 18 = .ok (.ldc_w 266, 3) := by decide +kernel
theorem dJ6_bitCount_0f7a4_21 : decode cJ6_bitCount_0f7a4 21 = .ok (.iand, 1) := by decide +kernel
theorem dJ6_bitCount_0f7a4_22 : decode cJ6_bitCount_0f7a4 22 = .ok (.iadd, 1) := by decide +kernel
theorem dJ6_bitCount_0f7a4_23 : decode cJ6_bitCount_0f7a4 23 = .ok (.istore_n 0, 1) := by decide +kernel
theorem dJ6_bitCount_0f7a4_24 : decode cJ6_bitCount_0f7a4 24 = .ok (.iload_n 0, 1) := by decide +kernel
theorem dJ6_bitCount_0f7a4_25 : decode cJ6_bitCount_0f7a4 25 = .ok (.iload_n 0, 1) := by decide +kernel
theorem dJ6_bitCount_0f7a4_26 : decode cJ6_bitCount_0f7a4 26 = .ok (.iconst 4, 1) := by decide +kernel
theorem dJ6_bitCount_0f7a4_27 : decode cJ6_bitCount_0f7a4 27 = .ok (.iushr, 1) := by decide +kernel
theorem dJ6_bitCount_0f7a4_28 : decode cJ6_bitCount_0f7a4 28 = .ok (.iadd, 1) := by decide +kernel
theorem dJ6_bitCount_0f7a4_29 : decode cJ6_bitCount_0f7a4 29 = .ok (.ldc_w 267, 3) := by decide +kernel
theorem dJ6_bitCount_0f7a4_32 : decode cJ6_bitCount_0f7a4 32 = .ok (.iand, 1) := by decide +kernel
theorem dJ6_bitCount_0f7a4_33 : decode cJ6_bitCount_0f7a4 33 = .ok (.istore_n 0, 1) := by decide +kernel
theorem dJ6_bitCount_0f7a4_34 : decode cJ6_bitCount_0f7a4 34 = .ok (.iload_n 0, 1) := by decide +kernel
theorem dJ6_bitCount_0f7a4_35 : decode cJ6_bitCount_0f7a4 35 = .ok (.iload_n 0, 1) := by decide +kernel
theorem dJ6_bitCount_0f7a4_36 : decode cJ6_bitCount_0f7a4 36 = .ok (.bipush 8, 2) := by decide +kernel
theorem dJ6_bitCount_0f7a4_38 : decode cJ6_bitCount_0f7a4 38 = .ok (.iushr, 1) := by decide +kernel
theorem dJ6_bitCount_0f7a4_39 : decode cJ6_bitCount_0f7a4 39 = .ok (.iadd, 1) := by decide +kernel
theorem dJ6_bitCount_0f7a4_40 : decode cJ6_bitCount_0f7a4 40 = .ok (.istore_n 0, 1) := by decide +kernel
theorem dJ6_bitCount_0f7a4_41 : decode cJ6_bitCount_0f7a4 41 = .ok (.iload_n 0, 1) := by decide +kernel
theorem dJ6_bitCount_0f7a4_42 : decode cJ6_bitCount_0f7a4 42 = .ok (.iload_n 0, 1) := by decide +kernel
theorem dJ6_bitCount_0f7a4_43 : decode cJ6_bitCount_0f7a4 43 = .ok (.bipush 16, 2) := by decide +kernel
theorem dJ6_bitCount_0f7a4_45 : decode cJ6_bitCount_0f7a4 45 = .ok (.iushr, 1) := by decide +kernel
theorem dJ6_bitCount_0f7a4_46 : decode cJ6_bitCount_0f7a4 46 = .ok (.iadd, 1) := by decide +kernel
theorem dJ6_bitCount_0f7a4_47 : decode cJ6_bitCount_0f7a4 47 = .ok (.istore_n 0, 1) := by decide +kernel
theorem dJ6_bitCount_0f7a4_48 : decode cJ6_bitCount_0f7a4 48 = .ok (.iload_n 0, 1) := by decide +kernel
theorem dJ6_bitCount_0f7a4_49 : decode cJ6_bitCount_0f7a4 49 = .ok (.bipush 63, 2) := by decide +kernel
theorem dJ6_bitCount_0f7a4_51 : decode cJ6_bitCount_0f7a4 51 = .ok (.iand, 1) := by decide +kernel
theorem dJ6_bitCount_0f7a4_52 : decode cJ6_bitCount_0f7a4 52 = .ok (.ireturn, 1) := by decide +kernel

def f_J6_bitCount_0f7a4 (fu : Nat) (M : gz_M) (a0 : Int32) : Option (Int32) :=
  some ((((((((a0 - (((a0).toUInt32 >>> (((1 : Int32)).toUInt32 &&& Int32.toUInt32 31)).toInt32 &&& (1431655765 : Int32))) &&& (858993459 : Int32)) + ((((a0 - (((a0).toUInt32 >>> (((1 : Int32)).toUInt32 &&& Int32.toUInt32 31)).toInt32 &&& (1431655765 : Int32)))).toUInt32 >>> (((2 : Int32)).toUInt32 &&& Int32.toUInt32 31)).toInt32 &&& (858993459 : Int32))) + (((((a0 - (((a0).toUInt32 >>> (((1 : Int32)).toUInt32 &&& Int32.toUInt32 31)).toInt32 &&& (1431655765 : Int32))) &&& (858993459 : Int32)) + ((((a0 - (((a0).toUInt32 >>> (((1 : Int32)).toUInt32 &&& Int32.toUInt32 31)).toInt32 &&& (1431655765 : Int32)))).toUInt32 >>> (((2 : Int32)).toUInt32 &&& Int32.toUInt32 31)).toInt32 &&& (858993459 : Int32)))).toUInt32 >>> (((4 : Int32)).toUInt32 &&& Int32.toUInt32 31)).toInt32) &&& (252645135 : Int32)) + (((((((a0 - (((a0).toUInt32 >>> (((1 : Int32)).toUInt32 &&& Int32.toUInt32 31)).toInt32 &&& (1431655765 : Int32))) &&& (858993459 : Int32)) + ((((a0 - (((a0).toUInt32 >>> (((1 : Int32)).toUInt32 &&& Int32.toUInt32 31)).toInt32 &&& (1431655765 : Int32)))).toUInt32 >>> (((2 : Int32)).toUInt32 &&& Int32.toUInt32 31)).toInt32 &&& (858993459 : Int32))) + (((((a0 - (((a0).toUInt32 >>> (((1 : Int32)).toUInt32 &&& Int32.toUInt32 31)).toInt32 &&& (1431655765 : Int32))) &&& (858993459 : Int32)) + ((((a0 - (((a0).toUInt32 >>> (((1 : Int32)).toUInt32 &&& Int32.toUInt32 31)).toInt32 &&& (1431655765 : Int32)))).toUInt32 >>> (((2 : Int32)).toUInt32 &&& Int32.toUInt32 31)).toInt32 &&& (858993459 : Int32)))).toUInt32 >>> (((4 : Int32)).toUInt32 &&& Int32.toUInt32 31)).toInt32) &&& (252645135 : Int32))).toUInt32 >>> (((8 : Int32)).toUInt32 &&& Int32.toUInt32 31)).toInt32) + ((((((((a0 - (((a0).toUInt32 >>> (((1 : Int32)).toUInt32 &&& Int32.toUInt32 31)).toInt32 &&& (1431655765 : Int32))) &&& (858993459 : Int32)) + ((((a0 - (((a0).toUInt32 >>> (((1 : Int32)).toUInt32 &&& Int32.toUInt32 31)).toInt32 &&& (1431655765 : Int32)))).toUInt32 >>> (((2 : Int32)).toUInt32 &&& Int32.toUInt32 31)).toInt32 &&& (858993459 : Int32))) + (((((a0 - (((a0).toUInt32 >>> (((1 : Int32)).toUInt32 &&& Int32.toUInt32 31)).toInt32 &&& (1431655765 : Int32))) &&& (858993459 : Int32)) + ((((a0 - (((a0).toUInt32 >>> (((1 : Int32)).toUInt32 &&& Int32.toUInt32 31)).toInt32 &&& (1431655765 : Int32)))).toUInt32 >>> (((2 : Int32)).toUInt32 &&& Int32.toUInt32 31)).toInt32 &&& (858993459 : Int32)))).toUInt32 >>> (((4 : Int32)).toUInt32 &&& Int32.toUInt32 31)).toInt32) &&& (252645135 : Int32)) + (((((((a0 - (((a0).toUInt32 >>> (((1 : Int32)).toUInt32 &&& Int32.toUInt32 31)).toInt32 &&& (1431655765 : Int32))) &&& (858993459 : Int32)) + ((((a0 - (((a0).toUInt32 >>> (((1 : Int32)).toUInt32 &&& Int32.toUInt32 31)).toInt32 &&& (1431655765 : Int32)))).toUInt32 >>> (((2 : Int32)).toUInt32 &&& Int32.toUInt32 31)).toInt32 &&& (858993459 : Int32))) + (((((a0 - (((a0).toUInt32 >>> (((1 : Int32)).toUInt32 &&& Int32.toUInt32 31)).toInt32 &&& (1431655765 : Int32))) &&& (858993459 : Int32)) + ((((a0 - (((a0).toUInt32 >>> (((1 : Int32)).toUInt32 &&& Int32.toUInt32 31)).toInt32 &&& (1431655765 : Int32)))).toUInt32 >>> (((2 : Int32)).toUInt32 &&& Int32.toUInt32 31)).toInt32 &&& (858993459 : Int32)))).toUInt32 >>> (((4 : Int32)).toUInt32 &&& Int32.toUInt32 31)).toInt32) &&& (252645135 : Int32))).toUInt32 >>> (((8 : Int32)).toUInt32 &&& Int32.toUInt32 31)).toInt32)).toUInt32 >>> (((16 : Int32)).toUInt32 &&& Int32.toUInt32 31)).toInt32) &&& (63 : Int32))

set_option maxHeartbeats 4000000 in
theorem ct_J6_bitCount_0f7a4 (l : Launch) (G : gz_G) (fu : Nat) (M : gz_M) (a0 : Int32) (y : Int32) (hF : f_J6_bitCount_0f7a4 fu M a0 = some y) : gz_ct l yJ6_bitCount_0f7a4 cJ6_bitCount_0f7a4 1 (some .int) 0 0 0 0 G [.int a0] M (some (.int y)) M := by
  refine gz_ct.of (by decide) (Nat.le_of_ble_eq_true rfl) (fun C hC hX => ?_)
  unfold f_J6_bitCount_0f7a4 at hF
  show gz_go C 0 0 M [(0, .int a0)] 0 []
  refine gz_iload_n 0 hC 0 dJ6_bitCount_0f7a4_0 rfl rfl ?_
  refine gz_iload_n 1 hC 0 dJ6_bitCount_0f7a4_1 rfl rfl ?_
  refine gz_iconst 2 hC (1 : Int32) dJ6_bitCount_0f7a4_2 gz_k1 ?_
  refine gz_iushr 3 hC dJ6_bitCount_0f7a4_3 ?_
  refine gz_ldcw 4 hC dJ6_bitCount_0f7a4_4 q_858 ?_
  refine gz_iand 7 hC dJ6_bitCount_0f7a4_7 ?_
  refine gz_isub 8 hC dJ6_bitCount_0f7a4_8 ?_
  refine gz_istore_n 9 hC [(0, .int (a0 - (((a0).toUInt32 >>> (((1 : Int32)).toUInt32 &&& Int32.toUInt32 31)).toInt32 &&& (1431655765 : Int32))))] dJ6_bitCount_0f7a4_9 rfl (by decide) rfl ?_
  refine gz_iload_n 10 hC 0 dJ6_bitCount_0f7a4_10 rfl rfl ?_
  refine gz_ldcw 11 hC dJ6_bitCount_0f7a4_11 q_859 ?_
  refine gz_iand 14 hC dJ6_bitCount_0f7a4_14 ?_
  refine gz_iload_n 15 hC 0 dJ6_bitCount_0f7a4_15 rfl rfl ?_
  refine gz_iconst 16 hC (2 : Int32) dJ6_bitCount_0f7a4_16 gz_k2 ?_
  refine gz_iushr 17 hC dJ6_bitCount_0f7a4_17 ?_
  refine gz_ldcw 18 hC dJ6_bitCount_0f7a4_18 q_859 ?_
  refine gz_iand 21 hC dJ6_bitCount_0f7a4_21 ?_
  refine gz_iadd 22 hC dJ6_bitCount_0f7a4_22 ?_
  refine gz_istore_n 23 hC [(0, .int (((a0 - (((a0).toUInt32 >>> (((1 : Int32)).toUInt32 &&& Int32.toUInt32 31)).toInt32 &&& (1431655765 : Int32))) &&& (858993459 : Int32)) + ((((a0 - (((a0).toUInt32 >>> (((1 : Int32)).toUInt32 &&& Int32.toUInt32 31)).toInt32 &&& (1431655765 : Int32)))).toUInt32 >>> (((2 : Int32)).toUInt32 &&& Int32.toUInt32 31)).toInt32 &&& (858993459 : Int32))))] dJ6_bitCount_0f7a4_23 rfl (by decide) rfl ?_
  refine gz_iload_n 24 hC 0 dJ6_bitCount_0f7a4_24 rfl rfl ?_
  refine gz_iload_n 25 hC 0 dJ6_bitCount_0f7a4_25 rfl rfl ?_
  refine gz_iconst 26 hC (4 : Int32) dJ6_bitCount_0f7a4_26 gz_k4 ?_
  refine gz_iushr 27 hC dJ6_bitCount_0f7a4_27 ?_
  refine gz_iadd 28 hC dJ6_bitCount_0f7a4_28 ?_
  refine gz_ldcw 29 hC dJ6_bitCount_0f7a4_29 q_860 ?_
  refine gz_iand 32 hC dJ6_bitCount_0f7a4_32 ?_
  refine gz_istore_n 33 hC [(0, .int (((((a0 - (((a0).toUInt32 >>> (((1 : Int32)).toUInt32 &&& Int32.toUInt32 31)).toInt32 &&& (1431655765 : Int32))) &&& (858993459 : Int32)) + ((((a0 - (((a0).toUInt32 >>> (((1 : Int32)).toUInt32 &&& Int32.toUInt32 31)).toInt32 &&& (1431655765 : Int32)))).toUInt32 >>> (((2 : Int32)).toUInt32 &&& Int32.toUInt32 31)).toInt32 &&& (858993459 : Int32))) + (((((a0 - (((a0).toUInt32 >>> (((1 : Int32)).toUInt32 &&& Int32.toUInt32 31)).toInt32 &&& (1431655765 : Int32))) &&& (858993459 : Int32)) + ((((a0 - (((a0).toUInt32 >>> (((1 : Int32)).toUInt32 &&& Int32.toUInt32 31)).toInt32 &&& (1431655765 : Int32)))).toUInt32 >>> (((2 : Int32)).toUInt32 &&& Int32.toUInt32 31)).toInt32 &&& (858993459 : Int32)))).toUInt32 >>> (((4 : Int32)).toUInt32 &&& Int32.toUInt32 31)).toInt32) &&& (252645135 : Int32)))] dJ6_bitCount_0f7a4_33 rfl (by decide) rfl ?_
  refine gz_iload_n 34 hC 0 dJ6_bitCount_0f7a4_34 rfl rfl ?_
  refine gz_iload_n 35 hC 0 dJ6_bitCount_0f7a4_35 rfl rfl ?_
  refine gz_bipush 36 hC (8 : Int32) dJ6_bitCount_0f7a4_36 gz_b8 ?_
  refine gz_iushr 38 hC dJ6_bitCount_0f7a4_38 ?_
  refine gz_iadd 39 hC dJ6_bitCount_0f7a4_39 ?_
  refine gz_istore_n 40 hC [(0, .int ((((((a0 - (((a0).toUInt32 >>> (((1 : Int32)).toUInt32 &&& Int32.toUInt32 31)).toInt32 &&& (1431655765 : Int32))) &&& (858993459 : Int32)) + ((((a0 - (((a0).toUInt32 >>> (((1 : Int32)).toUInt32 &&& Int32.toUInt32 31)).toInt32 &&& (1431655765 : Int32)))).toUInt32 >>> (((2 : Int32)).toUInt32 &&& Int32.toUInt32 31)).toInt32 &&& (858993459 : Int32))) + (((((a0 - (((a0).toUInt32 >>> (((1 : Int32)).toUInt32 &&& Int32.toUInt32 31)).toInt32 &&& (1431655765 : Int32))) &&& (858993459 : Int32)) + ((((a0 - (((a0).toUInt32 >>> (((1 : Int32)).toUInt32 &&& Int32.toUInt32 31)).toInt32 &&& (1431655765 : Int32)))).toUInt32 >>> (((2 : Int32)).toUInt32 &&& Int32.toUInt32 31)).toInt32 &&& (858993459 : Int32)))).toUInt32 >>> (((4 : Int32)).toUInt32 &&& Int32.toUInt32 31)).toInt32) &&& (252645135 : Int32)) + (((((((a0 - (((a0).toUInt32 >>> (((1 : Int32)).toUInt32 &&& Int32.toUInt32 31)).toInt32 &&& (1431655765 : Int32))) &&& (858993459 : Int32)) + ((((a0 - (((a0).toUInt32 >>> (((1 : Int32)).toUInt32 &&& Int32.toUInt32 31)).toInt32 &&& (1431655765 : Int32)))).toUInt32 >>> (((2 : Int32)).toUInt32 &&& Int32.toUInt32 31)).toInt32 &&& (858993459 : Int32))) + (((((a0 - (((a0).toUInt32 >>> (((1 : Int32)).toUInt32 &&& Int32.toUInt32 31)).toInt32 &&& (1431655765 : Int32))) &&& (858993459 : Int32)) + ((((a0 - (((a0).toUInt32 >>> (((1 : Int32)).toUInt32 &&& Int32.toUInt32 31)).toInt32 &&& (1431655765 : Int32)))).toUInt32 >>> (((2 : Int32)).toUInt32 &&& Int32.toUInt32 31)).toInt32 &&& (858993459 : Int32)))).toUInt32 >>> (((4 : Int32)).toUInt32 &&& Int32.toUInt32 31)).toInt32) &&& (252645135 : Int32))).toUInt32 >>> (((8 : Int32)).toUInt32 &&& Int32.toUInt32 31)).toInt32))] dJ6_bitCount_0f7a4_40 rfl (by decide) rfl ?_
  refine gz_iload_n 41 hC 0 dJ6_bitCount_0f7a4_41 rfl rfl ?_
  refine gz_iload_n 42 hC 0 dJ6_bitCount_0f7a4_42 rfl rfl ?_
  refine gz_bipush 43 hC (16 : Int32) dJ6_bitCount_0f7a4_43 gz_b16 ?_
  refine gz_iushr 45 hC dJ6_bitCount_0f7a4_45 ?_
  refine gz_iadd 46 hC dJ6_bitCount_0f7a4_46 ?_
  refine gz_istore_n 47 hC [(0, .int (((((((a0 - (((a0).toUInt32 >>> (((1 : Int32)).toUInt32 &&& Int32.toUInt32 31)).toInt32 &&& (1431655765 : Int32))) &&& (858993459 : Int32)) + ((((a0 - (((a0).toUInt32 >>> (((1 : Int32)).toUInt32 &&& Int32.toUInt32 31)).toInt32 &&& (1431655765 : Int32)))).toUInt32 >>> (((2 : Int32)).toUInt32 &&& Int32.toUInt32 31)).toInt32 &&& (858993459 : Int32))) + (((((a0 - (((a0).toUInt32 >>> (((1 : Int32)).toUInt32 &&& Int32.toUInt32 31)).toInt32 &&& (1431655765 : Int32))) &&& (858993459 : Int32)) + ((((a0 - (((a0).toUInt32 >>> (((1 : Int32)).toUInt32 &&& Int32.toUInt32 31)).toInt32 &&& (1431655765 : Int32)))).toUInt32 >>> (((2 : Int32)).toUInt32 &&& Int32.toUInt32 31)).toInt32 &&& (858993459 : Int32)))).toUInt32 >>> (((4 : Int32)).toUInt32 &&& Int32.toUInt32 31)).toInt32) &&& (252645135 : Int32)) + (((((((a0 - (((a0).toUInt32 >>> (((1 : Int32)).toUInt32 &&& Int32.toUInt32 31)).toInt32 &&& (1431655765 : Int32))) &&& (858993459 : Int32)) + ((((a0 - (((a0).toUInt32 >>> (((1 : Int32)).toUInt32 &&& Int32.toUInt32 31)).toInt32 &&& (1431655765 : Int32)))).toUInt32 >>> (((2 : Int32)).toUInt32 &&& Int32.toUInt32 31)).toInt32 &&& (858993459 : Int32))) + (((((a0 - (((a0).toUInt32 >>> (((1 : Int32)).toUInt32 &&& Int32.toUInt32 31)).toInt32 &&& (1431655765 : Int32))) &&& (858993459 : Int32)) + ((((a0 - (((a0).toUInt32 >>> (((1 : Int32)).toUInt32 &&& Int32.toUInt32 31)).toInt32 &&& (1431655765 : Int32)))).toUInt32 >>> (((2 : Int32)).toUInt32 &&& Int32.toUInt32 31)).toInt32 &&& (858993459 : Int32)))).toUInt32 >>> (((4 : Int32)).toUInt32 &&& Int32.toUInt32 31)).toInt32) &&& (252645135 : Int32))).toUInt32 >>> (((8 : Int32)).toUInt32 &&& Int32.toUInt32 31)).toInt32) + ((((((((a0 - (((a0).toUInt32 >>> (((1 : Int32)).toUInt32 &&& Int32.toUInt32 31)).toInt32 &&& (1431655765 : Int32))) &&& (858993459 : Int32)) + ((((a0 - (((a0).toUInt32 >>> (((1 : Int32)).toUInt32 &&& Int32.toUInt32 31)).toInt32 &&& (1431655765 : Int32)))).toUInt32 >>> (((2 : Int32)).toUInt32 &&& Int32.toUInt32 31)).toInt32 &&& (858993459 : Int32))) + (((((a0 - (((a0).toUInt32 >>> (((1 : Int32)).toUInt32 &&& Int32.toUInt32 31)).toInt32 &&& (1431655765 : Int32))) &&& (858993459 : Int32)) + ((((a0 - (((a0).toUInt32 >>> (((1 : Int32)).toUInt32 &&& Int32.toUInt32 31)).toInt32 &&& (1431655765 : Int32)))).toUInt32 >>> (((2 : Int32)).toUInt32 &&& Int32.toUInt32 31)).toInt32 &&& (858993459 : Int32)))).toUInt32 >>> (((4 : Int32)).toUInt32 &&& Int32.toUInt32 31)).toInt32) &&& (252645135 : Int32)) + (((((((a0 - (((a0).toUInt32 >>> (((1 : Int32)).toUInt32 &&& Int32.toUInt32 31)).toInt32 &&& (1431655765 : Int32))) &&& (858993459 : Int32)) + ((((a0 - (((a0).toUInt32 >>> (((1 : Int32)).toUInt32 &&& Int32.toUInt32 31)).toInt32 &&& (1431655765 : Int32)))).toUInt32 >>> (((2 : Int32)).toUInt32 &&& Int32.toUInt32 31)).toInt32 &&& (858993459 : Int32))) + (((((a0 - (((a0).toUInt32 >>> (((1 : Int32)).toUInt32 &&& Int32.toUInt32 31)).toInt32 &&& (1431655765 : Int32))) &&& (858993459 : Int32)) + ((((a0 - (((a0).toUInt32 >>> (((1 : Int32)).toUInt32 &&& Int32.toUInt32 31)).toInt32 &&& (1431655765 : Int32)))).toUInt32 >>> (((2 : Int32)).toUInt32 &&& Int32.toUInt32 31)).toInt32 &&& (858993459 : Int32)))).toUInt32 >>> (((4 : Int32)).toUInt32 &&& Int32.toUInt32 31)).toInt32) &&& (252645135 : Int32))).toUInt32 >>> (((8 : Int32)).toUInt32 &&& Int32.toUInt32 31)).toInt32)).toUInt32 >>> (((16 : Int32)).toUInt32 &&& Int32.toUInt32 31)).toInt32))] dJ6_bitCount_0f7a4_47 rfl (by decide) rfl ?_
  refine gz_iload_n 48 hC 0 dJ6_bitCount_0f7a4_48 rfl rfl ?_
  refine gz_bipush 49 hC (63 : Int32) dJ6_bitCount_0f7a4_49 gz_b63 ?_
  refine gz_iand 51 hC dJ6_bitCount_0f7a4_51 ?_
  exact gz_iretP 52 hC hX dJ6_bitCount_0f7a4_52 hF

theorem dX1_lookAt_0 : decode cX1_lookAt 0 = .ok (.iconst 0, 1) := by decide +kernel
theorem dX1_lookAt_1 : decode cX1_lookAt 1 = .ok (.istore_n 3, 1) := by decide +kernel
theorem dX1_lookAt_2 : decode cX1_lookAt 2 = .ok (.iload_n 3, 1) := by decide +kernel
theorem dX1_lookAt_3 : decode cX1_lookAt 3 = .ok (.iload_n 2, 1) := by decide +kernel
theorem dX1_lookAt_4 : decode cX1_lookAt 4 = .ok (.if_icmp .ge 97, 3) := by decide +kernel
theorem dX1_lookAt_7 : decode cX1_lookAt 7 = .ok (.aload_n 0, 1) := by decide +kernel
theorem dX1_lookAt_8 : decode cX1_lookAt 8 = .ok (.invokevirtual 49, 3) := by decide +kernel
theorem dX1_lookAt_11 : decode cX1_lookAt 11 = .ok (.ifCond .ne 90, 3) := by decide +kernel
theorem dX1_lookAt_14 : decode cX1_lookAt 14 = .ok (.aload_n 0, 1) := by decide +kernel
theorem dX1_lookAt_15 : decode cX1_lookAt 15 = .ok (.getfield 29, 3) := by decide +kernel
theorem dX1_lookAt_18 : decode cX1_lookAt 18 = .ok (.invokestatic 53, 3) := by decide +kernel
theorem dX1_lookAt_21 : decode cX1_lookAt 21 = .ok (.aload_n 0, 1) := by decide +kernel
theorem dX1_lookAt_22 : decode cX1_lookAt 22 = .ok (.getfield 26, 3) := by decide +kernel
theorem dX1_lookAt_25 : decode cX1_lookAt 25 = .ok (.if_icmp .gt 7, 3) := by decide +kernel
theorem dX1_lookAt_28 : decode cX1_lookAt 28 = .ok (.iconst 1, 1) := by decide +kernel
theorem dX1_lookAt_29 : decode cX1_lookAt 29 = .ok (.goto 4, 3) := by decide +kernel
theorem dX1_lookAt_32 : decode cX1_lookAt 32 = .ok (.iconst 0, 1) := by decide +kernel
theorem dX1_lookAt_33 : decode cX1_lookAt 33 = .ok (.istore 4, 2) := by decide +kernel
theorem dX1_lookAt_35 : decode cX1_lookAt 35 = .ok (.iload 4, 2) := by decide +kernel
theorem dX1_lookAt_37 : decode cX1_lookAt 37 = .ok (.ifCond .eq 48, 3) := by decide +kernel
theorem dX1_lookAt_40 : decode cX1_lookAt 40 = .ok (.aload_n 0, 1) := by decide +kernel
theorem dX1_lookAt_41 : decode cX1_lookAt 41 = .ok (.getfield 32, 3) := by decide +kernel
theorem dX1_lookAt_44 : decode cX1_lookAt 44 = .ok (.iconst (-1), 1) := by decide +kernel
theorem dX1_lookAt_45 : decode cX1_lookAt 45 = .ok (.if_icmp .eq 19, 3) := by decide +kernel
theorem dX1_lookAt_48 : decode cX1_lookAt 48 = .ok (.aload_n 1, 1) := by decide +kernel
theorem dX1_lookAt_49 : decode cX1_lookAt 49 = .ok (.getfield 59, 3) := by decide +kernel
theorem dX1_lookAt_52 : decode cX1_lookAt 52 = .ok (.aload_n 0, 1) := by decide +kernel
theorem dX1_lookAt_53 : decode cX1_lookAt 53 = .ok (.getfield 29, 3) := by decide +kernel
theorem dX1_lookAt_56 : decode cX1_lookAt 56 = .ok (.iaload, 1) := by decide +kernel
theorem dX1_lookAt_57 : decode cX1_lookAt 57 = .ok (.aload_n 0, 1) := by decide +kernel
theorem dX1_lookAt_58 : decode cX1_lookAt 58 = .ok (.getfield 35, 3) := by decide +kernel
theorem dX1_lookAt_61 : decode cX1_lookAt 61 = .ok (.if_icmp .ge 24, 3) := by decide +kernel
theorem dX1_lookAt_64 : decode cX1_lookAt 64 = .ok (.aload_n 0, 1) := by decide +kernel
theorem dX1_lookAt_65 : decode cX1_lookAt 65 = .ok (.aload_n 0, 1) := by decide +kernel
theorem dX1_lookAt_66 : decode cX1_lookAt 66 = .ok (.getfield 29, 3) := by decide +kernel
theorem dX1_lookAt_69 : decode cX1_lookAt 69 = .ok (.putfield 32, 3) := by decide +kernel
theorem dX1_lookAt_72 : decode cX1_lookAt 72 = .ok (.aload_n 0, 1) := by decide +kernel
theorem dX1_lookAt_73 : decode cX1_lookAt 73 = .ok (.aload_n 1, 1) := by decide +kernel
theorem dX1_lookAt_74 : decode cX1_lookAt 74 = .ok (.getfield 59, 3) := by decide +kernel
theorem dX1_lookAt_77 : decode cX1_lookAt 77 = .ok (.aload_n 0, 1) := by decide +kernel
theorem dX1_lookAt_78 : decode cX1_lookAt 78 = .ok (.getfield 29, 3) := by decide +kernel
theorem dX1_lookAt_81 : decode cX1_lookAt 81 = .ok (.iaload, 1) := by decide +kernel
theorem dX1_lookAt_82 : decode cX1_lookAt 82 = .ok (.putfield 35, 3) := by decide +kernel
theorem dX1_lookAt_85 : decode cX1_lookAt 85 = .ok (.aload_n 0, 1) := by decide +kernel
theorem dX1_lookAt_86 : decode cX1_lookAt 86 = .ok (.dup, 1) := by decide +kernel
theorem dX1_lookAt_87 : decode cX1_lookAt 87 = .ok (.getfield 29, 3) := by decide +kernel
theorem dX1_lookAt_90 : decode cX1_lookAt 90 = .ok (.iconst 1, 1) := by decide +kernel
theorem dX1_lookAt_91 : decode cX1_lookAt 91 = .ok (.iadd, 1) := by decide +kernel
theorem dX1_lookAt_92 : decode cX1_lookAt 92 = .ok (.putfield 29, 3) := by decide +kernel
theorem dX1_lookAt_95 : decode cX1_lookAt 95 = .ok (.iinc 3 1, 3) := by decide +kernel
theorem dX1_lookAt_98 : decode cX1_lookAt 98 = .ok (.goto (-96), 3) := by decide +kernel
theorem dX1_lookAt_101 : decode cX1_lookAt 101 = .ok (.return_, 1) := by decide +kernel
def lp_X1_lookAt_2 (j101 : gz_M → Option (gz_M)) (fu : Nat) (a0 : Nat) (a1 : Nat) (a2 : Int32) : Nat → Int32 → gz_M → Option (gz_M)
  | 0, _, _ => none
  | n2 + 1, x1, M2 =>
    if a2 ≤ x1 then
      j101 M2
    else
      (f_X1_isDone fu M2 a0).bind fun x3 =>
      if x3 = 0 then
        (gz_gI M2 1 4 a0).bind fun x4 =>
        (f_J6_bitCount_0f7a4 fu M2 x4).bind fun x5 =>
        (gz_gI M2 1 3 a0).bind fun x6 =>
        gz_jn (fun (x7 : Int32) =>
        gz_jn (fun (M19 : gz_M) =>
          (gz_gI M19 1 4 a0).bind fun x20 =>
            (gz_pI M19 1 4 a0 (x20 + (1 : Int32))).bind fun M21 =>
            lp_X1_lookAt_2 j101 fu a0 a1 a2 n2 (x1 + (1 : Int32)) M21) fun j85 =>
          if x7 = 0 then
            j85 M2
          else
            (gz_gI M2 1 5 a0).bind fun x8 =>
            gz_jn ((gz_gI M2 1 4 a0).bind fun x13 =>
              (gz_pI M2 1 5 a0 x13).bind fun M14 =>
              (gz_gR M14 3 0 a1).bind fun x15 =>
              (gz_gI M14 1 4 a0).bind fun x16 =>
              (gz_aI M14 x15 x16).bind fun x17 =>
              (gz_pI M14 1 6 a0 x17).bind fun M18 =>
              j85 M18) fun j64 =>
            if x8 = (-1 : Int32) then
              j64
            else
              (gz_gR M2 3 0 a1).bind fun x9 =>
              (gz_gI M2 1 4 a0).bind fun x10 =>
              (gz_aI M2 x9 x10).bind fun x11 =>
              (gz_gI M2 1 6 a0).bind fun x12 =>
              if x12 ≤ x11 then
                j85 M2
              else
                j64) fun j33 =>
        if x6 < x5 then
          j33 (0 : Int32)
        else
          j33 (1 : Int32)
      else
        j101 M2
def f_X1_lookAt (fu : Nat) (M : gz_M) (a0 : Nat) (a1 : Nat) (a2 : Int32) : Option (gz_M) :=
  gz_gd M 1 a0 <|
  lp_X1_lookAt_2 (fun (M22 : gz_M) => some M22) fu a0 a1 a2 fu (0 : Int32) M
set_option maxHeartbeats 4000000 in
theorem w_X1_lookAt_2 {C : gz_C} {y : gz_M} {fu : Nat} {a0 : Nat} {a1 : Nat} {a2 : Int32} {j101 : gz_M → Option (gz_M)} (hC : gz_ok C cX1_lookAt RX1 5) (hX : gz_cx C 2 40 0 0 none none y "lookAt") (hj101 : ∀ (M22 : gz_M), j101 M22 = some y → gz_go C 0 0 M22 [] 101 []) : ∀ (n : Nat) (x1 : Int32) (M2 : gz_M), lp_X1_lookAt_2 j101 fu a0 a1 a2 n x1 M2 = some y → gz_go C 0 0 M2 [(0, .ref a0), (1, .ref a1), (2, .int a2), (3, .int x1)] 2 [] := by
  intro n
  induction n with
  | zero => intro x1 M2 hF; exact nomatch (show (none : Option (gz_M)) = some y from hF)
  | succ n2 ih2 =>
    intro x1 M2 hF
    rw [lp_X1_lookAt_2.eq_2] at hF
    refine gz_iload_n 2 hC 3 dX1_lookAt_2 rfl rfl ?_
    refine gz_iload_n 3 hC 2 dX1_lookAt_3 rfl rfl ?_
    refine gz_icmp_ge 4 101 hC dX1_lookAt_4 (by decide) hF (fun hF => ?_) (fun hF => ?_)
    · skip
      refine gz_sub [] [] rfl ?_
      exact hj101 _ hF
    · skip
      refine gz_aload_n 7 hC 0 dX1_lookAt_7 rfl rfl ?_
      refine gz_cvP (st := []) 8 hC hX [] Value.int yl_X1_isDone yv_X1_isDone q_1035 ⟨Nat.le_of_ble_eq_true rfl, Nat.le_of_ble_eq_true rfl⟩ ⟨_, rfl⟩ (fun r h => ct_X1_isDone _ _ fu M2 a0 r h) rfl rfl (Nat.le_of_ble_eq_true rfl) dX1_lookAt_8 gz_00 hF (fun x3 hF => ?_)
      refine gz_if_ne 11 101 hC dX1_lookAt_11 (by decide) hF (fun hF => ?_) (fun hF => ?_)
      · skip
        refine gz_sub [] [] rfl ?_
        exact hj101 _ hF
      · skip
        refine gz_aload_n 14 hC 0 dX1_lookAt_14 rfl rfl ?_
        refine gz_getI 15 hC fl_X1_29 fk_1_4 dX1_lookAt_15 hF (fun x4 hF => ?_)
        refine gz_csP (st := []) 18 hC hX [.int x4] Value.int yl_J6_bitCount_0f7a4 yv_J6_bitCount_0f7a4 q_1036 ⟨Nat.le_of_ble_eq_true rfl, Nat.le_of_ble_eq_true rfl⟩ (fun r h => ct_J6_bitCount_0f7a4 _ _ fu M2 x4 r h) rfl rfl (Nat.le_of_ble_eq_true rfl) dX1_lookAt_18 gz_00 hF (fun x5 hF => ?_)
        refine gz_aload_n 21 hC 0 dX1_lookAt_21 rfl rfl ?_
        refine gz_getI 22 hC fl_X1_26 fk_1_3 dX1_lookAt_22 hF (fun x6 hF => ?_)
        refine gz_join (fun (j : Int32 → Option (gz_M)) => ∀ (x7 : Int32), j x7 = some y → gz_go C 0 0 M2 [(0, .ref a0), (1, .ref a1), (2, .int a2), (3, .int x1)] 33 [.int x7]) hF (fun x7 hF => ?_) (fun j33 hj33 hF => ?_)
        · skip
          refine gz_istore 33 hC [(4, .int x7), (0, .ref a0), (1, .ref a1), (2, .int a2), (3, .int x1)] dX1_lookAt_33 (by decide) rfl ?_
          refine gz_iload 35 hC 0 dX1_lookAt_35 rfl ?_
          refine gz_join (fun (j : gz_M → Option (gz_M)) => ∀ (M19 : gz_M), j M19 = some y → gz_go C 0 0 M19 [(0, .ref a0), (1, .ref a1), (2, .int a2), (3, .int x1)] 85 []) hF (fun M19 hF => ?_) (fun j85 hj85 hF => ?_)
          · skip
            refine gz_aload_n 85 hC 0 dX1_lookAt_85 rfl rfl ?_
            refine gz_dup 86 hC dX1_lookAt_86 rfl ?_
            refine gz_getI 87 hC fl_X1_29 fk_1_4 dX1_lookAt_87 hF (fun x20 hF => ?_)
            refine gz_iconst 90 hC (1 : Int32) dX1_lookAt_90 gz_k1 ?_
            refine gz_iadd 91 hC dX1_lookAt_91 ?_
            refine gz_putI 92 hC fl_X1_29 fk_1_4 dX1_lookAt_92 hF (fun M21 hF => ?_)
            refine gz_iinc 95 hC (x1 + (1 : Int32)) 3 [(3, .int (x1 + (1 : Int32))), (0, .ref a0), (1, .ref a1), (2, .int a2)] dX1_lookAt_95 rfl rfl (by decide) rfl ?_
            refine gz_goto 98 2 hC dX1_lookAt_98 (by decide) ?_
            refine gz_sub [1, 2, 3, 0] [(0, .ref a0), (1, .ref a1), (2, .int a2), (3, .int (x1 + (1 : Int32)))] rfl ?_
            exact ih2 _ _ hF
          refine gz_if_eq 37 85 hC dX1_lookAt_37 (by decide) hF (fun hF => ?_) (fun hF => ?_)
          · skip
            refine gz_sub [1, 2, 3, 4] [(0, .ref a0), (1, .ref a1), (2, .int a2), (3, .int x1)] rfl ?_
            exact hj85 _ hF
          · skip
            refine gz_aload_n 40 hC 1 dX1_lookAt_40 rfl rfl ?_
            refine gz_getI 41 hC fl_X1_32 fk_1_5 dX1_lookAt_41 hF (fun x8 hF => ?_)
            refine gz_iconst 44 hC (-1 : Int32) dX1_lookAt_44 gz_km1 ?_
            refine gz_join (fun (j : Option (gz_M)) => j = some y → gz_go C 0 0 M2 [(0, .ref a0), (1, .ref a1), (2, .int a2), (3, .int x1)] 64 []) hF (fun hF => ?_) (fun j64 hj64 hF => ?_)
            · skip
              refine gz_aload_n 64 hC 0 dX1_lookAt_64 rfl rfl ?_
              refine gz_aload_n 65 hC 0 dX1_lookAt_65 rfl rfl ?_
              refine gz_getI 66 hC fl_X1_29 fk_1_4 dX1_lookAt_66 hF (fun x13 hF => ?_)
              refine gz_putI 69 hC fl_X1_32 fk_1_5 dX1_lookAt_69 hF (fun M14 hF => ?_)
              refine gz_aload_n 72 hC 0 dX1_lookAt_72 rfl rfl ?_
              refine gz_aload_n 73 hC 1 dX1_lookAt_73 rfl rfl ?_
              refine gz_getR 74 hC fl_X1_59 fk_3_0 dX1_lookAt_74 hF (fun x15 hF => ?_)
              refine gz_aload_n 77 hC 0 dX1_lookAt_77 rfl rfl ?_
              refine gz_getI 78 hC fl_X1_29 fk_1_4 dX1_lookAt_78 hF (fun x16 hF => ?_)
              refine gz_iald 81 hC dX1_lookAt_81 hF (fun x17 hF => ?_)
              refine gz_putI 82 hC fl_X1_35 fk_1_6 dX1_lookAt_82 hF (fun M18 hF => ?_)
              exact hj85 _ hF
            refine gz_icmp_eq 45 64 hC dX1_lookAt_45 (by decide) hF (fun hF => ?_) (fun hF => ?_)
            · skip
              refine gz_sub [1, 2, 3, 4] [(0, .ref a0), (1, .ref a1), (2, .int a2), (3, .int x1)] rfl ?_
              exact hj64 hF
            · skip
              refine gz_aload_n 48 hC 2 dX1_lookAt_48 rfl rfl ?_
              refine gz_getR 49 hC fl_X1_59 fk_3_0 dX1_lookAt_49 hF (fun x9 hF => ?_)
              refine gz_aload_n 52 hC 1 dX1_lookAt_52 rfl rfl ?_
              refine gz_getI 53 hC fl_X1_29 fk_1_4 dX1_lookAt_53 hF (fun x10 hF => ?_)
              refine gz_iald 56 hC dX1_lookAt_56 hF (fun x11 hF => ?_)
              refine gz_aload_n 57 hC 1 dX1_lookAt_57 rfl rfl ?_
              refine gz_getI 58 hC fl_X1_35 fk_1_6 dX1_lookAt_58 hF (fun x12 hF => ?_)
              refine gz_icmp_ge 61 85 hC dX1_lookAt_61 (by decide) hF (fun hF => ?_) (fun hF => ?_)
              · skip
                refine gz_sub [1, 2, 3, 4] [(0, .ref a0), (1, .ref a1), (2, .int a2), (3, .int x1)] rfl ?_
                exact hj85 _ hF
              · skip
                refine gz_sub [1, 2, 3, 4] [(0, .ref a0), (1, .ref a1), (2, .int a2), (3, .int x1)] rfl ?_
                exact hj64 hF
        refine gz_icmp_gt 25 32 hC dX1_lookAt_25 (by decide) hF (fun hF => ?_) (fun hF => ?_)
        · skip
          refine gz_iconst 32 hC (0 : Int32) dX1_lookAt_32 gz_k0 ?_
          exact hj33 _ hF
        · skip
          refine gz_iconst 28 hC (1 : Int32) dX1_lookAt_28 gz_k1 ?_
          refine gz_goto 29 33 hC dX1_lookAt_29 (by decide) ?_
          exact hj33 _ hF
set_option maxHeartbeats 4000000 in
theorem ct_X1_lookAt (l : Launch) (G : gz_G) (fu : Nat) (M : gz_M) (a0 : Nat) (a1 : Nat) (a2 : Int32) (y : gz_M) (hF : f_X1_lookAt fu M a0 a1 a2 = some y) : gz_ct l yX1_lookAt cX1_lookAt 5 none 2 40 0 0 G [.ref a0, .ref a1, .int a2] M none y := by
  refine gz_ct.of (by decide) (Nat.le_of_ble_eq_true rfl) (fun C hC hX => ?_)
  unfold f_X1_lookAt at hF
  obtain ⟨-, hF⟩ := gz_gd_some hF
  show gz_go C 0 0 M [(0, .ref a0), (1, .ref a1), (2, .int a2)] 0 []
  refine gz_iconst 0 hC (0 : Int32) dX1_lookAt_0 gz_k0 ?_
  refine gz_istore_n 1 hC [(3, .int (0 : Int32)), (0, .ref a0), (1, .ref a1), (2, .int a2)] dX1_lookAt_1 rfl (by decide) rfl ?_
  refine gz_sub [1, 2, 3, 0] [(0, .ref a0), (1, .ref a1), (2, .int a2), (3, .int (0 : Int32))] rfl ?_
  refine w_X1_lookAt_2 hC hX ?_ _ _ _ hF
  intro M22 hF
  exact gz_vretM 101 hC hX dX1_lookAt_101 hF

theorem dJ7_fill_53178_0 : decode cJ7_fill_53178 0 = .ok (.iconst 0, 1) := by decide +kernel
theorem dJ7_fill_53178_1 : decode cJ7_fill_53178 1 = .ok (.istore_n 2, 1) := by decide +kernel
theorem dJ7_fill_53178_2 : decode cJ7_fill_53178 2 = .ok (.aload_n 0, 1) := by decide +kernel
theorem dJ7_fill_53178_3 : decode cJ7_fill_53178 3 = .ok (.arraylength, 1) := by decide +kernel
theorem dJ7_fill_53178_4 : decode cJ7_fill_53178 4 = .ok (.istore_n 3, 1) := by decide +kernel
theorem dJ7_fill_53178_5 : decode cJ7_fill_53178 5 = .ok (.iload_n 2, 1) := by decide +kernel
theorem dJ7_fill_53178_6 : decode cJ7_fill_53178 6 = .ok (.iload_n 3, 1) := by decide +kernel
theorem dJ7_fill_53178_7 : decode cJ7_fill_53178 7 = .ok (.if_icmp .ge 13, 3) := by decide +kernel
theorem dJ7_fill_53178_10 : decode cJ7_fill_53178 10 = .ok (.aload_n 0, 1) := by decide +kernel
theorem dJ7_fill_53178_11 : decode cJ7_fill_53178 11 = .ok (.iload_n 2, 1) := by decide +kernel
theorem dJ7_fill_53178_12 : decode cJ7_fill_53178 12 = .ok (.iload_n 1, 1) := by decide +kernel
theorem dJ7_fill_53178_13 : decode cJ7_fill_53178 13 = .ok (.iastore, 1) := by decide +kernel
theorem dJ7_fill_53178_14 : decode cJ7_fill_53178 14 = .ok (.iinc 2 1, 3) := by decide +kernel
theorem dJ7_fill_53178_17 : decode cJ7_fill_53178 17 = .ok (.goto (-12), 3) := by decide +kernel
theorem dJ7_fill_53178_20 : decode cJ7_fill_53178 20 = .ok (.return_, 1) := by decide +kernel
def lp_J7_fill_53178_5 (j20 : gz_M → Option (gz_M)) (a0 : Nat) (a1 : Int32) (x1 : Int32) : Nat → Int32 → gz_M → Option (gz_M)
  | 0, _, _ => none
  | n5 + 1, x2, M3 =>
    if x1 ≤ x2 then
      j20 M3
    else
      (gz_tI M3 a0 x2 a1).bind fun M4 =>
      lp_J7_fill_53178_5 j20 a0 a1 x1 n5 (x2 + (1 : Int32)) M4
def f_J7_fill_53178 (fu : Nat) (M : gz_M) (a0 : Nat) (a1 : Int32) : Option (gz_M) :=
  (gz_ln M a0).bind fun x1 =>
  lp_J7_fill_53178_5 (fun (M5 : gz_M) => some M5) a0 a1 x1 fu (0 : Int32) M
set_option maxHeartbeats 4000000 in
theorem w_J7_fill_53178_5 {C : gz_C} {y : gz_M} {a0 : Nat} {a1 : Int32} {x1 : Int32} {j20 : gz_M → Option (gz_M)} (hC : gz_ok C cJ7_fill_53178 RJ7 4) (hX : gz_cx C 0 0 0 0 none none y "fill") (hj20 : ∀ (M5 : gz_M), j20 M5 = some y → gz_go C 0 0 M5 [] 20 []) : ∀ (n : Nat) (x2 : Int32) (M3 : gz_M), lp_J7_fill_53178_5 j20 a0 a1 x1 n x2 M3 = some y → gz_go C 0 0 M3 [(0, .ref a0), (1, .int a1), (2, .int x2), (3, .int x1)] 5 [] := by
  intro n
  induction n with
  | zero => intro x2 M3 hF; exact nomatch (show (none : Option (gz_M)) = some y from hF)
  | succ n5 ih5 =>
    intro x2 M3 hF
    rw [lp_J7_fill_53178_5.eq_2] at hF
    refine gz_iload_n 5 hC 2 dJ7_fill_53178_5 rfl rfl ?_
    refine gz_iload_n 6 hC 3 dJ7_fill_53178_6 rfl rfl ?_
    refine gz_icmp_ge 7 20 hC dJ7_fill_53178_7 (by decide) hF (fun hF => ?_) (fun hF => ?_)
    · skip
      refine gz_sub [] [] rfl ?_
      exact hj20 _ hF
    · skip
      refine gz_aload_n 10 hC 0 dJ7_fill_53178_10 rfl rfl ?_
      refine gz_iload_n 11 hC 2 dJ7_fill_53178_11 rfl rfl ?_
      refine gz_iload_n 12 hC 1 dJ7_fill_53178_12 rfl rfl ?_
      refine gz_iast 13 hC dJ7_fill_53178_13 hF (fun M4 hF => ?_)
      refine gz_iinc 14 hC (x2 + (1 : Int32)) 2 [(2, .int (x2 + (1 : Int32))), (0, .ref a0), (1, .int a1), (3, .int x1)] dJ7_fill_53178_14 rfl rfl (by decide) rfl ?_
      refine gz_goto 17 5 hC dJ7_fill_53178_17 (by decide) ?_
      refine gz_sub [1, 2, 0, 3] [(0, .ref a0), (1, .int a1), (2, .int (x2 + (1 : Int32))), (3, .int x1)] rfl ?_
      exact ih5 _ _ hF
set_option maxHeartbeats 4000000 in
theorem ct_J7_fill_53178 (l : Launch) (G : gz_G) (fu : Nat) (M : gz_M) (a0 : Nat) (a1 : Int32) (y : gz_M) (hF : f_J7_fill_53178 fu M a0 a1 = some y) : gz_ct l yJ7_fill_53178 cJ7_fill_53178 4 none 0 0 0 0 G [.ref a0, .int a1] M none y := by
  refine gz_ct.of (by decide) (Nat.le_of_ble_eq_true rfl) (fun C hC hX => ?_)
  unfold f_J7_fill_53178 at hF
  show gz_go C 0 0 M [(0, .ref a0), (1, .int a1)] 0 []
  refine gz_iconst 0 hC (0 : Int32) dJ7_fill_53178_0 gz_k0 ?_
  refine gz_istore_n 1 hC [(2, .int (0 : Int32)), (0, .ref a0), (1, .int a1)] dJ7_fill_53178_1 rfl (by decide) rfl ?_
  refine gz_aload_n 2 hC 1 dJ7_fill_53178_2 rfl rfl ?_
  refine gz_alen 3 hC dJ7_fill_53178_3 hF (fun x1 hF => ?_)
  refine gz_istore_n 4 hC [(3, .int x1), (2, .int (0 : Int32)), (0, .ref a0), (1, .int a1)] dJ7_fill_53178_4 rfl (by decide) rfl ?_
  refine gz_sub [2, 3, 1, 0] [(0, .ref a0), (1, .int a1), (2, .int (0 : Int32)), (3, .int x1)] rfl ?_
  refine w_J7_fill_53178_5 hC hX ?_ _ _ _ hF
  intro M5 hF
  exact gz_vretM 20 hC hX dJ7_fill_53178_20 hF

theorem dX7_becomeEmpty_0 : decode cX7_becomeEmpty 0 = .ok (.aload_n 0, 1) := by decide +kernel
theorem dX7_becomeEmpty_1 : decode cX7_becomeEmpty 1 = .ok (.iconst 0, 1) := by decide +kernel
theorem dX7_becomeEmpty_2 : decode cX7_becomeEmpty 2 = .ok (.putfield 24, 3) := by decide +kernel
theorem dX7_becomeEmpty_5 : decode cX7_becomeEmpty 5 = .ok (.aload_n 0, 1) := by decide +kernel
theorem dX7_becomeEmpty_6 : decode cX7_becomeEmpty 6 = .ok (.iconst 0, 1) := by decide +kernel
theorem dX7_becomeEmpty_7 : decode cX7_becomeEmpty 7 = .ok (.putfield 28, 3) := by decide +kernel
theorem dX7_becomeEmpty_10 : decode cX7_becomeEmpty 10 = .ok (.aload_n 0, 1) := by decide +kernel
theorem dX7_becomeEmpty_11 : decode cX7_becomeEmpty 11 = .ok (.bipush 50, 2) := by decide +kernel
theorem dX7_becomeEmpty_13 : decode cX7_becomeEmpty 13 = .ok (.putfield 31, 3) := by decide +kernel
theorem dX7_becomeEmpty_16 : decode cX7_becomeEmpty 16 = .ok (.aload_n 0, 1) := by decide +kernel
theorem dX7_becomeEmpty_17 : decode cX7_becomeEmpty 17 = .ok (.iconst 1, 1) := by decide +kernel
theorem dX7_becomeEmpty_18 : decode cX7_becomeEmpty 18 = .ok (.putfield 34, 3) := by decide +kernel
theorem dX7_becomeEmpty_21 : decode cX7_becomeEmpty 21 = .ok (.aload_n 0, 1) := by decide +kernel
theorem dX7_becomeEmpty_22 : decode cX7_becomeEmpty 22 = .ok (.getfield 18, 3) := by decide +kernel
theorem dX7_becomeEmpty_25 : decode cX7_becomeEmpty 25 = .ok (.iconst 1, 1) := by decide +kernel
theorem dX7_becomeEmpty_26 : decode cX7_becomeEmpty 26 = .ok (.invokestatic 37, 3) := by decide +kernel
theorem dX7_becomeEmpty_29 : decode cX7_becomeEmpty 29 = .ok (.aload_n 0, 1) := by decide +kernel
theorem dX7_becomeEmpty_30 : decode cX7_becomeEmpty 30 = .ok (.getfield 21, 3) := by decide +kernel
theorem dX7_becomeEmpty_33 : decode cX7_becomeEmpty 33 = .ok (.bipush 9, 2) := by decide +kernel
theorem dX7_becomeEmpty_35 : decode cX7_becomeEmpty 35 = .ok (.invokestatic 37, 3) := by decide +kernel
theorem dX7_becomeEmpty_38 : decode cX7_becomeEmpty 38 = .ok (.return_, 1) := by decide +kernel

def f_X7_becomeEmpty (fu : Nat) (M : gz_M) (a0 : Nat) : Option (gz_M) :=
  gz_gd M 7 a0 <|
  (gz_pI M 7 4 a0 (0 : Int32)).bind fun M1 =>
  (gz_pI M1 7 5 a0 (0 : Int32)).bind fun M2 =>
  (gz_pI M2 7 6 a0 (50 : Int32)).bind fun M3 =>
  (gz_pI M3 7 7 a0 (1 : Int32)).bind fun M4 =>
  (gz_gR M4 7 2 a0).bind fun x5 =>
  (f_J7_fill_53178 fu M4 x5 (1 : Int32)).bind fun M6 =>
  (gz_gR M6 7 3 a0).bind fun x7 =>
  (f_J7_fill_53178 fu M6 x7 (9 : Int32)).bind fun M8 =>
  some M8

set_option maxHeartbeats 4000000 in
theorem ct_X7_becomeEmpty (l : Launch) (G : gz_G) (fu : Nat) (M : gz_M) (a0 : Nat) (y : gz_M) (hF : f_X7_becomeEmpty fu M a0 = some y) : gz_ct l yX7_becomeEmpty cX7_becomeEmpty 1 none 1 23 0 0 G [.ref a0] M none y := by
  refine gz_ct.of (by decide) (Nat.le_of_ble_eq_true rfl) (fun C hC hX => ?_)
  unfold f_X7_becomeEmpty at hF
  obtain ⟨-, hF⟩ := gz_gd_some hF
  show gz_go C 0 0 M [(0, .ref a0)] 0 []
  refine gz_aload_n 0 hC 0 dX7_becomeEmpty_0 rfl rfl ?_
  refine gz_iconst 1 hC (0 : Int32) dX7_becomeEmpty_1 gz_k0 ?_
  refine gz_putI 2 hC fl_X7_24 fk_7_4 dX7_becomeEmpty_2 hF (fun M1 hF => ?_)
  refine gz_aload_n 5 hC 0 dX7_becomeEmpty_5 rfl rfl ?_
  refine gz_iconst 6 hC (0 : Int32) dX7_becomeEmpty_6 gz_k0 ?_
  refine gz_putI 7 hC fl_X7_28 fk_7_5 dX7_becomeEmpty_7 hF (fun M2 hF => ?_)
  refine gz_aload_n 10 hC 0 dX7_becomeEmpty_10 rfl rfl ?_
  refine gz_bipush 11 hC (50 : Int32) dX7_becomeEmpty_11 gz_b50 ?_
  refine gz_putI 13 hC fl_X7_31 fk_7_6 dX7_becomeEmpty_13 hF (fun M3 hF => ?_)
  refine gz_aload_n 16 hC 0 dX7_becomeEmpty_16 rfl rfl ?_
  refine gz_iconst 17 hC (1 : Int32) dX7_becomeEmpty_17 gz_k1 ?_
  refine gz_putI 18 hC fl_X7_34 fk_7_7 dX7_becomeEmpty_18 hF (fun M4 hF => ?_)
  refine gz_aload_n 21 hC 0 dX7_becomeEmpty_21 rfl rfl ?_
  refine gz_getR 22 hC fl_X7_18 fk_7_2 dX7_becomeEmpty_22 hF (fun x5 hF => ?_)
  refine gz_iconst 25 hC (1 : Int32) dX7_becomeEmpty_25 gz_k1 ?_
  refine gz_csV (st := []) 26 hC hX [.ref x5, .int (1 : Int32)] yl_J7_fill_53178 yv_J7_fill_53178 q_580 ⟨Nat.le_of_ble_eq_true rfl, Nat.le_of_ble_eq_true rfl⟩ (fun r h => ct_J7_fill_53178 _ _ fu M4 x5 (1 : Int32) r h) rfl rfl (Nat.le_of_ble_eq_true rfl) dX7_becomeEmpty_26 gz_00 hF (fun M6 hF => ?_)
  refine gz_aload_n 29 hC 0 dX7_becomeEmpty_29 rfl rfl ?_
  refine gz_getR 30 hC fl_X7_21 fk_7_3 dX7_becomeEmpty_30 hF (fun x7 hF => ?_)
  refine gz_bipush 33 hC (9 : Int32) dX7_becomeEmpty_33 gz_b9 ?_
  refine gz_csV (st := []) 35 hC hX [.ref x7, .int (9 : Int32)] yl_J7_fill_53178 yv_J7_fill_53178 q_580 ⟨Nat.le_of_ble_eq_true rfl, Nat.le_of_ble_eq_true rfl⟩ (fun r h => ct_J7_fill_53178 _ _ fu M6 x7 (9 : Int32) r h) rfl rfl (Nat.le_of_ble_eq_true rfl) dX7_becomeEmpty_35 gz_00 hF (fun M8 hF => ?_)
  exact gz_vretM 38 hC hX dX7_becomeEmpty_38 hF

theorem dX6_at_0 : decode cX6_at 0 = .ok (.iload_n 1, 1) := by decide +kernel
theorem dX6_at_1 : decode cX6_at 1 = .ok (.ifCond .lt 20, 3) := by decide +kernel
theorem dX6_at_4 : decode cX6_at 4 = .ok (.iload_n 1, 1) := by decide +kernel
theorem dX6_at_5 : decode cX6_at 5 = .ok (.aload_n 0, 1) := by decide +kernel
theorem dX6_at_6 : decode cX6_at 6 = .ok (.getfield 15, 3) := by decide +kernel
theorem dX6_at_9 : decode cX6_at 9 = .ok (.if_icmp .ge 12, 3) := by decide +kernel
theorem dX6_at_12 : decode cX6_at 12 = .ok (.aload_n 0, 1) := by decide +kernel
theorem dX6_at_13 : decode cX6_at 13 = .ok (.getfield 9, 3) := by decide +kernel
theorem dX6_at_16 : decode cX6_at 16 = .ok (.iload_n 1, 1) := by decide +kernel
theorem dX6_at_17 : decode cX6_at 17 = .ok (.iaload, 1) := by decide +kernel
theorem dX6_at_18 : decode cX6_at 18 = .ok (.goto 4, 3) := by decide +kernel
theorem dX6_at_21 : decode cX6_at 21 = .ok (.iconst (-1), 1) := by decide +kernel
theorem dX6_at_22 : decode cX6_at 22 = .ok (.ireturn, 1) := by decide +kernel

def f_X6_at (fu : Nat) (M : gz_M) (a0 : Nat) (a1 : Int32) : Option (Int32) :=
  gz_gd M 6 a0 <|
  gz_jn (fun (x4 : Int32) =>
  some x4) fun j22 =>
  gz_jn (j22 (-1 : Int32)) fun j21 =>
  if a1 < 0 then
    j21
  else
    (gz_gI M 6 1 a0).bind fun x1 =>
    if x1 ≤ a1 then
      j21
    else
      (gz_gR M 6 0 a0).bind fun x2 =>
      (gz_aI M x2 a1).bind fun x3 =>
      j22 x3

set_option maxHeartbeats 4000000 in
theorem ct_X6_at (l : Launch) (G : gz_G) (fu : Nat) (M : gz_M) (a0 : Nat) (a1 : Int32) (y : Int32) (hF : f_X6_at fu M a0 a1 = some y) : gz_ct l yX6_at cX6_at 2 (some .int) 0 0 0 0 G [.ref a0, .int a1] M (some (.int y)) M := by
  refine gz_ct.of (by decide) (Nat.le_of_ble_eq_true rfl) (fun C hC hX => ?_)
  unfold f_X6_at at hF
  obtain ⟨-, hF⟩ := gz_gd_some hF
  show gz_go C 0 0 M [(0, .ref a0), (1, .int a1)] 0 []
  refine gz_iload_n 0 hC 1 dX6_at_0 rfl rfl ?_
  refine gz_join (fun (j : Int32 → Option (Int32)) => ∀ (x4 : Int32), j x4 = some y → gz_go C 0 0 M [] 22 [.int x4]) hF (fun x4 hF => ?_) (fun j22 hj22 hF => ?_)
  · skip
    exact gz_iretP 22 hC hX dX6_at_22 hF
  refine gz_join (fun (j : Option (Int32)) => j = some y → gz_go C 0 0 M [] 21 []) hF (fun hF => ?_) (fun j21 hj21 hF => ?_)
  · skip
    refine gz_iconst 21 hC (-1 : Int32) dX6_at_21 gz_km1 ?_
    exact hj22 _ hF
  refine gz_if_lt 1 21 hC dX6_at_1 (by decide) hF (fun hF => ?_) (fun hF => ?_)
  · skip
    refine gz_sub [] [] rfl ?_
    exact hj21 hF
  · skip
    refine gz_iload_n 4 hC 1 dX6_at_4 rfl rfl ?_
    refine gz_aload_n 5 hC 0 dX6_at_5 rfl rfl ?_
    refine gz_getI 6 hC fl_X6_15 fk_6_1 dX6_at_6 hF (fun x1 hF => ?_)
    refine gz_icmp_ge 9 21 hC dX6_at_9 (by decide) hF (fun hF => ?_) (fun hF => ?_)
    · skip
      refine gz_sub [] [] rfl ?_
      exact hj21 hF
    · skip
      refine gz_aload_n 12 hC 0 dX6_at_12 rfl rfl ?_
      refine gz_getR 13 hC fl_X6_9 fk_6_0 dX6_at_13 hF (fun x2 hF => ?_)
      refine gz_iload_n 16 hC 1 dX6_at_16 rfl rfl ?_
      refine gz_iald 17 hC dX6_at_17 hF (fun x3 hF => ?_)
      refine gz_goto 18 22 hC dX6_at_18 (by decide) ?_
      refine gz_sub [] [] rfl ?_
      exact hj22 _ hF

theorem dX2_kindOf_0 : decode cX2_kindOf 0 = .ok (.iload_n 0, 1) := by decide +kernel
theorem dX2_kindOf_1 : decode cX2_kindOf 1 = .ok (.iconst (-1), 1) := by decide +kernel
theorem dX2_kindOf_2 : decode cX2_kindOf 2 = .ok (.if_icmp .ne 5, 3) := by decide +kernel
theorem dX2_kindOf_5 : decode cX2_kindOf 5 = .ok (.iconst 0, 1) := by decide +kernel
theorem dX2_kindOf_6 : decode cX2_kindOf 6 = .ok (.ireturn, 1) := by decide +kernel
theorem dX2_kindOf_7 : decode cX2_kindOf 7 = .ok (.iload_n 0, 1) := by decide +kernel
theorem dX2_kindOf_8 : decode cX2_kindOf 8 = .ok (.bipush 97, 2) := by decide +kernel
theorem dX2_kindOf_10 : decode cX2_kindOf 10 = .ok (.if_icmp .lt 11, 3) := by decide +kernel
theorem dX2_kindOf_13 : decode cX2_kindOf 13 = .ok (.iload_n 0, 1) := by decide +kernel
theorem dX2_kindOf_14 : decode cX2_kindOf 14 = .ok (.bipush 122, 2) := by decide +kernel
theorem dX2_kindOf_16 : decode cX2_kindOf 16 = .ok (.if_icmp .gt 5, 3) := by decide +kernel
theorem dX2_kindOf_19 : decode cX2_kindOf 19 = .ok (.iconst 1, 1) := by decide +kernel
theorem dX2_kindOf_20 : decode cX2_kindOf 20 = .ok (.ireturn, 1) := by decide +kernel
theorem dX2_kindOf_21 : decode cX2_kindOf 21 = .ok (.iload_n 0, 1) := by decide +kernel
theorem dX2_kindOf_22 : decode cX2_kindOf 22 = .ok (.bipush 48, 2) := by decide +kernel
theorem dX2_kindOf_24 : decode cX2_kindOf 24 = .ok (.if_icmp .lt 11, 3) := by decide +kernel
theorem dX2_kindOf_27 : decode cX2_kindOf 27 = .ok (.iload_n 0, 1) := by decide +kernel
theorem dX2_kindOf_28 : decode cX2_kindOf 28 = .ok (.bipush 57, 2) := by decide +kernel
theorem dX2_kindOf_30 : decode cX2_kindOf 30 = .ok (.if_icmp .gt 5, 3) := by decide +kernel
theorem dX2_kindOf_33 : decode cX2_kindOf 33 = .ok (.iconst 2, 1) := by decide +kernel
theorem dX2_kindOf_34 : decode cX2_kindOf 34 = .ok (.ireturn, 1) := by decide +kernel
theorem dX2_kindOf_35 : decode cX2_kindOf 35 = .ok (.iload_n 0, 1) := by decide +kernel
theorem dX2_kindOf_36 : decode cX2_kindOf 36 = .ok (.bipush 59, 2) := by decide +kernel
theorem dX2_kindOf_38 : decode cX2_kindOf 38 = .ok (.if_icmp .ne 7, 3) := by decide +kernel
theorem dX2_kindOf_41 : decode cX2_kindOf 41 = .ok (.iconst 3, 1) := by decide +kernel
theorem dX2_kindOf_42 : decode cX2_kindOf 42 = .ok (.goto 4, 3) := by decide +kernel
theorem dX2_kindOf_45 : decode cX2_kindOf 45 = .ok (.iconst 4, 1) := by decide +kernel
theorem dX2_kindOf_46 : decode cX2_kindOf 46 = .ok (.ireturn, 1) := by decide +kernel

def f_X2_kindOf (fu : Nat) (M : gz_M) (a0 : Int32) : Option (Int32) :=
  if a0 = (-1 : Int32) then
    some (0 : Int32)
  else
    gz_jn (gz_jn (gz_jn (fun (x1 : Int32) =>
        some x1) fun j46 =>
        if a0 = (59 : Int32) then
          j46 (3 : Int32)
        else
          j46 (4 : Int32)) fun j35 =>
      if a0 < (48 : Int32) then
        j35
      else
        if (57 : Int32) < a0 then
          j35
        else
          some (2 : Int32)) fun j21 =>
    if a0 < (97 : Int32) then
      j21
    else
      if (122 : Int32) < a0 then
        j21
      else
        some (1 : Int32)

set_option maxHeartbeats 4000000 in
theorem ct_X2_kindOf (l : Launch) (G : gz_G) (fu : Nat) (M : gz_M) (a0 : Int32) (y : Int32) (hF : f_X2_kindOf fu M a0 = some y) : gz_ct l yX2_kindOf cX2_kindOf 1 (some .int) 0 0 0 0 G [.int a0] M (some (.int y)) M := by
  refine gz_ct.of (by decide) (Nat.le_of_ble_eq_true rfl) (fun C hC hX => ?_)
  unfold f_X2_kindOf at hF
  show gz_go C 0 0 M [(0, .int a0)] 0 []
  refine gz_iload_n 0 hC 0 dX2_kindOf_0 rfl rfl ?_
  refine gz_iconst 1 hC (-1 : Int32) dX2_kindOf_1 gz_km1 ?_
  refine gz_icmp_ne 2 7 hC dX2_kindOf_2 (by decide) hF (fun hF => ?_) (fun hF => ?_)
  · skip
    refine gz_iload_n 7 hC 0 dX2_kindOf_7 rfl rfl ?_
    refine gz_bipush 8 hC (97 : Int32) dX2_kindOf_8 gz_b97 ?_
    refine gz_join (fun (j : Option (Int32)) => j = some y → gz_go C 0 0 M [(0, .int a0)] 21 []) hF (fun hF => ?_) (fun j21 hj21 hF => ?_)
    · skip
      refine gz_iload_n 21 hC 0 dX2_kindOf_21 rfl rfl ?_
      refine gz_bipush 22 hC (48 : Int32) dX2_kindOf_22 gz_b48 ?_
      refine gz_join (fun (j : Option (Int32)) => j = some y → gz_go C 0 0 M [(0, .int a0)] 35 []) hF (fun hF => ?_) (fun j35 hj35 hF => ?_)
      · skip
        refine gz_iload_n 35 hC 0 dX2_kindOf_35 rfl rfl ?_
        refine gz_bipush 36 hC (59 : Int32) dX2_kindOf_36 gz_b59 ?_
        refine gz_join (fun (j : Int32 → Option (Int32)) => ∀ (x1 : Int32), j x1 = some y → gz_go C 0 0 M [] 46 [.int x1]) hF (fun x1 hF => ?_) (fun j46 hj46 hF => ?_)
        · skip
          exact gz_iretP 46 hC hX dX2_kindOf_46 hF
        refine gz_icmp_ne 38 45 hC dX2_kindOf_38 (by decide) hF (fun hF => ?_) (fun hF => ?_)
        · skip
          refine gz_iconst 45 hC (4 : Int32) dX2_kindOf_45 gz_k4 ?_
          refine gz_sub [] [] rfl ?_
          exact hj46 _ hF
        · skip
          refine gz_iconst 41 hC (3 : Int32) dX2_kindOf_41 gz_k3 ?_
          refine gz_goto 42 46 hC dX2_kindOf_42 (by decide) ?_
          refine gz_sub [] [] rfl ?_
          exact hj46 _ hF
      refine gz_icmp_lt 24 35 hC dX2_kindOf_24 (by decide) hF (fun hF => ?_) (fun hF => ?_)
      · skip
        exact hj35 hF
      · skip
        refine gz_iload_n 27 hC 0 dX2_kindOf_27 rfl rfl ?_
        refine gz_bipush 28 hC (57 : Int32) dX2_kindOf_28 gz_b57 ?_
        refine gz_icmp_gt 30 35 hC dX2_kindOf_30 (by decide) hF (fun hF => ?_) (fun hF => ?_)
        · skip
          exact hj35 hF
        · skip
          refine gz_iconst 33 hC (2 : Int32) dX2_kindOf_33 gz_k2 ?_
          exact gz_iretP 34 hC hX dX2_kindOf_34 hF
    refine gz_icmp_lt 10 21 hC dX2_kindOf_10 (by decide) hF (fun hF => ?_) (fun hF => ?_)
    · skip
      exact hj21 hF
    · skip
      refine gz_iload_n 13 hC 0 dX2_kindOf_13 rfl rfl ?_
      refine gz_bipush 14 hC (122 : Int32) dX2_kindOf_14 gz_b122 ?_
      refine gz_icmp_gt 16 21 hC dX2_kindOf_16 (by decide) hF (fun hF => ?_) (fun hF => ?_)
      · skip
        exact hj21 hF
      · skip
        refine gz_iconst 19 hC (1 : Int32) dX2_kindOf_19 gz_k1 ?_
        exact gz_iretP 20 hC hX dX2_kindOf_20 hF
  · skip
    refine gz_iconst 5 hC (0 : Int32) dX2_kindOf_5 gz_k0 ?_
    exact gz_iretP 6 hC hX dX2_kindOf_6 hF
