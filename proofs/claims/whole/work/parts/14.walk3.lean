theorem dX3_fillLeast_0 : decode cX3_fillLeast 0 = .ok (.aload_n 0, 1) := by decide +kernel
theorem dX3_fillLeast_1 : decode cX3_fillLeast 1 = .ok (.getfield 21, 3) := by decide +kernel
theorem dX3_fillLeast_4 : decode cX3_fillLeast 4 = .ok (.iconst 0, 1) := by decide +kernel
theorem dX3_fillLeast_5 : decode cX3_fillLeast 5 = .ok (.ldc 57, 2) := by decide +kernel
theorem dX3_fillLeast_7 : decode cX3_fillLeast 7 = .ok (.iastore, 1) := by decide +kernel
theorem dX3_fillLeast_8 : decode cX3_fillLeast 8 = .ok (.iconst 0, 1) := by decide +kernel
theorem dX3_fillLeast_9 : decode cX3_fillLeast 9 = .ok (.istore_n 3, 1) := by decide +kernel
theorem dX3_fillLeast_10 : decode cX3_fillLeast 10 = .ok (.iload_n 3, 1) := by decide +kernel
theorem dX3_fillLeast_11 : decode cX3_fillLeast 11 = .ok (.aload_n 1, 1) := by decide +kernel
theorem dX3_fillLeast_12 : decode cX3_fillLeast 12 = .ok (.getfield 28, 3) := by decide +kernel
theorem dX3_fillLeast_15 : decode cX3_fillLeast 15 = .ok (.if_icmp .ge 75, 3) := by decide +kernel
theorem dX3_fillLeast_18 : decode cX3_fillLeast 18 = .ok (.iconst 1, 1) := by decide +kernel
theorem dX3_fillLeast_19 : decode cX3_fillLeast 19 = .ok (.iload_n 3, 1) := by decide +kernel
theorem dX3_fillLeast_20 : decode cX3_fillLeast 20 = .ok (.ishl, 1) := by decide +kernel
theorem dX3_fillLeast_21 : decode cX3_fillLeast 21 = .ok (.istore 4, 2) := by decide +kernel
theorem dX3_fillLeast_23 : decode cX3_fillLeast 23 = .ok (.aload_n 1, 1) := by decide +kernel
theorem dX3_fillLeast_24 : decode cX3_fillLeast 24 = .ok (.iload_n 3, 1) := by decide +kernel
theorem dX3_fillLeast_25 : decode cX3_fillLeast 25 = .ok (.iload_n 2, 1) := by decide +kernel
theorem dX3_fillLeast_26 : decode cX3_fillLeast 26 = .ok (.invokevirtual 58, 3) := by decide +kernel
theorem dX3_fillLeast_29 : decode cX3_fillLeast 29 = .ok (.istore 5, 2) := by decide +kernel
theorem dX3_fillLeast_31 : decode cX3_fillLeast 31 = .ok (.iload 5, 2) := by decide +kernel
theorem dX3_fillLeast_33 : decode cX3_fillLeast 33 = .ok (.iconst (-1), 1) := by decide +kernel
theorem dX3_fillLeast_34 : decode cX3_fillLeast 34 = .ok (.if_icmp .ne 8, 3) := by decide +kernel
theorem dX3_fillLeast_37 : decode cX3_fillLeast 37 = .ok (.ldc 57, 2) := by decide +kernel
theorem dX3_fillLeast_39 : decode cX3_fillLeast 39 = .ok (.goto 5, 3) := by decide +kernel
theorem dX3_fillLeast_42 : decode cX3_fillLeast 42 = .ok (.iload 5, 2) := by decide +kernel
theorem dX3_fillLeast_44 : decode cX3_fillLeast 44 = .ok (.istore 6, 2) := by decide +kernel
theorem dX3_fillLeast_46 : decode cX3_fillLeast 46 = .ok (.iconst 0, 1) := by decide +kernel
theorem dX3_fillLeast_47 : decode cX3_fillLeast 47 = .ok (.istore 7, 2) := by decide +kernel
theorem dX3_fillLeast_49 : decode cX3_fillLeast 49 = .ok (.iload 7, 2) := by decide +kernel
theorem dX3_fillLeast_51 : decode cX3_fillLeast 51 = .ok (.iload 4, 2) := by decide +kernel
theorem dX3_fillLeast_53 : decode cX3_fillLeast 53 = .ok (.if_icmp .ge 31, 3) := by decide +kernel
theorem dX3_fillLeast_56 : decode cX3_fillLeast 56 = .ok (.aload_n 0, 1) := by decide +kernel
theorem dX3_fillLeast_57 : decode cX3_fillLeast 57 = .ok (.getfield 21, 3) := by decide +kernel
theorem dX3_fillLeast_60 : decode cX3_fillLeast 60 = .ok (.iload 4, 2) := by decide +kernel
theorem dX3_fillLeast_62 : decode cX3_fillLeast 62 = .ok (.iload 7, 2) := by decide +kernel
theorem dX3_fillLeast_64 : decode cX3_fillLeast 64 = .ok (.iadd, 1) := by decide +kernel
theorem dX3_fillLeast_65 : decode cX3_fillLeast 65 = .ok (.aload_n 0, 1) := by decide +kernel
theorem dX3_fillLeast_66 : decode cX3_fillLeast 66 = .ok (.getfield 21, 3) := by decide +kernel
theorem dX3_fillLeast_69 : decode cX3_fillLeast 69 = .ok (.iload 7, 2) := by decide +kernel
theorem dX3_fillLeast_71 : decode cX3_fillLeast 71 = .ok (.iaload, 1) := by decide +kernel
theorem dX3_fillLeast_72 : decode cX3_fillLeast 72 = .ok (.iload 6, 2) := by decide +kernel
theorem dX3_fillLeast_74 : decode cX3_fillLeast 74 = .ok (.invokestatic 61, 3) := by decide +kernel
theorem dX3_fillLeast_77 : decode cX3_fillLeast 77 = .ok (.iastore, 1) := by decide +kernel
theorem dX3_fillLeast_78 : decode cX3_fillLeast 78 = .ok (.iinc 7 1, 3) := by decide +kernel
theorem dX3_fillLeast_81 : decode cX3_fillLeast 81 = .ok (.goto (-32), 3) := by decide +kernel
theorem dX3_fillLeast_84 : decode cX3_fillLeast 84 = .ok (.iinc 3 1, 3) := by decide +kernel
theorem dX3_fillLeast_87 : decode cX3_fillLeast 87 = .ok (.goto (-77), 3) := by decide +kernel
theorem dX3_fillLeast_90 : decode cX3_fillLeast 90 = .ok (.return_, 1) := by decide +kernel
def lp_X3_fillLeast_49 (j84 : gz_M → Option (gz_M)) (a0 : Nat) (x3 : Int32) (x7 : Int32) : Nat → Int32 → gz_M → Option (gz_M)
  | 0, _, _ => none
  | n49 + 1, x8, M9 =>
    if ((1 : Int32) <<< (x3 &&& 31)) ≤ x8 then
      j84 M9
    else
      (gz_gR M9 3 3 a0).bind fun x10 =>
      (gz_gR M9 3 3 a0).bind fun x11 =>
      (gz_aI M9 x11 x8).bind fun x12 =>
      (gz_tI M9 x10 (((1 : Int32) <<< (x3 &&& 31)) + x8) (if x7 < x12 then x7 else x12)).bind fun M13 =>
      lp_X3_fillLeast_49 j84 a0 x3 x7 n49 (x8 + (1 : Int32)) M13
def lp_X3_fillLeast_10 (j90 : gz_M → Option (gz_M)) (fu : Nat) (a0 : Nat) (a1 : Nat) (a2 : Int32) : Nat → Int32 → gz_M → Option (gz_M)
  | 0, _, _ => none
  | n10 + 1, x3, M4 =>
    (gz_gI M4 7 5 a1).bind fun x5 =>
    if x5 ≤ x3 then
      j90 M4
    else
      (f_X7_badnessOf fu M4 a1 x3 a2).bind fun x6 =>
      gz_jn (fun (x7 : Int32) =>
      lp_X3_fillLeast_49 (fun (M14 : gz_M) => lp_X3_fillLeast_10 j90 fu a0 a1 a2 n10 (x3 + (1 : Int32)) M14) a0 x3 x7 fu (0 : Int32) M4) fun j44 =>
      if x6 = (-1 : Int32) then
        j44 (2147483647 : Int32)
      else
        j44 x6
def f_X3_fillLeast (fu : Nat) (M : gz_M) (a0 : Nat) (a1 : Nat) (a2 : Int32) : Option (gz_M) :=
  gz_gd M 3 a0 <|
  (gz_gR M 3 3 a0).bind fun x1 =>
  (gz_tI M x1 (0 : Int32) (2147483647 : Int32)).bind fun M2 =>
  lp_X3_fillLeast_10 (fun (M15 : gz_M) => some M15) fu a0 a1 a2 fu (0 : Int32) M2
set_option maxHeartbeats 4000000 in
theorem w_X3_fillLeast_49 {C : gz_C} {y : gz_M} {a0 : Nat} {x3 : Int32} {x7 : Int32} {a1 : Nat} {a2 : Int32} {j84 : gz_M → Option (gz_M)} (hC : gz_ok C cX3_fillLeast RX3 8) (hX : gz_cx C 4 98 0 0 none none y "fillLeast") (hj84 : ∀ (M14 : gz_M), j84 M14 = some y → gz_go C 0 0 M14 [(0, .ref a0), (1, .ref a1), (2, .int a2), (3, .int x3)] 84 []) : ∀ (n : Nat) (x8 : Int32) (M9 : gz_M), lp_X3_fillLeast_49 j84 a0 x3 x7 n x8 M9 = some y → gz_go C 0 0 M9 [(0, .ref a0), (1, .ref a1), (2, .int a2), (3, .int x3), (4, .int ((1 : Int32) <<< (x3 &&& 31))), (6, .int x7), (7, .int x8)] 49 [] := by
  intro n
  induction n with
  | zero => intro x8 M9 hF; exact nomatch (show (none : Option (gz_M)) = some y from hF)
  | succ n49 ih49 =>
    intro x8 M9 hF
    rw [lp_X3_fillLeast_49.eq_2] at hF
    refine gz_iload 49 hC 6 dX3_fillLeast_49 rfl ?_
    refine gz_iload 51 hC 4 dX3_fillLeast_51 rfl ?_
    refine gz_icmp_ge 53 84 hC dX3_fillLeast_53 (by decide) hF (fun hF => ?_) (fun hF => ?_)
    · skip
      refine gz_sub [0, 1, 2, 3] [(0, .ref a0), (1, .ref a1), (2, .int a2), (3, .int x3)] rfl ?_
      exact hj84 _ hF
    · skip
      refine gz_aload_n 56 hC 0 dX3_fillLeast_56 rfl rfl ?_
      refine gz_getR 57 hC fl_X3_21 fk_3_3 dX3_fillLeast_57 hF (fun x10 hF => ?_)
      refine gz_iload 60 hC 4 dX3_fillLeast_60 rfl ?_
      refine gz_iload 62 hC 6 dX3_fillLeast_62 rfl ?_
      refine gz_iadd 64 hC dX3_fillLeast_64 ?_
      refine gz_aload_n 65 hC 0 dX3_fillLeast_65 rfl rfl ?_
      refine gz_getR 66 hC fl_X3_21 fk_3_3 dX3_fillLeast_66 hF (fun x11 hF => ?_)
      refine gz_iload 69 hC 6 dX3_fillLeast_69 rfl ?_
      refine gz_iald 71 hC dX3_fillLeast_71 hF (fun x12 hF => ?_)
      refine gz_iload 72 hC 5 dX3_fillLeast_72 rfl ?_
      refine gz_mmin 74 hC hX q_841 ⟨Nat.le_of_ble_eq_true rfl, Nat.le_of_ble_eq_true rfl⟩ gz_00 dX3_fillLeast_74 ?_
      refine gz_iast 77 hC dX3_fillLeast_77 hF (fun M13 hF => ?_)
      refine gz_iinc 78 hC (x8 + (1 : Int32)) 6 [(7, .int (x8 + (1 : Int32))), (0, .ref a0), (1, .ref a1), (2, .int a2), (3, .int x3), (4, .int ((1 : Int32) <<< (x3 &&& 31))), (6, .int x7)] dX3_fillLeast_78 rfl rfl (by decide) rfl ?_
      refine gz_goto 81 49 hC dX3_fillLeast_81 (by decide) ?_
      refine gz_sub [1, 2, 3, 4, 5, 6, 0] [(0, .ref a0), (1, .ref a1), (2, .int a2), (3, .int x3), (4, .int ((1 : Int32) <<< (x3 &&& 31))), (6, .int x7), (7, .int (x8 + (1 : Int32)))] rfl ?_
      exact ih49 _ _ hF
set_option maxHeartbeats 4000000 in
theorem w_X3_fillLeast_10 {C : gz_C} {y : gz_M} {fu : Nat} {a0 : Nat} {a1 : Nat} {a2 : Int32} {j90 : gz_M → Option (gz_M)} (hC : gz_ok C cX3_fillLeast RX3 8) (hX : gz_cx C 4 98 0 0 none none y "fillLeast") (hj90 : ∀ (M15 : gz_M), j90 M15 = some y → gz_go C 0 0 M15 [] 90 []) : ∀ (n : Nat) (x3 : Int32) (M4 : gz_M), lp_X3_fillLeast_10 j90 fu a0 a1 a2 n x3 M4 = some y → gz_go C 0 0 M4 [(0, .ref a0), (1, .ref a1), (2, .int a2), (3, .int x3)] 10 [] := by
  intro n
  induction n with
  | zero => intro x3 M4 hF; exact nomatch (show (none : Option (gz_M)) = some y from hF)
  | succ n10 ih10 =>
    intro x3 M4 hF
    rw [lp_X3_fillLeast_10.eq_2] at hF
    refine gz_iload_n 10 hC 3 dX3_fillLeast_10 rfl rfl ?_
    refine gz_aload_n 11 hC 1 dX3_fillLeast_11 rfl rfl ?_
    refine gz_getI 12 hC fl_X3_28 fk_7_5 dX3_fillLeast_12 hF (fun x5 hF => ?_)
    refine gz_icmp_ge 15 90 hC dX3_fillLeast_15 (by decide) hF (fun hF => ?_) (fun hF => ?_)
    · skip
      refine gz_sub [] [] rfl ?_
      exact hj90 _ hF
    · skip
      refine gz_iconst 18 hC (1 : Int32) dX3_fillLeast_18 gz_k1 ?_
      refine gz_iload_n 19 hC 3 dX3_fillLeast_19 rfl rfl ?_
      refine gz_ishl 20 hC dX3_fillLeast_20 ?_
      refine gz_istore 21 hC [(4, .int ((1 : Int32) <<< (x3 &&& 31))), (0, .ref a0), (1, .ref a1), (2, .int a2), (3, .int x3)] dX3_fillLeast_21 (by decide) rfl ?_
      refine gz_aload_n 23 hC 2 dX3_fillLeast_23 rfl rfl ?_
      refine gz_iload_n 24 hC 4 dX3_fillLeast_24 rfl rfl ?_
      refine gz_iload_n 25 hC 3 dX3_fillLeast_25 rfl rfl ?_
      refine gz_cvP (st := []) 26 hC hX [.int x3, .int a2] Value.int yl_X7_badnessOf yv_X7_badnessOf q_840 ⟨Nat.le_of_ble_eq_true rfl, Nat.le_of_ble_eq_true rfl⟩ ⟨_, rfl⟩ (fun r h => ct_X7_badnessOf _ _ fu M4 a1 x3 a2 r h) rfl rfl (Nat.le_of_ble_eq_true rfl) dX3_fillLeast_26 gz_00 hF (fun x6 hF => ?_)
      refine gz_istore 29 hC [(5, .int x6), (4, .int ((1 : Int32) <<< (x3 &&& 31))), (0, .ref a0), (1, .ref a1), (2, .int a2), (3, .int x3)] dX3_fillLeast_29 (by decide) rfl ?_
      refine gz_iload 31 hC 0 dX3_fillLeast_31 rfl ?_
      refine gz_iconst 33 hC (-1 : Int32) dX3_fillLeast_33 gz_km1 ?_
      refine gz_join (fun (j : Int32 → Option (gz_M)) => ∀ (x7 : Int32), j x7 = some y → gz_go C 0 0 M4 [(0, .ref a0), (1, .ref a1), (2, .int a2), (3, .int x3), (4, .int ((1 : Int32) <<< (x3 &&& 31)))] 44 [.int x7]) hF (fun x7 hF => ?_) (fun j44 hj44 hF => ?_)
      · skip
        refine gz_istore 44 hC [(6, .int x7), (0, .ref a0), (1, .ref a1), (2, .int a2), (3, .int x3), (4, .int ((1 : Int32) <<< (x3 &&& 31)))] dX3_fillLeast_44 (by decide) rfl ?_
        refine gz_iconst 46 hC (0 : Int32) dX3_fillLeast_46 gz_k0 ?_
        refine gz_istore 47 hC [(7, .int (0 : Int32)), (6, .int x7), (0, .ref a0), (1, .ref a1), (2, .int a2), (3, .int x3), (4, .int ((1 : Int32) <<< (x3 &&& 31)))] dX3_fillLeast_47 (by decide) rfl ?_
        refine gz_sub [2, 3, 4, 5, 6, 1, 0] [(0, .ref a0), (1, .ref a1), (2, .int a2), (3, .int x3), (4, .int ((1 : Int32) <<< (x3 &&& 31))), (6, .int x7), (7, .int (0 : Int32))] rfl ?_
        refine w_X3_fillLeast_49 hC hX ?_ _ _ _ hF
        intro M14 hF
        refine gz_iinc 84 hC (x3 + (1 : Int32)) 3 [(3, .int (x3 + (1 : Int32))), (0, .ref a0), (1, .ref a1), (2, .int a2)] dX3_fillLeast_84 rfl rfl (by decide) rfl ?_
        refine gz_goto 87 10 hC dX3_fillLeast_87 (by decide) ?_
        refine gz_sub [1, 2, 3, 0] [(0, .ref a0), (1, .ref a1), (2, .int a2), (3, .int (x3 + (1 : Int32)))] rfl ?_
        exact ih10 _ _ hF
      refine gz_icmp_ne 34 42 hC dX3_fillLeast_34 (by decide) hF (fun hF => ?_) (fun hF => ?_)
      · skip
        refine gz_iload 42 hC 0 dX3_fillLeast_42 rfl ?_
        refine gz_sub [2, 3, 4, 5, 1] [(0, .ref a0), (1, .ref a1), (2, .int a2), (3, .int x3), (4, .int ((1 : Int32) <<< (x3 &&& 31)))] rfl ?_
        exact hj44 _ hF
      · skip
        refine gz_ldc 37 hC dX3_fillLeast_37 q_839 ?_
        refine gz_goto 39 44 hC dX3_fillLeast_39 (by decide) ?_
        refine gz_sub [2, 3, 4, 5, 1] [(0, .ref a0), (1, .ref a1), (2, .int a2), (3, .int x3), (4, .int ((1 : Int32) <<< (x3 &&& 31)))] rfl ?_
        exact hj44 _ hF
set_option maxHeartbeats 4000000 in
theorem ct_X3_fillLeast (l : Launch) (G : gz_G) (fu : Nat) (M : gz_M) (a0 : Nat) (a1 : Nat) (a2 : Int32) (y : gz_M) (hF : f_X3_fillLeast fu M a0 a1 a2 = some y) : gz_ct l yX3_fillLeast cX3_fillLeast 8 none 4 98 0 0 G [.ref a0, .ref a1, .int a2] M none y := by
  refine gz_ct.of (by decide) (Nat.le_of_ble_eq_true rfl) (fun C hC hX => ?_)
  unfold f_X3_fillLeast at hF
  obtain ⟨-, hF⟩ := gz_gd_some hF
  show gz_go C 0 0 M [(0, .ref a0), (1, .ref a1), (2, .int a2)] 0 []
  refine gz_aload_n 0 hC 0 dX3_fillLeast_0 rfl rfl ?_
  refine gz_getR 1 hC fl_X3_21 fk_3_3 dX3_fillLeast_1 hF (fun x1 hF => ?_)
  refine gz_iconst 4 hC (0 : Int32) dX3_fillLeast_4 gz_k0 ?_
  refine gz_ldc 5 hC dX3_fillLeast_5 q_839 ?_
  refine gz_iast 7 hC dX3_fillLeast_7 hF (fun M2 hF => ?_)
  refine gz_iconst 8 hC (0 : Int32) dX3_fillLeast_8 gz_k0 ?_
  refine gz_istore_n 9 hC [(3, .int (0 : Int32)), (0, .ref a0), (1, .ref a1), (2, .int a2)] dX3_fillLeast_9 rfl (by decide) rfl ?_
  refine gz_sub [1, 2, 3, 0] [(0, .ref a0), (1, .ref a1), (2, .int a2), (3, .int (0 : Int32))] rfl ?_
  refine w_X3_fillLeast_10 hC hX ?_ _ _ _ hF
  intro M15 hF
  exact gz_vretM 90 hC hX dX3_fillLeast_90 hF

theorem dX7_costAt_0 : decode cX7_costAt 0 = .ok (.aload_n 0, 1) := by decide +kernel
theorem dX7_costAt_1 : decode cX7_costAt 1 = .ok (.iload_n 1, 1) := by decide +kernel
theorem dX7_costAt_2 : decode cX7_costAt 2 = .ok (.iconst 3, 1) := by decide +kernel
theorem dX7_costAt_3 : decode cX7_costAt 3 = .ok (.invokevirtual 56, 3) := by decide +kernel
theorem dX7_costAt_6 : decode cX7_costAt 6 = .ok (.iload_n 2, 1) := by decide +kernel
theorem dX7_costAt_7 : decode cX7_costAt 7 = .ok (.ldc 71, 2) := by decide +kernel
theorem dX7_costAt_9 : decode cX7_costAt 9 = .ok (.if_icmp .ne 10, 3) := by decide +kernel
theorem dX7_costAt_12 : decode cX7_costAt 12 = .ok (.aload_n 0, 1) := by decide +kernel
theorem dX7_costAt_13 : decode cX7_costAt 13 = .ok (.getfield 31, 3) := by decide +kernel
theorem dX7_costAt_16 : decode cX7_costAt 16 = .ok (.goto 4, 3) := by decide +kernel
theorem dX7_costAt_19 : decode cX7_costAt 19 = .ok (.iload_n 2, 1) := by decide +kernel
theorem dX7_costAt_20 : decode cX7_costAt 20 = .ok (.imul, 1) := by decide +kernel
theorem dX7_costAt_21 : decode cX7_costAt 21 = .ok (.ireturn, 1) := by decide +kernel

def f_X7_costAt (fu : Nat) (M : gz_M) (a0 : Nat) (a1 : Int32) (a2 : Int32) : Option (Int32) :=
  gz_gd M 7 a0 <|
  (f_X7_footPart fu M a0 a1 (3 : Int32)).bind fun x1 =>
  gz_jn (fun (x3 : Int32) =>
  some (x1 * x3)) fun j20 =>
  if a2 = (2147483647 : Int32) then
    (gz_gI M 7 6 a0).bind fun x2 =>
    j20 x2
  else
    j20 a2

set_option maxHeartbeats 4000000 in
theorem ct_X7_costAt (l : Launch) (G : gz_G) (fu : Nat) (M : gz_M) (a0 : Nat) (a1 : Int32) (a2 : Int32) (y : Int32) (hF : f_X7_costAt fu M a0 a1 a2 = some y) : gz_ct l yX7_costAt cX7_costAt 3 (some .int) 1 22 0 0 G [.ref a0, .int a1, .int a2] M (some (.int y)) M := by
  refine gz_ct.of (by decide) (Nat.le_of_ble_eq_true rfl) (fun C hC hX => ?_)
  unfold f_X7_costAt at hF
  obtain ⟨-, hF⟩ := gz_gd_some hF
  show gz_go C 0 0 M [(0, .ref a0), (1, .int a1), (2, .int a2)] 0 []
  refine gz_aload_n 0 hC 0 dX7_costAt_0 rfl rfl ?_
  refine gz_iload_n 1 hC 1 dX7_costAt_1 rfl rfl ?_
  refine gz_iconst 2 hC (3 : Int32) dX7_costAt_2 gz_k3 ?_
  refine gz_cvP (st := []) 3 hC hX [.int a1, .int (3 : Int32)] Value.int yl_X7_footPart yv_X7_footPart q_537 ⟨Nat.le_of_ble_eq_true rfl, Nat.le_of_ble_eq_true rfl⟩ ⟨_, rfl⟩ (fun r h => ct_X7_footPart _ _ fu M a0 a1 (3 : Int32) r h) rfl rfl (Nat.le_of_ble_eq_true rfl) dX7_costAt_3 gz_00 hF (fun x1 hF => ?_)
  refine gz_iload_n 6 hC 2 dX7_costAt_6 rfl rfl ?_
  refine gz_ldc 7 hC dX7_costAt_7 q_783 ?_
  refine gz_join (fun (j : Int32 → Option (Int32)) => ∀ (x3 : Int32), j x3 = some y → gz_go C 0 0 M [] 20 [.int x3, .int x1]) hF (fun x3 hF => ?_) (fun j20 hj20 hF => ?_)
  · skip
    refine gz_imul 20 hC dX7_costAt_20 ?_
    exact gz_iretP 21 hC hX dX7_costAt_21 hF
  refine gz_icmp_ne 9 19 hC dX7_costAt_9 (by decide) hF (fun hF => ?_) (fun hF => ?_)
  · skip
    refine gz_iload_n 19 hC 2 dX7_costAt_19 rfl rfl ?_
    refine gz_sub [] [] rfl ?_
    exact hj20 _ hF
  · skip
    refine gz_aload_n 12 hC 0 dX7_costAt_12 rfl rfl ?_
    refine gz_getI 13 hC fl_X7_31 fk_7_6 dX7_costAt_13 hF (fun x2 hF => ?_)
    refine gz_goto 16 20 hC dX7_costAt_16 (by decide) ?_
    refine gz_sub [] [] rfl ?_
    exact hj20 _ hF

theorem dX3_addFoot_0 : decode cX3_addFoot 0 = .ok (.aload_n 1, 1) := by decide +kernel
theorem dX3_addFoot_1 : decode cX3_addFoot 1 = .ok (.iload_n 2, 1) := by decide +kernel
theorem dX3_addFoot_2 : decode cX3_addFoot 2 = .ok (.iconst 3, 1) := by decide +kernel
theorem dX3_addFoot_3 : decode cX3_addFoot 3 = .ok (.invokevirtual 66, 3) := by decide +kernel
theorem dX3_addFoot_6 : decode cX3_addFoot 6 = .ok (.istore_n 3, 1) := by decide +kernel
theorem dX3_addFoot_7 : decode cX3_addFoot 7 = .ok (.aload_n 1, 1) := by decide +kernel
theorem dX3_addFoot_8 : decode cX3_addFoot 8 = .ok (.iload_n 2, 1) := by decide +kernel
theorem dX3_addFoot_9 : decode cX3_addFoot 9 = .ok (.ldc 57, 2) := by decide +kernel
theorem dX3_addFoot_11 : decode cX3_addFoot 11 = .ok (.invokevirtual 69, 3) := by decide +kernel
theorem dX3_addFoot_14 : decode cX3_addFoot 14 = .ok (.istore 4, 2) := by decide +kernel
theorem dX3_addFoot_16 : decode cX3_addFoot 16 = .ok (.iconst 0, 1) := by decide +kernel
theorem dX3_addFoot_17 : decode cX3_addFoot 17 = .ok (.istore 5, 2) := by decide +kernel
theorem dX3_addFoot_19 : decode cX3_addFoot 19 = .ok (.iload 5, 2) := by decide +kernel
theorem dX3_addFoot_21 : decode cX3_addFoot 21 = .ok (.aload_n 0, 1) := by decide +kernel
theorem dX3_addFoot_22 : decode cX3_addFoot 22 = .ok (.getfield 24, 3) := by decide +kernel
theorem dX3_addFoot_25 : decode cX3_addFoot 25 = .ok (.if_icmp .ge 84, 3) := by decide +kernel
theorem dX3_addFoot_28 : decode cX3_addFoot 28 = .ok (.aload_n 0, 1) := by decide +kernel
theorem dX3_addFoot_29 : decode cX3_addFoot 29 = .ok (.getfield 21, 3) := by decide +kernel
theorem dX3_addFoot_32 : decode cX3_addFoot 32 = .ok (.iload 5, 2) := by decide +kernel
theorem dX3_addFoot_34 : decode cX3_addFoot 34 = .ok (.iaload, 1) := by decide +kernel
theorem dX3_addFoot_35 : decode cX3_addFoot 35 = .ok (.istore 6, 2) := by decide +kernel
theorem dX3_addFoot_37 : decode cX3_addFoot 37 = .ok (.iload 6, 2) := by decide +kernel
theorem dX3_addFoot_39 : decode cX3_addFoot 39 = .ok (.ldc 57, 2) := by decide +kernel
theorem dX3_addFoot_41 : decode cX3_addFoot 41 = .ok (.if_icmp .ne 29, 3) := by decide +kernel
theorem dX3_addFoot_44 : decode cX3_addFoot 44 = .ok (.aload_n 0, 1) := by decide +kernel
theorem dX3_addFoot_45 : decode cX3_addFoot 45 = .ok (.getfield 9, 3) := by decide +kernel
theorem dX3_addFoot_48 : decode cX3_addFoot 48 = .ok (.iload 5, 2) := by decide +kernel
theorem dX3_addFoot_50 : decode cX3_addFoot 50 = .ok (.dup2, 1) := by decide +kernel
theorem dX3_addFoot_51 : decode cX3_addFoot 51 = .ok (.iaload, 1) := by decide +kernel
theorem dX3_addFoot_52 : decode cX3_addFoot 52 = .ok (.iload 4, 2) := by decide +kernel
theorem dX3_addFoot_54 : decode cX3_addFoot 54 = .ok (.iadd, 1) := by decide +kernel
theorem dX3_addFoot_55 : decode cX3_addFoot 55 = .ok (.iastore, 1) := by decide +kernel
theorem dX3_addFoot_56 : decode cX3_addFoot 56 = .ok (.aload_n 0, 1) := by decide +kernel
theorem dX3_addFoot_57 : decode cX3_addFoot 57 = .ok (.getfield 15, 3) := by decide +kernel
theorem dX3_addFoot_60 : decode cX3_addFoot 60 = .ok (.iload 5, 2) := by decide +kernel
theorem dX3_addFoot_62 : decode cX3_addFoot 62 = .ok (.dup2, 1) := by decide +kernel
theorem dX3_addFoot_63 : decode cX3_addFoot 63 = .ok (.iaload, 1) := by decide +kernel
theorem dX3_addFoot_64 : decode cX3_addFoot 64 = .ok (.iload_n 3, 1) := by decide +kernel
theorem dX3_addFoot_65 : decode cX3_addFoot 65 = .ok (.iadd, 1) := by decide +kernel
theorem dX3_addFoot_66 : decode cX3_addFoot 66 = .ok (.iastore, 1) := by decide +kernel
theorem dX3_addFoot_67 : decode cX3_addFoot 67 = .ok (.goto 36, 3) := by decide +kernel
theorem dX3_addFoot_70 : decode cX3_addFoot 70 = .ok (.aload_n 0, 1) := by decide +kernel
theorem dX3_addFoot_71 : decode cX3_addFoot 71 = .ok (.getfield 9, 3) := by decide +kernel
theorem dX3_addFoot_74 : decode cX3_addFoot 74 = .ok (.iload 5, 2) := by decide +kernel
theorem dX3_addFoot_76 : decode cX3_addFoot 76 = .ok (.dup2, 1) := by decide +kernel
theorem dX3_addFoot_77 : decode cX3_addFoot 77 = .ok (.iaload, 1) := by decide +kernel
theorem dX3_addFoot_78 : decode cX3_addFoot 78 = .ok (.iload_n 3, 1) := by decide +kernel
theorem dX3_addFoot_79 : decode cX3_addFoot 79 = .ok (.iload 6, 2) := by decide +kernel
theorem dX3_addFoot_81 : decode cX3_addFoot 81 = .ok (.imul, 1) := by decide +kernel
theorem dX3_addFoot_82 : decode cX3_addFoot 82 = .ok (.iadd, 1) := by decide +kernel
theorem dX3_addFoot_83 : decode cX3_addFoot 83 = .ok (.iastore, 1) := by decide +kernel
theorem dX3_addFoot_84 : decode cX3_addFoot 84 = .ok (.aload_n 0, 1) := by decide +kernel
theorem dX3_addFoot_85 : decode cX3_addFoot 85 = .ok (.getfield 18, 3) := by decide +kernel
theorem dX3_addFoot_88 : decode cX3_addFoot 88 = .ok (.iload 5, 2) := by decide +kernel
theorem dX3_addFoot_90 : decode cX3_addFoot 90 = .ok (.aload_n 0, 1) := by decide +kernel
theorem dX3_addFoot_91 : decode cX3_addFoot 91 = .ok (.getfield 18, 3) := by decide +kernel
theorem dX3_addFoot_94 : decode cX3_addFoot 94 = .ok (.iload 5, 2) := by decide +kernel
theorem dX3_addFoot_96 : decode cX3_addFoot 96 = .ok (.iaload, 1) := by decide +kernel
theorem dX3_addFoot_97 : decode cX3_addFoot 97 = .ok (.iload 6, 2) := by decide +kernel
theorem dX3_addFoot_99 : decode cX3_addFoot 99 = .ok (.invokestatic 72, 3) := by decide +kernel
theorem dX3_addFoot_102 : decode cX3_addFoot 102 = .ok (.iastore, 1) := by decide +kernel
theorem dX3_addFoot_103 : decode cX3_addFoot 103 = .ok (.iinc 5 1, 3) := by decide +kernel
theorem dX3_addFoot_106 : decode cX3_addFoot 106 = .ok (.goto (-87), 3) := by decide +kernel
theorem dX3_addFoot_109 : decode cX3_addFoot 109 = .ok (.return_, 1) := by decide +kernel
def lp_X3_addFoot_19 (j109 : gz_M → Option (gz_M)) (a0 : Nat) (x1 : Int32) (x2 : Int32) : Nat → Int32 → gz_M → Option (gz_M)
  | 0, _, _ => none
  | n19 + 1, x3, M4 =>
    (gz_gI M4 3 4 a0).bind fun x5 =>
    if x5 ≤ x3 then
      j109 M4
    else
      (gz_gR M4 3 3 a0).bind fun x6 =>
      (gz_aI M4 x6 x3).bind fun x7 =>
      gz_jn (fun (M21 : gz_M) =>
      lp_X3_addFoot_19 j109 a0 x1 x2 n19 (x3 + (1 : Int32)) M21) fun j103 =>
      if x7 = (2147483647 : Int32) then
        (gz_gR M4 3 0 a0).bind fun x8 =>
        (gz_aI M4 x8 x3).bind fun x9 =>
        (gz_tI M4 x8 x3 (x9 + x2)).bind fun M10 =>
        (gz_gR M10 3 1 a0).bind fun x11 =>
        (gz_aI M10 x11 x3).bind fun x12 =>
        (gz_tI M10 x11 x3 (x12 + x1)).bind fun M13 =>
        j103 M13
      else
        (gz_gR M4 3 0 a0).bind fun x14 =>
        (gz_aI M4 x14 x3).bind fun x15 =>
        (gz_tI M4 x14 x3 (x15 + (x1 * x7))).bind fun M16 =>
        (gz_gR M16 3 2 a0).bind fun x17 =>
        (gz_gR M16 3 2 a0).bind fun x18 =>
        (gz_aI M16 x18 x3).bind fun x19 =>
        (gz_tI M16 x17 x3 (if x19 < x7 then x7 else x19)).bind fun M20 =>
        j103 M20
def f_X3_addFoot (fu : Nat) (M : gz_M) (a0 : Nat) (a1 : Nat) (a2 : Int32) : Option (gz_M) :=
  gz_gd M 3 a0 <|
  (f_X7_footPart fu M a1 a2 (3 : Int32)).bind fun x1 =>
  (f_X7_costAt fu M a1 a2 (2147483647 : Int32)).bind fun x2 =>
  lp_X3_addFoot_19 (fun (M22 : gz_M) => some M22) a0 x1 x2 fu (0 : Int32) M
set_option maxHeartbeats 4000000 in
theorem w_X3_addFoot_19 {C : gz_C} {y : gz_M} {a0 : Nat} {x1 : Int32} {x2 : Int32} {j109 : gz_M → Option (gz_M)} (hC : gz_ok C cX3_addFoot RX3 7) (hX : gz_cx C 2 44 0 0 none none y "addFoot") (hj109 : ∀ (M22 : gz_M), j109 M22 = some y → gz_go C 0 0 M22 [] 109 []) : ∀ (n : Nat) (x3 : Int32) (M4 : gz_M), lp_X3_addFoot_19 j109 a0 x1 x2 n x3 M4 = some y → gz_go C 0 0 M4 [(0, .ref a0), (3, .int x1), (4, .int x2), (5, .int x3)] 19 [] := by
  intro n
  induction n with
  | zero => intro x3 M4 hF; exact nomatch (show (none : Option (gz_M)) = some y from hF)
  | succ n19 ih19 =>
    intro x3 M4 hF
    rw [lp_X3_addFoot_19.eq_2] at hF
    refine gz_iload 19 hC 3 dX3_addFoot_19 rfl ?_
    refine gz_aload_n 21 hC 0 dX3_addFoot_21 rfl rfl ?_
    refine gz_getI 22 hC fl_X3_24 fk_3_4 dX3_addFoot_22 hF (fun x5 hF => ?_)
    refine gz_icmp_ge 25 109 hC dX3_addFoot_25 (by decide) hF (fun hF => ?_) (fun hF => ?_)
    · skip
      refine gz_sub [] [] rfl ?_
      exact hj109 _ hF
    · skip
      refine gz_aload_n 28 hC 0 dX3_addFoot_28 rfl rfl ?_
      refine gz_getR 29 hC fl_X3_21 fk_3_3 dX3_addFoot_29 hF (fun x6 hF => ?_)
      refine gz_iload 32 hC 3 dX3_addFoot_32 rfl ?_
      refine gz_iald 34 hC dX3_addFoot_34 hF (fun x7 hF => ?_)
      refine gz_istore 35 hC [(6, .int x7), (0, .ref a0), (3, .int x1), (4, .int x2), (5, .int x3)] dX3_addFoot_35 (by decide) rfl ?_
      refine gz_iload 37 hC 0 dX3_addFoot_37 rfl ?_
      refine gz_ldc 39 hC dX3_addFoot_39 q_839 ?_
      refine gz_join (fun (j : gz_M → Option (gz_M)) => ∀ (M21 : gz_M), j M21 = some y → gz_go C 0 0 M21 [(0, .ref a0), (3, .int x1), (4, .int x2), (5, .int x3)] 103 []) hF (fun M21 hF => ?_) (fun j103 hj103 hF => ?_)
      · skip
        refine gz_iinc 103 hC (x3 + (1 : Int32)) 3 [(5, .int (x3 + (1 : Int32))), (0, .ref a0), (3, .int x1), (4, .int x2)] dX3_addFoot_103 rfl rfl (by decide) rfl ?_
        refine gz_goto 106 19 hC dX3_addFoot_106 (by decide) ?_
        refine gz_sub [1, 2, 3, 0] [(0, .ref a0), (3, .int x1), (4, .int x2), (5, .int (x3 + (1 : Int32)))] rfl ?_
        exact ih19 _ _ hF
      refine gz_icmp_ne 41 70 hC dX3_addFoot_41 (by decide) hF (fun hF => ?_) (fun hF => ?_)
      · skip
        refine gz_aload_n 70 hC 1 dX3_addFoot_70 rfl rfl ?_
        refine gz_getR 71 hC fl_X3_9 fk_3_0 dX3_addFoot_71 hF (fun x14 hF => ?_)
        refine gz_iload 74 hC 4 dX3_addFoot_74 rfl ?_
        refine gz_dup2 76 hC dX3_addFoot_76 rfl rfl ?_
        refine gz_iald 77 hC dX3_addFoot_77 hF (fun x15 hF => ?_)
        refine gz_iload_n 78 hC 2 dX3_addFoot_78 rfl rfl ?_
        refine gz_iload 79 hC 0 dX3_addFoot_79 rfl ?_
        refine gz_imul 81 hC dX3_addFoot_81 ?_
        refine gz_iadd 82 hC dX3_addFoot_82 ?_
        refine gz_iast 83 hC dX3_addFoot_83 hF (fun M16 hF => ?_)
        refine gz_aload_n 84 hC 1 dX3_addFoot_84 rfl rfl ?_
        refine gz_getR 85 hC fl_X3_18 fk_3_2 dX3_addFoot_85 hF (fun x17 hF => ?_)
        refine gz_iload 88 hC 4 dX3_addFoot_88 rfl ?_
        refine gz_aload_n 90 hC 1 dX3_addFoot_90 rfl rfl ?_
        refine gz_getR 91 hC fl_X3_18 fk_3_2 dX3_addFoot_91 hF (fun x18 hF => ?_)
        refine gz_iload 94 hC 4 dX3_addFoot_94 rfl ?_
        refine gz_iald 96 hC dX3_addFoot_96 hF (fun x19 hF => ?_)
        refine gz_iload 97 hC 0 dX3_addFoot_97 rfl ?_
        refine gz_mmax 99 hC hX q_848 ⟨Nat.le_of_ble_eq_true rfl, Nat.le_of_ble_eq_true rfl⟩ gz_00 dX3_addFoot_99 ?_
        refine gz_iast 102 hC dX3_addFoot_102 hF (fun M20 hF => ?_)
        refine gz_sub [1, 2, 3, 4] [(0, .ref a0), (3, .int x1), (4, .int x2), (5, .int x3)] rfl ?_
        exact hj103 _ hF
      · skip
        refine gz_aload_n 44 hC 1 dX3_addFoot_44 rfl rfl ?_
        refine gz_getR 45 hC fl_X3_9 fk_3_0 dX3_addFoot_45 hF (fun x8 hF => ?_)
        refine gz_iload 48 hC 4 dX3_addFoot_48 rfl ?_
        refine gz_dup2 50 hC dX3_addFoot_50 rfl rfl ?_
        refine gz_iald 51 hC dX3_addFoot_51 hF (fun x9 hF => ?_)
        refine gz_iload 52 hC 3 dX3_addFoot_52 rfl ?_
        refine gz_iadd 54 hC dX3_addFoot_54 ?_
        refine gz_iast 55 hC dX3_addFoot_55 hF (fun M10 hF => ?_)
        refine gz_aload_n 56 hC 1 dX3_addFoot_56 rfl rfl ?_
        refine gz_getR 57 hC fl_X3_15 fk_3_1 dX3_addFoot_57 hF (fun x11 hF => ?_)
        refine gz_iload 60 hC 4 dX3_addFoot_60 rfl ?_
        refine gz_dup2 62 hC dX3_addFoot_62 rfl rfl ?_
        refine gz_iald 63 hC dX3_addFoot_63 hF (fun x12 hF => ?_)
        refine gz_iload_n 64 hC 2 dX3_addFoot_64 rfl rfl ?_
        refine gz_iadd 65 hC dX3_addFoot_65 ?_
        refine gz_iast 66 hC dX3_addFoot_66 hF (fun M13 hF => ?_)
        refine gz_goto 67 103 hC dX3_addFoot_67 (by decide) ?_
        refine gz_sub [1, 2, 3, 4] [(0, .ref a0), (3, .int x1), (4, .int x2), (5, .int x3)] rfl ?_
        exact hj103 _ hF
set_option maxHeartbeats 4000000 in
theorem ct_X3_addFoot (l : Launch) (G : gz_G) (fu : Nat) (M : gz_M) (a0 : Nat) (a1 : Nat) (a2 : Int32) (y : gz_M) (hF : f_X3_addFoot fu M a0 a1 a2 = some y) : gz_ct l yX3_addFoot cX3_addFoot 7 none 2 44 0 0 G [.ref a0, .ref a1, .int a2] M none y := by
  refine gz_ct.of (by decide) (Nat.le_of_ble_eq_true rfl) (fun C hC hX => ?_)
  unfold f_X3_addFoot at hF
  obtain ⟨-, hF⟩ := gz_gd_some hF
  show gz_go C 0 0 M [(0, .ref a0), (1, .ref a1), (2, .int a2)] 0 []
  refine gz_aload_n 0 hC 1 dX3_addFoot_0 rfl rfl ?_
  refine gz_iload_n 1 hC 2 dX3_addFoot_1 rfl rfl ?_
  refine gz_iconst 2 hC (3 : Int32) dX3_addFoot_2 gz_k3 ?_
  refine gz_cvP (st := []) 3 hC hX [.int a2, .int (3 : Int32)] Value.int yl_X7_footPart yv_X7_footPart q_846 ⟨Nat.le_of_ble_eq_true rfl, Nat.le_of_ble_eq_true rfl⟩ ⟨_, rfl⟩ (fun r h => ct_X7_footPart _ _ fu M a1 a2 (3 : Int32) r h) rfl rfl (Nat.le_of_ble_eq_true rfl) dX3_addFoot_3 gz_00 hF (fun x1 hF => ?_)
  refine gz_istore_n 6 hC [(3, .int x1), (0, .ref a0), (1, .ref a1), (2, .int a2)] dX3_addFoot_6 rfl (by decide) rfl ?_
  refine gz_aload_n 7 hC 2 dX3_addFoot_7 rfl rfl ?_
  refine gz_iload_n 8 hC 3 dX3_addFoot_8 rfl rfl ?_
  refine gz_ldc 9 hC dX3_addFoot_9 q_839 ?_
  refine gz_cvP (st := []) 11 hC hX [.int a2, .int (2147483647 : Int32)] Value.int yl_X7_costAt yv_X7_costAt q_847 ⟨Nat.le_of_ble_eq_true rfl, Nat.le_of_ble_eq_true rfl⟩ ⟨_, rfl⟩ (fun r h => ct_X7_costAt _ _ fu M a1 a2 (2147483647 : Int32) r h) rfl rfl (Nat.le_of_ble_eq_true rfl) dX3_addFoot_11 gz_00 hF (fun x2 hF => ?_)
  refine gz_istore 14 hC [(4, .int x2), (3, .int x1), (0, .ref a0), (1, .ref a1), (2, .int a2)] dX3_addFoot_14 (by decide) rfl ?_
  refine gz_iconst 16 hC (0 : Int32) dX3_addFoot_16 gz_k0 ?_
  refine gz_istore 17 hC [(5, .int (0 : Int32)), (4, .int x2), (3, .int x1), (0, .ref a0), (1, .ref a1), (2, .int a2)] dX3_addFoot_17 (by decide) rfl ?_
  refine gz_sub [3, 2, 1, 0] [(0, .ref a0), (3, .int x1), (4, .int x2), (5, .int (0 : Int32))] rfl ?_
  refine w_X3_addFoot_19 hC hX ?_ _ _ _ hF
  intro M22 hF
  exact gz_vretM 109 hC hX dX3_addFoot_109 hF

theorem dX3_fillFor_0 : decode cX3_fillFor 0 = .ok (.aload_n 0, 1) := by decide +kernel
theorem dX3_fillFor_1 : decode cX3_fillFor 1 = .ok (.iconst 1, 1) := by decide +kernel
theorem dX3_fillFor_2 : decode cX3_fillFor 2 = .ok (.aload_n 1, 1) := by decide +kernel
theorem dX3_fillFor_3 : decode cX3_fillFor 3 = .ok (.getfield 28, 3) := by decide +kernel
theorem dX3_fillFor_6 : decode cX3_fillFor 6 = .ok (.ishl, 1) := by decide +kernel
theorem dX3_fillFor_7 : decode cX3_fillFor 7 = .ok (.putfield 24, 3) := by decide +kernel
theorem dX3_fillFor_10 : decode cX3_fillFor 10 = .ok (.aload_n 0, 1) := by decide +kernel
theorem dX3_fillFor_11 : decode cX3_fillFor 11 = .ok (.aload_n 1, 1) := by decide +kernel
theorem dX3_fillFor_12 : decode cX3_fillFor 12 = .ok (.invokevirtual 33, 3) := by decide +kernel
theorem dX3_fillFor_15 : decode cX3_fillFor 15 = .ok (.iconst 0, 1) := by decide +kernel
theorem dX3_fillFor_16 : decode cX3_fillFor 16 = .ok (.istore_n 2, 1) := by decide +kernel
theorem dX3_fillFor_17 : decode cX3_fillFor 17 = .ok (.iload_n 2, 1) := by decide +kernel
theorem dX3_fillFor_18 : decode cX3_fillFor 18 = .ok (.aload_n 1, 1) := by decide +kernel
theorem dX3_fillFor_19 : decode cX3_fillFor 19 = .ok (.getfield 37, 3) := by decide +kernel
theorem dX3_fillFor_22 : decode cX3_fillFor 22 = .ok (.if_icmp .ge 21, 3) := by decide +kernel
theorem dX3_fillFor_25 : decode cX3_fillFor 25 = .ok (.aload_n 0, 1) := by decide +kernel
theorem dX3_fillFor_26 : decode cX3_fillFor 26 = .ok (.aload_n 1, 1) := by decide +kernel
theorem dX3_fillFor_27 : decode cX3_fillFor 27 = .ok (.iload_n 2, 1) := by decide +kernel
theorem dX3_fillFor_28 : decode cX3_fillFor 28 = .ok (.invokevirtual 40, 3) := by decide +kernel
theorem dX3_fillFor_31 : decode cX3_fillFor 31 = .ok (.aload_n 0, 1) := by decide +kernel
theorem dX3_fillFor_32 : decode cX3_fillFor 32 = .ok (.aload_n 1, 1) := by decide +kernel
theorem dX3_fillFor_33 : decode cX3_fillFor 33 = .ok (.iload_n 2, 1) := by decide +kernel
theorem dX3_fillFor_34 : decode cX3_fillFor 34 = .ok (.invokevirtual 44, 3) := by decide +kernel
theorem dX3_fillFor_37 : decode cX3_fillFor 37 = .ok (.iinc 2 1, 3) := by decide +kernel
theorem dX3_fillFor_40 : decode cX3_fillFor 40 = .ok (.goto (-23), 3) := by decide +kernel
theorem dX3_fillFor_43 : decode cX3_fillFor 43 = .ok (.return_, 1) := by decide +kernel
def lp_X3_fillFor_17 (j43 : gz_M → Option (gz_M)) (fu : Nat) (a0 : Nat) (a1 : Nat) : Nat → Int32 → gz_M → Option (gz_M)
  | 0, _, _ => none
  | n17 + 1, x4, M5 =>
    (gz_gI M5 7 4 a1).bind fun x6 =>
    if x6 ≤ x4 then
      j43 M5
    else
      (f_X3_fillLeast fu M5 a0 a1 x4).bind fun M7 =>
      (f_X3_addFoot fu M7 a0 a1 x4).bind fun M8 =>
      lp_X3_fillFor_17 j43 fu a0 a1 n17 (x4 + (1 : Int32)) M8
def f_X3_fillFor (fu : Nat) (M : gz_M) (a0 : Nat) (a1 : Nat) : Option (gz_M) :=
  gz_gd M 3 a0 <|
  (gz_gI M 7 5 a1).bind fun x1 =>
  (gz_pI M 3 4 a0 ((1 : Int32) <<< (x1 &&& 31))).bind fun M2 =>
  (f_X3_startWithPrices fu M2 a0 a1).bind fun M3 =>
  lp_X3_fillFor_17 (fun (M9 : gz_M) => some M9) fu a0 a1 fu (0 : Int32) M3
set_option maxHeartbeats 4000000 in
theorem w_X3_fillFor_17 {C : gz_C} {y : gz_M} {fu : Nat} {a0 : Nat} {a1 : Nat} {j43 : gz_M → Option (gz_M)} (hC : gz_ok C cX3_fillFor RX3 3) (hX : gz_cx C 5 125 0 0 none none y "fillFor") (hj43 : ∀ (M9 : gz_M), j43 M9 = some y → gz_go C 0 0 M9 [] 43 []) : ∀ (n : Nat) (x4 : Int32) (M5 : gz_M), lp_X3_fillFor_17 j43 fu a0 a1 n x4 M5 = some y → gz_go C 0 0 M5 [(0, .ref a0), (1, .ref a1), (2, .int x4)] 17 [] := by
  intro n
  induction n with
  | zero => intro x4 M5 hF; exact nomatch (show (none : Option (gz_M)) = some y from hF)
  | succ n17 ih17 =>
    intro x4 M5 hF
    rw [lp_X3_fillFor_17.eq_2] at hF
    refine gz_iload_n 17 hC 2 dX3_fillFor_17 rfl rfl ?_
    refine gz_aload_n 18 hC 1 dX3_fillFor_18 rfl rfl ?_
    refine gz_getI 19 hC fl_X3_37 fk_7_4 dX3_fillFor_19 hF (fun x6 hF => ?_)
    refine gz_icmp_ge 22 43 hC dX3_fillFor_22 (by decide) hF (fun hF => ?_) (fun hF => ?_)
    · skip
      refine gz_sub [] [] rfl ?_
      exact hj43 _ hF
    · skip
      refine gz_aload_n 25 hC 0 dX3_fillFor_25 rfl rfl ?_
      refine gz_aload_n 26 hC 1 dX3_fillFor_26 rfl rfl ?_
      refine gz_iload_n 27 hC 2 dX3_fillFor_27 rfl rfl ?_
      refine gz_cvV (st := []) 28 hC hX [.ref a1, .int x4] yl_X3_fillLeast yv_X3_fillLeast q_835 ⟨Nat.le_of_ble_eq_true rfl, Nat.le_of_ble_eq_true rfl⟩ ⟨_, rfl⟩ (fun r h => ct_X3_fillLeast _ _ fu M5 a0 a1 x4 r h) rfl rfl (Nat.le_of_ble_eq_true rfl) dX3_fillFor_28 gz_00 hF (fun M7 hF => ?_)
      refine gz_aload_n 31 hC 0 dX3_fillFor_31 rfl rfl ?_
      refine gz_aload_n 32 hC 1 dX3_fillFor_32 rfl rfl ?_
      refine gz_iload_n 33 hC 2 dX3_fillFor_33 rfl rfl ?_
      refine gz_cvV (st := []) 34 hC hX [.ref a1, .int x4] yl_X3_addFoot yv_X3_addFoot q_842 ⟨Nat.le_of_ble_eq_true rfl, Nat.le_of_ble_eq_true rfl⟩ ⟨_, rfl⟩ (fun r h => ct_X3_addFoot _ _ fu M7 a0 a1 x4 r h) rfl rfl (Nat.le_of_ble_eq_true rfl) dX3_fillFor_34 gz_00 hF (fun M8 hF => ?_)
      refine gz_iinc 37 hC (x4 + (1 : Int32)) 2 [(2, .int (x4 + (1 : Int32))), (0, .ref a0), (1, .ref a1)] dX3_fillFor_37 rfl rfl (by decide) rfl ?_
      refine gz_goto 40 17 hC dX3_fillFor_40 (by decide) ?_
      refine gz_sub [1, 2, 0] [(0, .ref a0), (1, .ref a1), (2, .int (x4 + (1 : Int32)))] rfl ?_
      exact ih17 _ _ hF
set_option maxHeartbeats 4000000 in
theorem ct_X3_fillFor (l : Launch) (G : gz_G) (fu : Nat) (M : gz_M) (a0 : Nat) (a1 : Nat) (y : gz_M) (hF : f_X3_fillFor fu M a0 a1 = some y) : gz_ct l yX3_fillFor cX3_fillFor 3 none 5 125 0 0 G [.ref a0, .ref a1] M none y := by
  refine gz_ct.of (by decide) (Nat.le_of_ble_eq_true rfl) (fun C hC hX => ?_)
  unfold f_X3_fillFor at hF
  obtain ⟨-, hF⟩ := gz_gd_some hF
  show gz_go C 0 0 M [(0, .ref a0), (1, .ref a1)] 0 []
  refine gz_aload_n 0 hC 0 dX3_fillFor_0 rfl rfl ?_
  refine gz_iconst 1 hC (1 : Int32) dX3_fillFor_1 gz_k1 ?_
  refine gz_aload_n 2 hC 1 dX3_fillFor_2 rfl rfl ?_
  refine gz_getI 3 hC fl_X3_28 fk_7_5 dX3_fillFor_3 hF (fun x1 hF => ?_)
  refine gz_ishl 6 hC dX3_fillFor_6 ?_
  refine gz_putI 7 hC fl_X3_24 fk_3_4 dX3_fillFor_7 hF (fun M2 hF => ?_)
  refine gz_aload_n 10 hC 0 dX3_fillFor_10 rfl rfl ?_
  refine gz_aload_n 11 hC 1 dX3_fillFor_11 rfl rfl ?_
  refine gz_cvV (st := []) 12 hC hX [.ref a1] yl_X3_startWithPrices yv_X3_startWithPrices q_824 ⟨Nat.le_of_ble_eq_true rfl, Nat.le_of_ble_eq_true rfl⟩ ⟨_, rfl⟩ (fun r h => ct_X3_startWithPrices _ _ fu M2 a0 a1 r h) rfl rfl (Nat.le_of_ble_eq_true rfl) dX3_fillFor_12 gz_00 hF (fun M3 hF => ?_)
  refine gz_iconst 15 hC (0 : Int32) dX3_fillFor_15 gz_k0 ?_
  refine gz_istore_n 16 hC [(2, .int (0 : Int32)), (0, .ref a0), (1, .ref a1)] dX3_fillFor_16 rfl (by decide) rfl ?_
  refine gz_sub [1, 2, 0] [(0, .ref a0), (1, .ref a1), (2, .int (0 : Int32))] rfl ?_
  refine w_X3_fillFor_17 hC hX ?_ _ _ _ hF
  intro M9 hF
  exact gz_vretM 43 hC hX dX3_fillFor_43 hF

theorem dX3_leastTotal_0 : decode cX3_leastTotal 0 = .ok (.iconst 0, 1) := by decide +kernel
theorem dX3_leastTotal_1 : decode cX3_leastTotal 1 = .ok (.istore_n 2, 1) := by decide +kernel
theorem dX3_leastTotal_2 : decode cX3_leastTotal 2 = .ok (.iconst 1, 1) := by decide +kernel
theorem dX3_leastTotal_3 : decode cX3_leastTotal 3 = .ok (.istore_n 3, 1) := by decide +kernel
theorem dX3_leastTotal_4 : decode cX3_leastTotal 4 = .ok (.iload_n 3, 1) := by decide +kernel
theorem dX3_leastTotal_5 : decode cX3_leastTotal 5 = .ok (.aload_n 0, 1) := by decide +kernel
theorem dX3_leastTotal_6 : decode cX3_leastTotal 6 = .ok (.getfield 24, 3) := by decide +kernel
theorem dX3_leastTotal_9 : decode cX3_leastTotal 9 = .ok (.if_icmp .ge 34, 3) := by decide +kernel
theorem dX3_leastTotal_12 : decode cX3_leastTotal 12 = .ok (.aload_n 0, 1) := by decide +kernel
theorem dX3_leastTotal_13 : decode cX3_leastTotal 13 = .ok (.getfield 9, 3) := by decide +kernel
theorem dX3_leastTotal_16 : decode cX3_leastTotal 16 = .ok (.iload_n 3, 1) := by decide +kernel
theorem dX3_leastTotal_17 : decode cX3_leastTotal 17 = .ok (.iaload, 1) := by decide +kernel
theorem dX3_leastTotal_18 : decode cX3_leastTotal 18 = .ok (.aload_n 0, 1) := by decide +kernel
theorem dX3_leastTotal_19 : decode cX3_leastTotal 19 = .ok (.getfield 9, 3) := by decide +kernel
theorem dX3_leastTotal_22 : decode cX3_leastTotal 22 = .ok (.iload_n 2, 1) := by decide +kernel
theorem dX3_leastTotal_23 : decode cX3_leastTotal 23 = .ok (.iaload, 1) := by decide +kernel
theorem dX3_leastTotal_24 : decode cX3_leastTotal 24 = .ok (.if_icmp .ge 13, 3) := by decide +kernel
theorem dX3_leastTotal_27 : decode cX3_leastTotal 27 = .ok (.iload_n 3, 1) := by decide +kernel
theorem dX3_leastTotal_28 : decode cX3_leastTotal 28 = .ok (.invokestatic 75, 3) := by decide +kernel
theorem dX3_leastTotal_31 : decode cX3_leastTotal 31 = .ok (.iload_n 1, 1) := by decide +kernel
theorem dX3_leastTotal_32 : decode cX3_leastTotal 32 = .ok (.if_icmp .gt 5, 3) := by decide +kernel
theorem dX3_leastTotal_35 : decode cX3_leastTotal 35 = .ok (.iload_n 3, 1) := by decide +kernel
theorem dX3_leastTotal_36 : decode cX3_leastTotal 36 = .ok (.istore_n 2, 1) := by decide +kernel
theorem dX3_leastTotal_37 : decode cX3_leastTotal 37 = .ok (.iinc 3 1, 3) := by decide +kernel
theorem dX3_leastTotal_40 : decode cX3_leastTotal 40 = .ok (.goto (-36), 3) := by decide +kernel
theorem dX3_leastTotal_43 : decode cX3_leastTotal 43 = .ok (.iload_n 2, 1) := by decide +kernel
theorem dX3_leastTotal_44 : decode cX3_leastTotal 44 = .ok (.ireturn, 1) := by decide +kernel
def lp_X3_leastTotal_4 (j43 : Int32 → Option (Int32)) (fu : Nat) (M : gz_M) (a0 : Nat) (a1 : Int32) : Nat → Int32 → Int32 → Option (Int32)
  | 0, _, _ => none
  | n4 + 1, x1, x2 =>
    (gz_gI M 3 4 a0).bind fun x3 =>
    if x3 ≤ x2 then
      j43 x1
    else
      (gz_gR M 3 0 a0).bind fun x4 =>
      (gz_aI M x4 x2).bind fun x5 =>
      (gz_gR M 3 0 a0).bind fun x6 =>
      (gz_aI M x6 x1).bind fun x7 =>
      gz_jn (fun (x9 : Int32) =>
      lp_X3_leastTotal_4 j43 fu M a0 a1 n4 x9 (x2 + (1 : Int32))) fun j37 =>
      if x7 ≤ x5 then
        j37 x1
      else
        (f_J6_bitCount_0f7a4 fu M x2).bind fun x8 =>
        if a1 < x8 then
          j37 x1
        else
          j37 x2
def f_X3_leastTotal (fu : Nat) (M : gz_M) (a0 : Nat) (a1 : Int32) : Option (Int32) :=
  gz_gd M 3 a0 <|
  lp_X3_leastTotal_4 (fun (x10 : Int32) => some x10) fu M a0 a1 fu (0 : Int32) (1 : Int32)
set_option maxHeartbeats 4000000 in
theorem w_X3_leastTotal_4 {C : gz_C} {y : Int32} {fu : Nat} {M : gz_M} {a0 : Nat} {a1 : Int32} {j43 : Int32 → Option (Int32)} (hC : gz_ok C cX3_leastTotal RX3 4) (hX : gz_cx C 1 20 0 0 (some .int) (some (.int y)) M "leastTotal") (hj43 : ∀ (x10 : Int32), j43 x10 = some y → gz_go C 0 0 M [(2, .int x10)] 43 []) : ∀ (n : Nat) (x1 : Int32) (x2 : Int32), lp_X3_leastTotal_4 j43 fu M a0 a1 n x1 x2 = some y → gz_go C 0 0 M [(0, .ref a0), (1, .int a1), (2, .int x1), (3, .int x2)] 4 [] := by
  intro n
  induction n with
  | zero => intro x1 x2 hF; exact nomatch (show (none : Option (Int32)) = some y from hF)
  | succ n4 ih4 =>
    intro x1 x2 hF
    rw [lp_X3_leastTotal_4.eq_2] at hF
    refine gz_iload_n 4 hC 3 dX3_leastTotal_4 rfl rfl ?_
    refine gz_aload_n 5 hC 0 dX3_leastTotal_5 rfl rfl ?_
    refine gz_getI 6 hC fl_X3_24 fk_3_4 dX3_leastTotal_6 hF (fun x3 hF => ?_)
    refine gz_icmp_ge 9 43 hC dX3_leastTotal_9 (by decide) hF (fun hF => ?_) (fun hF => ?_)
    · skip
      refine gz_sub [2] [(2, .int x1)] rfl ?_
      exact hj43 _ hF
    · skip
      refine gz_aload_n 12 hC 0 dX3_leastTotal_12 rfl rfl ?_
      refine gz_getR 13 hC fl_X3_9 fk_3_0 dX3_leastTotal_13 hF (fun x4 hF => ?_)
      refine gz_iload_n 16 hC 3 dX3_leastTotal_16 rfl rfl ?_
      refine gz_iald 17 hC dX3_leastTotal_17 hF (fun x5 hF => ?_)
      refine gz_aload_n 18 hC 0 dX3_leastTotal_18 rfl rfl ?_
      refine gz_getR 19 hC fl_X3_9 fk_3_0 dX3_leastTotal_19 hF (fun x6 hF => ?_)
      refine gz_iload_n 22 hC 2 dX3_leastTotal_22 rfl rfl ?_
      refine gz_iald 23 hC dX3_leastTotal_23 hF (fun x7 hF => ?_)
      refine gz_join (fun (j : Int32 → Option (Int32)) => ∀ (x9 : Int32), j x9 = some y → gz_go C 0 0 M [(0, .ref a0), (1, .int a1), (2, .int x9), (3, .int x2)] 37 []) hF (fun x9 hF => ?_) (fun j37 hj37 hF => ?_)
      · skip
        refine gz_iinc 37 hC (x2 + (1 : Int32)) 3 [(3, .int (x2 + (1 : Int32))), (0, .ref a0), (1, .int a1), (2, .int x9)] dX3_leastTotal_37 rfl rfl (by decide) rfl ?_
        refine gz_goto 40 4 hC dX3_leastTotal_40 (by decide) ?_
        refine gz_sub [1, 2, 3, 0] [(0, .ref a0), (1, .int a1), (2, .int x9), (3, .int (x2 + (1 : Int32)))] rfl ?_
        exact ih4 _ _ hF
      refine gz_icmp_ge 24 37 hC dX3_leastTotal_24 (by decide) hF (fun hF => ?_) (fun hF => ?_)
      · skip
        exact hj37 _ hF
      · skip
        refine gz_iload_n 27 hC 3 dX3_leastTotal_27 rfl rfl ?_
        refine gz_csP (st := []) 28 hC hX [.int x2] Value.int yl_J6_bitCount_0f7a4 yv_J6_bitCount_0f7a4 q_855 ⟨Nat.le_of_ble_eq_true rfl, Nat.le_of_ble_eq_true rfl⟩ (fun r h => ct_J6_bitCount_0f7a4 _ _ fu M x2 r h) rfl rfl (Nat.le_of_ble_eq_true rfl) dX3_leastTotal_28 gz_00 hF (fun x8 hF => ?_)
        refine gz_iload_n 31 hC 1 dX3_leastTotal_31 rfl rfl ?_
        refine gz_icmp_gt 32 37 hC dX3_leastTotal_32 (by decide) hF (fun hF => ?_) (fun hF => ?_)
        · skip
          exact hj37 _ hF
        · skip
          refine gz_iload_n 35 hC 3 dX3_leastTotal_35 rfl rfl ?_
          refine gz_istore_n 36 hC [(2, .int x2), (0, .ref a0), (1, .int a1), (3, .int x2)] dX3_leastTotal_36 rfl (by decide) rfl ?_
          refine gz_sub [1, 2, 0, 3] [(0, .ref a0), (1, .int a1), (2, .int x2), (3, .int x2)] rfl ?_
          exact hj37 _ hF
set_option maxHeartbeats 4000000 in
theorem ct_X3_leastTotal (l : Launch) (G : gz_G) (fu : Nat) (M : gz_M) (a0 : Nat) (a1 : Int32) (y : Int32) (hF : f_X3_leastTotal fu M a0 a1 = some y) : gz_ct l yX3_leastTotal cX3_leastTotal 4 (some .int) 1 20 0 0 G [.ref a0, .int a1] M (some (.int y)) M := by
  refine gz_ct.of (by decide) (Nat.le_of_ble_eq_true rfl) (fun C hC hX => ?_)
  unfold f_X3_leastTotal at hF
  obtain ⟨-, hF⟩ := gz_gd_some hF
  show gz_go C 0 0 M [(0, .ref a0), (1, .int a1)] 0 []
  refine gz_iconst 0 hC (0 : Int32) dX3_leastTotal_0 gz_k0 ?_
  refine gz_istore_n 1 hC [(2, .int (0 : Int32)), (0, .ref a0), (1, .int a1)] dX3_leastTotal_1 rfl (by decide) rfl ?_
  refine gz_iconst 2 hC (1 : Int32) dX3_leastTotal_2 gz_k1 ?_
  refine gz_istore_n 3 hC [(3, .int (1 : Int32)), (2, .int (0 : Int32)), (0, .ref a0), (1, .int a1)] dX3_leastTotal_3 rfl (by decide) rfl ?_
  refine gz_sub [2, 3, 1, 0] [(0, .ref a0), (1, .int a1), (2, .int (0 : Int32)), (3, .int (1 : Int32))] rfl ?_
  refine w_X3_leastTotal_4 hC hX ?_ _ _ _ hF
  intro x10 hF
  refine gz_iload_n 43 hC 0 dX3_leastTotal_43 rfl rfl ?_
  exact gz_iretP 44 hC hX dX3_leastTotal_44 hF

theorem dX3_isBefore_0 : decode cX3_isBefore 0 = .ok (.aload_n 1, 1) := by decide +kernel
theorem dX3_isBefore_1 : decode cX3_isBefore 1 = .ok (.iload_n 2, 1) := by decide +kernel
theorem dX3_isBefore_2 : decode cX3_isBefore 2 = .ok (.iaload, 1) := by decide +kernel
theorem dX3_isBefore_3 : decode cX3_isBefore 3 = .ok (.aload_n 1, 1) := by decide +kernel
theorem dX3_isBefore_4 : decode cX3_isBefore 4 = .ok (.iload_n 3, 1) := by decide +kernel
theorem dX3_isBefore_5 : decode cX3_isBefore 5 = .ok (.iaload, 1) := by decide +kernel
theorem dX3_isBefore_6 : decode cX3_isBefore 6 = .ok (.if_icmp .eq 18, 3) := by decide +kernel
theorem dX3_isBefore_9 : decode cX3_isBefore 9 = .ok (.aload_n 1, 1) := by decide +kernel
theorem dX3_isBefore_10 : decode cX3_isBefore 10 = .ok (.iload_n 2, 1) := by decide +kernel
theorem dX3_isBefore_11 : decode cX3_isBefore 11 = .ok (.iaload, 1) := by decide +kernel
theorem dX3_isBefore_12 : decode cX3_isBefore 12 = .ok (.aload_n 1, 1) := by decide +kernel
theorem dX3_isBefore_13 : decode cX3_isBefore 13 = .ok (.iload_n 3, 1) := by decide +kernel
theorem dX3_isBefore_14 : decode cX3_isBefore 14 = .ok (.iaload, 1) := by decide +kernel
theorem dX3_isBefore_15 : decode cX3_isBefore 15 = .ok (.if_icmp .ge 7, 3) := by decide +kernel
theorem dX3_isBefore_18 : decode cX3_isBefore 18 = .ok (.iconst 1, 1) := by decide +kernel
theorem dX3_isBefore_19 : decode cX3_isBefore 19 = .ok (.goto 4, 3) := by decide +kernel
theorem dX3_isBefore_22 : decode cX3_isBefore 22 = .ok (.iconst 0, 1) := by decide +kernel
theorem dX3_isBefore_23 : decode cX3_isBefore 23 = .ok (.ireturn, 1) := by decide +kernel
theorem dX3_isBefore_24 : decode cX3_isBefore 24 = .ok (.aload_n 0, 1) := by decide +kernel
theorem dX3_isBefore_25 : decode cX3_isBefore 25 = .ok (.getfield 9, 3) := by decide +kernel
theorem dX3_isBefore_28 : decode cX3_isBefore 28 = .ok (.iload_n 2, 1) := by decide +kernel
theorem dX3_isBefore_29 : decode cX3_isBefore 29 = .ok (.iaload, 1) := by decide +kernel
theorem dX3_isBefore_30 : decode cX3_isBefore 30 = .ok (.aload_n 0, 1) := by decide +kernel
theorem dX3_isBefore_31 : decode cX3_isBefore 31 = .ok (.getfield 9, 3) := by decide +kernel
theorem dX3_isBefore_34 : decode cX3_isBefore 34 = .ok (.iload_n 3, 1) := by decide +kernel
theorem dX3_isBefore_35 : decode cX3_isBefore 35 = .ok (.iaload, 1) := by decide +kernel
theorem dX3_isBefore_36 : decode cX3_isBefore 36 = .ok (.if_icmp .ge 7, 3) := by decide +kernel
theorem dX3_isBefore_39 : decode cX3_isBefore 39 = .ok (.iconst 1, 1) := by decide +kernel
theorem dX3_isBefore_40 : decode cX3_isBefore 40 = .ok (.goto 4, 3) := by decide +kernel
theorem dX3_isBefore_43 : decode cX3_isBefore 43 = .ok (.iconst 0, 1) := by decide +kernel
theorem dX3_isBefore_44 : decode cX3_isBefore 44 = .ok (.ireturn, 1) := by decide +kernel

def f_X3_isBefore (fu : Nat) (M : gz_M) (a0 : Nat) (a1 : Nat) (a2 : Int32) (a3 : Int32) : Option (Int32) :=
  gz_gd M 3 a0 <|
  (gz_aI M a1 a2).bind fun x1 =>
  (gz_aI M a1 a3).bind fun x2 =>
  if x1 = x2 then
    (gz_gR M 3 0 a0).bind fun x6 =>
    (gz_aI M x6 a2).bind fun x7 =>
    (gz_gR M 3 0 a0).bind fun x8 =>
    (gz_aI M x8 a3).bind fun x9 =>
    gz_jn (fun (x10 : Int32) =>
    gz_z x10 (some x10)) fun j44 =>
    if x9 ≤ x7 then
      j44 (0 : Int32)
    else
      j44 (1 : Int32)
  else
    (gz_aI M a1 a2).bind fun x3 =>
    (gz_aI M a1 a3).bind fun x4 =>
    gz_jn (fun (x5 : Int32) =>
    gz_z x5 (some x5)) fun j23 =>
    if x4 ≤ x3 then
      j23 (0 : Int32)
    else
      j23 (1 : Int32)

set_option maxHeartbeats 4000000 in
theorem ct_X3_isBefore (l : Launch) (G : gz_G) (fu : Nat) (M : gz_M) (a0 : Nat) (a1 : Nat) (a2 : Int32) (a3 : Int32) (y : Int32) (hF : f_X3_isBefore fu M a0 a1 a2 a3 = some y) : gz_ct l yX3_isBefore cX3_isBefore 4 (some .boolean) 0 0 0 0 G [.ref a0, .ref a1, .int a2, .int a3] M (some (.int y)) M := by
  refine gz_ct.of (by decide) (Nat.le_of_ble_eq_true rfl) (fun C hC hX => ?_)
  unfold f_X3_isBefore at hF
  obtain ⟨-, hF⟩ := gz_gd_some hF
  show gz_go C 0 0 M [(0, .ref a0), (1, .ref a1), (2, .int a2), (3, .int a3)] 0 []
  refine gz_aload_n 0 hC 1 dX3_isBefore_0 rfl rfl ?_
  refine gz_iload_n 1 hC 2 dX3_isBefore_1 rfl rfl ?_
  refine gz_iald 2 hC dX3_isBefore_2 hF (fun x1 hF => ?_)
  refine gz_aload_n 3 hC 1 dX3_isBefore_3 rfl rfl ?_
  refine gz_iload_n 4 hC 3 dX3_isBefore_4 rfl rfl ?_
  refine gz_iald 5 hC dX3_isBefore_5 hF (fun x2 hF => ?_)
  refine gz_icmp_eq 6 24 hC dX3_isBefore_6 (by decide) hF (fun hF => ?_) (fun hF => ?_)
  · skip
    refine gz_aload_n 24 hC 0 dX3_isBefore_24 rfl rfl ?_
    refine gz_getR 25 hC fl_X3_9 fk_3_0 dX3_isBefore_25 hF (fun x6 hF => ?_)
    refine gz_iload_n 28 hC 2 dX3_isBefore_28 rfl rfl ?_
    refine gz_iald 29 hC dX3_isBefore_29 hF (fun x7 hF => ?_)
    refine gz_aload_n 30 hC 0 dX3_isBefore_30 rfl rfl ?_
    refine gz_getR 31 hC fl_X3_9 fk_3_0 dX3_isBefore_31 hF (fun x8 hF => ?_)
    refine gz_iload_n 34 hC 3 dX3_isBefore_34 rfl rfl ?_
    refine gz_iald 35 hC dX3_isBefore_35 hF (fun x9 hF => ?_)
    refine gz_join (fun (j : Int32 → Option (Int32)) => ∀ (x10 : Int32), j x10 = some y → gz_go C 0 0 M [] 44 [.int x10]) hF (fun x10 hF => ?_) (fun j44 hj44 hF => ?_)
    · skip
      exact gz_zretP 44 hC hX dX3_isBefore_44 hF
    refine gz_icmp_ge 36 43 hC dX3_isBefore_36 (by decide) hF (fun hF => ?_) (fun hF => ?_)
    · skip
      refine gz_iconst 43 hC (0 : Int32) dX3_isBefore_43 gz_k0 ?_
      refine gz_sub [] [] rfl ?_
      exact hj44 _ hF
    · skip
      refine gz_iconst 39 hC (1 : Int32) dX3_isBefore_39 gz_k1 ?_
      refine gz_goto 40 44 hC dX3_isBefore_40 (by decide) ?_
      refine gz_sub [] [] rfl ?_
      exact hj44 _ hF
  · skip
    refine gz_aload_n 9 hC 1 dX3_isBefore_9 rfl rfl ?_
    refine gz_iload_n 10 hC 2 dX3_isBefore_10 rfl rfl ?_
    refine gz_iald 11 hC dX3_isBefore_11 hF (fun x3 hF => ?_)
    refine gz_aload_n 12 hC 1 dX3_isBefore_12 rfl rfl ?_
    refine gz_iload_n 13 hC 3 dX3_isBefore_13 rfl rfl ?_
    refine gz_iald 14 hC dX3_isBefore_14 hF (fun x4 hF => ?_)
    refine gz_join (fun (j : Int32 → Option (Int32)) => ∀ (x5 : Int32), j x5 = some y → gz_go C 0 0 M [] 23 [.int x5]) hF (fun x5 hF => ?_) (fun j23 hj23 hF => ?_)
    · skip
      exact gz_zretP 23 hC hX dX3_isBefore_23 hF
    refine gz_icmp_ge 15 22 hC dX3_isBefore_15 (by decide) hF (fun hF => ?_) (fun hF => ?_)
    · skip
      refine gz_iconst 22 hC (0 : Int32) dX3_isBefore_22 gz_k0 ?_
      refine gz_sub [] [] rfl ?_
      exact hj23 _ hF
    · skip
      refine gz_iconst 18 hC (1 : Int32) dX3_isBefore_18 gz_k1 ?_
      refine gz_goto 19 23 hC dX3_isBefore_19 (by decide) ?_
      refine gz_sub [] [] rfl ?_
      exact hj23 _ hF

theorem dX3_fairest_0 : decode cX3_fairest 0 = .ok (.iconst (-1), 1) := by decide +kernel
theorem dX3_fairest_1 : decode cX3_fairest 1 = .ok (.istore_n 2, 1) := by decide +kernel
theorem dX3_fairest_2 : decode cX3_fairest 2 = .ok (.iconst 0, 1) := by decide +kernel
theorem dX3_fairest_3 : decode cX3_fairest 3 = .ok (.istore_n 3, 1) := by decide +kernel
theorem dX3_fairest_4 : decode cX3_fairest 4 = .ok (.iload_n 3, 1) := by decide +kernel
theorem dX3_fairest_5 : decode cX3_fairest 5 = .ok (.aload_n 0, 1) := by decide +kernel
theorem dX3_fairest_6 : decode cX3_fairest 6 = .ok (.getfield 24, 3) := by decide +kernel
theorem dX3_fairest_9 : decode cX3_fairest 9 = .ok (.if_icmp .ge 46, 3) := by decide +kernel
theorem dX3_fairest_12 : decode cX3_fairest 12 = .ok (.aload_n 0, 1) := by decide +kernel
theorem dX3_fairest_13 : decode cX3_fairest 13 = .ok (.getfield 15, 3) := by decide +kernel
theorem dX3_fairest_16 : decode cX3_fairest 16 = .ok (.iload_n 3, 1) := by decide +kernel
theorem dX3_fairest_17 : decode cX3_fairest 17 = .ok (.iaload, 1) := by decide +kernel
theorem dX3_fairest_18 : decode cX3_fairest 18 = .ok (.ifCond .ne 31, 3) := by decide +kernel
theorem dX3_fairest_21 : decode cX3_fairest 21 = .ok (.iload_n 3, 1) := by decide +kernel
theorem dX3_fairest_22 : decode cX3_fairest 22 = .ok (.invokestatic 75, 3) := by decide +kernel
theorem dX3_fairest_25 : decode cX3_fairest 25 = .ok (.iload_n 1, 1) := by decide +kernel
theorem dX3_fairest_26 : decode cX3_fairest 26 = .ok (.if_icmp .gt 23, 3) := by decide +kernel
theorem dX3_fairest_29 : decode cX3_fairest 29 = .ok (.iload_n 2, 1) := by decide +kernel
theorem dX3_fairest_30 : decode cX3_fairest 30 = .ok (.iconst (-1), 1) := by decide +kernel
theorem dX3_fairest_31 : decode cX3_fairest 31 = .ok (.if_icmp .eq 16, 3) := by decide +kernel
theorem dX3_fairest_34 : decode cX3_fairest 34 = .ok (.aload_n 0, 1) := by decide +kernel
theorem dX3_fairest_35 : decode cX3_fairest 35 = .ok (.aload_n 0, 1) := by decide +kernel
theorem dX3_fairest_36 : decode cX3_fairest 36 = .ok (.getfield 18, 3) := by decide +kernel
theorem dX3_fairest_39 : decode cX3_fairest 39 = .ok (.iload_n 3, 1) := by decide +kernel
theorem dX3_fairest_40 : decode cX3_fairest 40 = .ok (.iload_n 2, 1) := by decide +kernel
theorem dX3_fairest_41 : decode cX3_fairest 41 = .ok (.invokevirtual 81, 3) := by decide +kernel
theorem dX3_fairest_44 : decode cX3_fairest 44 = .ok (.ifCond .eq 5, 3) := by decide +kernel
theorem dX3_fairest_47 : decode cX3_fairest 47 = .ok (.iload_n 3, 1) := by decide +kernel
theorem dX3_fairest_48 : decode cX3_fairest 48 = .ok (.istore_n 2, 1) := by decide +kernel
theorem dX3_fairest_49 : decode cX3_fairest 49 = .ok (.iinc 3 1, 3) := by decide +kernel
theorem dX3_fairest_52 : decode cX3_fairest 52 = .ok (.goto (-48), 3) := by decide +kernel
theorem dX3_fairest_55 : decode cX3_fairest 55 = .ok (.iload_n 2, 1) := by decide +kernel
theorem dX3_fairest_56 : decode cX3_fairest 56 = .ok (.ireturn, 1) := by decide +kernel
def lp_X3_fairest_4 (j55 : Int32 → Option (Int32)) (fu : Nat) (M : gz_M) (a0 : Nat) (a1 : Int32) : Nat → Int32 → Int32 → Option (Int32)
  | 0, _, _ => none
  | n4 + 1, x1, x2 =>
    (gz_gI M 3 4 a0).bind fun x3 =>
    if x3 ≤ x2 then
      j55 x1
    else
      (gz_gR M 3 1 a0).bind fun x4 =>
      (gz_aI M x4 x2).bind fun x5 =>
      gz_jn (fun (x9 : Int32) =>
      lp_X3_fairest_4 j55 fu M a0 a1 n4 x9 (x2 + (1 : Int32))) fun j49 =>
      if x5 = 0 then
        (f_J6_bitCount_0f7a4 fu M x2).bind fun x6 =>
        if a1 < x6 then
          j49 x1
        else
          gz_jn (j49 x2) fun j47 =>
          if x1 = (-1 : Int32) then
            j47
          else
            (gz_gR M 3 2 a0).bind fun x7 =>
            (f_X3_isBefore fu M a0 x7 x2 x1).bind fun x8 =>
            if x8 = 0 then
              j49 x1
            else
              j47
      else
        j49 x1
def f_X3_fairest (fu : Nat) (M : gz_M) (a0 : Nat) (a1 : Int32) : Option (Int32) :=
  gz_gd M 3 a0 <|
  lp_X3_fairest_4 (fun (x10 : Int32) => some x10) fu M a0 a1 fu (-1 : Int32) (0 : Int32)
set_option maxHeartbeats 4000000 in
theorem w_X3_fairest_4 {C : gz_C} {y : Int32} {fu : Nat} {M : gz_M} {a0 : Nat} {a1 : Int32} {j55 : Int32 → Option (Int32)} (hC : gz_ok C cX3_fairest RX3 4) (hX : gz_cx C 1 23 0 0 (some .int) (some (.int y)) M "fairest") (hj55 : ∀ (x10 : Int32), j55 x10 = some y → gz_go C 0 0 M [(2, .int x10)] 55 []) : ∀ (n : Nat) (x1 : Int32) (x2 : Int32), lp_X3_fairest_4 j55 fu M a0 a1 n x1 x2 = some y → gz_go C 0 0 M [(0, .ref a0), (1, .int a1), (2, .int x1), (3, .int x2)] 4 [] := by
  intro n
  induction n with
  | zero => intro x1 x2 hF; exact nomatch (show (none : Option (Int32)) = some y from hF)
  | succ n4 ih4 =>
    intro x1 x2 hF
    rw [lp_X3_fairest_4.eq_2] at hF
    refine gz_iload_n 4 hC 3 dX3_fairest_4 rfl rfl ?_
    refine gz_aload_n 5 hC 0 dX3_fairest_5 rfl rfl ?_
    refine gz_getI 6 hC fl_X3_24 fk_3_4 dX3_fairest_6 hF (fun x3 hF => ?_)
    refine gz_icmp_ge 9 55 hC dX3_fairest_9 (by decide) hF (fun hF => ?_) (fun hF => ?_)
    · skip
      refine gz_sub [2] [(2, .int x1)] rfl ?_
      exact hj55 _ hF
    · skip
      refine gz_aload_n 12 hC 0 dX3_fairest_12 rfl rfl ?_
      refine gz_getR 13 hC fl_X3_15 fk_3_1 dX3_fairest_13 hF (fun x4 hF => ?_)
      refine gz_iload_n 16 hC 3 dX3_fairest_16 rfl rfl ?_
      refine gz_iald 17 hC dX3_fairest_17 hF (fun x5 hF => ?_)
      refine gz_join (fun (j : Int32 → Option (Int32)) => ∀ (x9 : Int32), j x9 = some y → gz_go C 0 0 M [(0, .ref a0), (1, .int a1), (2, .int x9), (3, .int x2)] 49 []) hF (fun x9 hF => ?_) (fun j49 hj49 hF => ?_)
      · skip
        refine gz_iinc 49 hC (x2 + (1 : Int32)) 3 [(3, .int (x2 + (1 : Int32))), (0, .ref a0), (1, .int a1), (2, .int x9)] dX3_fairest_49 rfl rfl (by decide) rfl ?_
        refine gz_goto 52 4 hC dX3_fairest_52 (by decide) ?_
        refine gz_sub [1, 2, 3, 0] [(0, .ref a0), (1, .int a1), (2, .int x9), (3, .int (x2 + (1 : Int32)))] rfl ?_
        exact ih4 _ _ hF
      refine gz_if_ne 18 49 hC dX3_fairest_18 (by decide) hF (fun hF => ?_) (fun hF => ?_)
      · skip
        exact hj49 _ hF
      · skip
        refine gz_iload_n 21 hC 3 dX3_fairest_21 rfl rfl ?_
        refine gz_csP (st := []) 22 hC hX [.int x2] Value.int yl_J6_bitCount_0f7a4 yv_J6_bitCount_0f7a4 q_855 ⟨Nat.le_of_ble_eq_true rfl, Nat.le_of_ble_eq_true rfl⟩ (fun r h => ct_J6_bitCount_0f7a4 _ _ fu M x2 r h) rfl rfl (Nat.le_of_ble_eq_true rfl) dX3_fairest_22 gz_00 hF (fun x6 hF => ?_)
        refine gz_iload_n 25 hC 1 dX3_fairest_25 rfl rfl ?_
        refine gz_icmp_gt 26 49 hC dX3_fairest_26 (by decide) hF (fun hF => ?_) (fun hF => ?_)
        · skip
          exact hj49 _ hF
        · skip
          refine gz_iload_n 29 hC 2 dX3_fairest_29 rfl rfl ?_
          refine gz_iconst 30 hC (-1 : Int32) dX3_fairest_30 gz_km1 ?_
          refine gz_join (fun (j : Option (Int32)) => j = some y → gz_go C 0 0 M [(0, .ref a0), (1, .int a1), (3, .int x2)] 47 []) hF (fun hF => ?_) (fun j47 hj47 hF => ?_)
          · skip
            refine gz_iload_n 47 hC 2 dX3_fairest_47 rfl rfl ?_
            refine gz_istore_n 48 hC [(2, .int x2), (0, .ref a0), (1, .int a1), (3, .int x2)] dX3_fairest_48 rfl (by decide) rfl ?_
            refine gz_sub [1, 2, 0, 3] [(0, .ref a0), (1, .int a1), (2, .int x2), (3, .int x2)] rfl ?_
            exact hj49 _ hF
          refine gz_icmp_eq 31 47 hC dX3_fairest_31 (by decide) hF (fun hF => ?_) (fun hF => ?_)
          · skip
            refine gz_sub [0, 1, 3] [(0, .ref a0), (1, .int a1), (3, .int x2)] rfl ?_
            exact hj47 hF
          · skip
            refine gz_aload_n 34 hC 0 dX3_fairest_34 rfl rfl ?_
            refine gz_aload_n 35 hC 0 dX3_fairest_35 rfl rfl ?_
            refine gz_getR 36 hC fl_X3_18 fk_3_2 dX3_fairest_36 hF (fun x7 hF => ?_)
            refine gz_iload_n 39 hC 3 dX3_fairest_39 rfl rfl ?_
            refine gz_iload_n 40 hC 2 dX3_fairest_40 rfl rfl ?_
            refine gz_cvP (st := []) 41 hC hX [.ref x7, .int x2, .int x1] Value.int yl_X3_isBefore yv_X3_isBefore q_893 ⟨Nat.le_of_ble_eq_true rfl, Nat.le_of_ble_eq_true rfl⟩ ⟨_, rfl⟩ (fun r h => ct_X3_isBefore _ _ fu M a0 x7 x2 x1 r h) rfl rfl (Nat.le_of_ble_eq_true rfl) dX3_fairest_41 gz_00 hF (fun x8 hF => ?_)
            refine gz_if_eq 44 49 hC dX3_fairest_44 (by decide) hF (fun hF => ?_) (fun hF => ?_)
            · skip
              exact hj49 _ hF
            · skip
              refine gz_sub [0, 1, 3] [(0, .ref a0), (1, .int a1), (3, .int x2)] rfl ?_
              exact hj47 hF
set_option maxHeartbeats 4000000 in
theorem ct_X3_fairest (l : Launch) (G : gz_G) (fu : Nat) (M : gz_M) (a0 : Nat) (a1 : Int32) (y : Int32) (hF : f_X3_fairest fu M a0 a1 = some y) : gz_ct l yX3_fairest cX3_fairest 4 (some .int) 1 23 0 0 G [.ref a0, .int a1] M (some (.int y)) M := by
  refine gz_ct.of (by decide) (Nat.le_of_ble_eq_true rfl) (fun C hC hX => ?_)
  unfold f_X3_fairest at hF
  obtain ⟨-, hF⟩ := gz_gd_some hF
  show gz_go C 0 0 M [(0, .ref a0), (1, .int a1)] 0 []
  refine gz_iconst 0 hC (-1 : Int32) dX3_fairest_0 gz_km1 ?_
  refine gz_istore_n 1 hC [(2, .int (-1 : Int32)), (0, .ref a0), (1, .int a1)] dX3_fairest_1 rfl (by decide) rfl ?_
  refine gz_iconst 2 hC (0 : Int32) dX3_fairest_2 gz_k0 ?_
  refine gz_istore_n 3 hC [(3, .int (0 : Int32)), (2, .int (-1 : Int32)), (0, .ref a0), (1, .int a1)] dX3_fairest_3 rfl (by decide) rfl ?_
  refine gz_sub [2, 3, 1, 0] [(0, .ref a0), (1, .int a1), (2, .int (-1 : Int32)), (3, .int (0 : Int32))] rfl ?_
  refine w_X3_fairest_4 hC hX ?_ _ _ _ hF
  intro x10 hF
  refine gz_iload_n 55 hC 0 dX3_fairest_55 rfl rfl ?_
  exact gz_iretP 56 hC hX dX3_fairest_56 hF

theorem dX3_mostShod_0 : decode cX3_mostShod 0 = .ok (.iconst 0, 1) := by decide +kernel
theorem dX3_mostShod_1 : decode cX3_mostShod 1 = .ok (.istore_n 2, 1) := by decide +kernel
theorem dX3_mostShod_2 : decode cX3_mostShod 2 = .ok (.iconst 1, 1) := by decide +kernel
theorem dX3_mostShod_3 : decode cX3_mostShod 3 = .ok (.istore_n 3, 1) := by decide +kernel
theorem dX3_mostShod_4 : decode cX3_mostShod 4 = .ok (.iload_n 3, 1) := by decide +kernel
theorem dX3_mostShod_5 : decode cX3_mostShod 5 = .ok (.aload_n 0, 1) := by decide +kernel
theorem dX3_mostShod_6 : decode cX3_mostShod 6 = .ok (.getfield 24, 3) := by decide +kernel
theorem dX3_mostShod_9 : decode cX3_mostShod 9 = .ok (.if_icmp .ge 32, 3) := by decide +kernel
theorem dX3_mostShod_12 : decode cX3_mostShod 12 = .ok (.iload_n 3, 1) := by decide +kernel
theorem dX3_mostShod_13 : decode cX3_mostShod 13 = .ok (.invokestatic 75, 3) := by decide +kernel
theorem dX3_mostShod_16 : decode cX3_mostShod 16 = .ok (.iload_n 1, 1) := by decide +kernel
theorem dX3_mostShod_17 : decode cX3_mostShod 17 = .ok (.if_icmp .gt 18, 3) := by decide +kernel
theorem dX3_mostShod_20 : decode cX3_mostShod 20 = .ok (.aload_n 0, 1) := by decide +kernel
theorem dX3_mostShod_21 : decode cX3_mostShod 21 = .ok (.aload_n 0, 1) := by decide +kernel
theorem dX3_mostShod_22 : decode cX3_mostShod 22 = .ok (.getfield 15, 3) := by decide +kernel
theorem dX3_mostShod_25 : decode cX3_mostShod 25 = .ok (.iload_n 3, 1) := by decide +kernel
theorem dX3_mostShod_26 : decode cX3_mostShod 26 = .ok (.iload_n 2, 1) := by decide +kernel
theorem dX3_mostShod_27 : decode cX3_mostShod 27 = .ok (.invokevirtual 81, 3) := by decide +kernel
theorem dX3_mostShod_30 : decode cX3_mostShod 30 = .ok (.ifCond .eq 5, 3) := by decide +kernel
theorem dX3_mostShod_33 : decode cX3_mostShod 33 = .ok (.iload_n 3, 1) := by decide +kernel
theorem dX3_mostShod_34 : decode cX3_mostShod 34 = .ok (.istore_n 2, 1) := by decide +kernel
theorem dX3_mostShod_35 : decode cX3_mostShod 35 = .ok (.iinc 3 1, 3) := by decide +kernel
theorem dX3_mostShod_38 : decode cX3_mostShod 38 = .ok (.goto (-34), 3) := by decide +kernel
theorem dX3_mostShod_41 : decode cX3_mostShod 41 = .ok (.iload_n 2, 1) := by decide +kernel
theorem dX3_mostShod_42 : decode cX3_mostShod 42 = .ok (.ireturn, 1) := by decide +kernel
def lp_X3_mostShod_4 (j41 : Int32 → Option (Int32)) (fu : Nat) (M : gz_M) (a0 : Nat) (a1 : Int32) : Nat → Int32 → Int32 → Option (Int32)
  | 0, _, _ => none
  | n4 + 1, x1, x2 =>
    (gz_gI M 3 4 a0).bind fun x3 =>
    if x3 ≤ x2 then
      j41 x1
    else
      (f_J6_bitCount_0f7a4 fu M x2).bind fun x4 =>
      gz_jn (fun (x7 : Int32) =>
      lp_X3_mostShod_4 j41 fu M a0 a1 n4 x7 (x2 + (1 : Int32))) fun j35 =>
      if a1 < x4 then
        j35 x1
      else
        (gz_gR M 3 1 a0).bind fun x5 =>
        (f_X3_isBefore fu M a0 x5 x2 x1).bind fun x6 =>
        if x6 = 0 then
          j35 x1
        else
          j35 x2
def f_X3_mostShod (fu : Nat) (M : gz_M) (a0 : Nat) (a1 : Int32) : Option (Int32) :=
  gz_gd M 3 a0 <|
  lp_X3_mostShod_4 (fun (x8 : Int32) => some x8) fu M a0 a1 fu (0 : Int32) (1 : Int32)
set_option maxHeartbeats 4000000 in
theorem w_X3_mostShod_4 {C : gz_C} {y : Int32} {fu : Nat} {M : gz_M} {a0 : Nat} {a1 : Int32} {j41 : Int32 → Option (Int32)} (hC : gz_ok C cX3_mostShod RX3 4) (hX : gz_cx C 1 23 0 0 (some .int) (some (.int y)) M "mostShod") (hj41 : ∀ (x8 : Int32), j41 x8 = some y → gz_go C 0 0 M [(2, .int x8)] 41 []) : ∀ (n : Nat) (x1 : Int32) (x2 : Int32), lp_X3_mostShod_4 j41 fu M a0 a1 n x1 x2 = some y → gz_go C 0 0 M [(0, .ref a0), (1, .int a1), (2, .int x1), (3, .int x2)] 4 [] := by
  intro n
  induction n with
  | zero => intro x1 x2 hF; exact nomatch (show (none : Option (Int32)) = some y from hF)
  | succ n4 ih4 =>
    intro x1 x2 hF
    rw [lp_X3_mostShod_4.eq_2] at hF
    refine gz_iload_n 4 hC 3 dX3_mostShod_4 rfl rfl ?_
    refine gz_aload_n 5 hC 0 dX3_mostShod_5 rfl rfl ?_
    refine gz_getI 6 hC fl_X3_24 fk_3_4 dX3_mostShod_6 hF (fun x3 hF => ?_)
    refine gz_icmp_ge 9 41 hC dX3_mostShod_9 (by decide) hF (fun hF => ?_) (fun hF => ?_)
    · skip
      refine gz_sub [2] [(2, .int x1)] rfl ?_
      exact hj41 _ hF
    · skip
      refine gz_iload_n 12 hC 3 dX3_mostShod_12 rfl rfl ?_
      refine gz_csP (st := []) 13 hC hX [.int x2] Value.int yl_J6_bitCount_0f7a4 yv_J6_bitCount_0f7a4 q_855 ⟨Nat.le_of_ble_eq_true rfl, Nat.le_of_ble_eq_true rfl⟩ (fun r h => ct_J6_bitCount_0f7a4 _ _ fu M x2 r h) rfl rfl (Nat.le_of_ble_eq_true rfl) dX3_mostShod_13 gz_00 hF (fun x4 hF => ?_)
      refine gz_iload_n 16 hC 1 dX3_mostShod_16 rfl rfl ?_
      refine gz_join (fun (j : Int32 → Option (Int32)) => ∀ (x7 : Int32), j x7 = some y → gz_go C 0 0 M [(0, .ref a0), (1, .int a1), (2, .int x7), (3, .int x2)] 35 []) hF (fun x7 hF => ?_) (fun j35 hj35 hF => ?_)
      · skip
        refine gz_iinc 35 hC (x2 + (1 : Int32)) 3 [(3, .int (x2 + (1 : Int32))), (0, .ref a0), (1, .int a1), (2, .int x7)] dX3_mostShod_35 rfl rfl (by decide) rfl ?_
        refine gz_goto 38 4 hC dX3_mostShod_38 (by decide) ?_
        refine gz_sub [1, 2, 3, 0] [(0, .ref a0), (1, .int a1), (2, .int x7), (3, .int (x2 + (1 : Int32)))] rfl ?_
        exact ih4 _ _ hF
      refine gz_icmp_gt 17 35 hC dX3_mostShod_17 (by decide) hF (fun hF => ?_) (fun hF => ?_)
      · skip
        exact hj35 _ hF
      · skip
        refine gz_aload_n 20 hC 0 dX3_mostShod_20 rfl rfl ?_
        refine gz_aload_n 21 hC 0 dX3_mostShod_21 rfl rfl ?_
        refine gz_getR 22 hC fl_X3_15 fk_3_1 dX3_mostShod_22 hF (fun x5 hF => ?_)
        refine gz_iload_n 25 hC 3 dX3_mostShod_25 rfl rfl ?_
        refine gz_iload_n 26 hC 2 dX3_mostShod_26 rfl rfl ?_
        refine gz_cvP (st := []) 27 hC hX [.ref x5, .int x2, .int x1] Value.int yl_X3_isBefore yv_X3_isBefore q_893 ⟨Nat.le_of_ble_eq_true rfl, Nat.le_of_ble_eq_true rfl⟩ ⟨_, rfl⟩ (fun r h => ct_X3_isBefore _ _ fu M a0 x5 x2 x1 r h) rfl rfl (Nat.le_of_ble_eq_true rfl) dX3_mostShod_27 gz_00 hF (fun x6 hF => ?_)
        refine gz_if_eq 30 35 hC dX3_mostShod_30 (by decide) hF (fun hF => ?_) (fun hF => ?_)
        · skip
          exact hj35 _ hF
        · skip
          refine gz_iload_n 33 hC 3 dX3_mostShod_33 rfl rfl ?_
          refine gz_istore_n 34 hC [(2, .int x2), (0, .ref a0), (1, .int a1), (3, .int x2)] dX3_mostShod_34 rfl (by decide) rfl ?_
          refine gz_sub [1, 2, 0, 3] [(0, .ref a0), (1, .int a1), (2, .int x2), (3, .int x2)] rfl ?_
          exact hj35 _ hF
set_option maxHeartbeats 4000000 in
theorem ct_X3_mostShod (l : Launch) (G : gz_G) (fu : Nat) (M : gz_M) (a0 : Nat) (a1 : Int32) (y : Int32) (hF : f_X3_mostShod fu M a0 a1 = some y) : gz_ct l yX3_mostShod cX3_mostShod 4 (some .int) 1 23 0 0 G [.ref a0, .int a1] M (some (.int y)) M := by
  refine gz_ct.of (by decide) (Nat.le_of_ble_eq_true rfl) (fun C hC hX => ?_)
  unfold f_X3_mostShod at hF
  obtain ⟨-, hF⟩ := gz_gd_some hF
  show gz_go C 0 0 M [(0, .ref a0), (1, .int a1)] 0 []
  refine gz_iconst 0 hC (0 : Int32) dX3_mostShod_0 gz_k0 ?_
  refine gz_istore_n 1 hC [(2, .int (0 : Int32)), (0, .ref a0), (1, .int a1)] dX3_mostShod_1 rfl (by decide) rfl ?_
  refine gz_iconst 2 hC (1 : Int32) dX3_mostShod_2 gz_k1 ?_
  refine gz_istore_n 3 hC [(3, .int (1 : Int32)), (2, .int (0 : Int32)), (0, .ref a0), (1, .int a1)] dX3_mostShod_3 rfl (by decide) rfl ?_
  refine gz_sub [2, 3, 1, 0] [(0, .ref a0), (1, .int a1), (2, .int (0 : Int32)), (3, .int (1 : Int32))] rfl ?_
  refine w_X3_mostShod_4 hC hX ?_ _ _ _ hF
  intro x8 hF
  refine gz_iload_n 41 hC 0 dX3_mostShod_41 rfl rfl ?_
  exact gz_iretP 42 hC hX dX3_mostShod_42 hF

theorem dX3_bestChange_0 : decode cX3_bestChange 0 = .ok (.iload_n 1, 1) := by decide +kernel
theorem dX3_bestChange_1 : decode cX3_bestChange 1 = .ok (.istore_n 2, 1) := by decide +kernel
theorem dX3_bestChange_2 : decode cX3_bestChange 2 = .ok (.iconst 1, 1) := by decide +kernel
theorem dX3_bestChange_3 : decode cX3_bestChange 3 = .ok (.istore_n 3, 1) := by decide +kernel
theorem dX3_bestChange_4 : decode cX3_bestChange 4 = .ok (.iload_n 3, 1) := by decide +kernel
theorem dX3_bestChange_5 : decode cX3_bestChange 5 = .ok (.aload_n 0, 1) := by decide +kernel
theorem dX3_bestChange_6 : decode cX3_bestChange 6 = .ok (.getfield 24, 3) := by decide +kernel
theorem dX3_bestChange_9 : decode cX3_bestChange 9 = .ok (.if_icmp .ge 74, 3) := by decide +kernel
theorem dX3_bestChange_12 : decode cX3_bestChange 12 = .ok (.iload_n 1, 1) := by decide +kernel
theorem dX3_bestChange_13 : decode cX3_bestChange 13 = .ok (.iload_n 3, 1) := by decide +kernel
theorem dX3_bestChange_14 : decode cX3_bestChange 14 = .ok (.iand, 1) := by decide +kernel
theorem dX3_bestChange_15 : decode cX3_bestChange 15 = .ok (.ifCond .ne 6, 3) := by decide +kernel
theorem dX3_bestChange_18 : decode cX3_bestChange 18 = .ok (.goto 58, 3) := by decide +kernel
theorem dX3_bestChange_21 : decode cX3_bestChange 21 = .ok (.iconst 1, 1) := by decide +kernel
theorem dX3_bestChange_22 : decode cX3_bestChange 22 = .ok (.istore 4, 2) := by decide +kernel
theorem dX3_bestChange_24 : decode cX3_bestChange 24 = .ok (.iload 4, 2) := by decide +kernel
theorem dX3_bestChange_26 : decode cX3_bestChange 26 = .ok (.aload_n 0, 1) := by decide +kernel
theorem dX3_bestChange_27 : decode cX3_bestChange 27 = .ok (.getfield 24, 3) := by decide +kernel
theorem dX3_bestChange_30 : decode cX3_bestChange 30 = .ok (.if_icmp .ge 46, 3) := by decide +kernel
theorem dX3_bestChange_33 : decode cX3_bestChange 33 = .ok (.iload_n 1, 1) := by decide +kernel
theorem dX3_bestChange_34 : decode cX3_bestChange 34 = .ok (.iload_n 3, 1) := by decide +kernel
theorem dX3_bestChange_35 : decode cX3_bestChange 35 = .ok (.isub, 1) := by decide +kernel
theorem dX3_bestChange_36 : decode cX3_bestChange 36 = .ok (.iload 4, 2) := by decide +kernel
theorem dX3_bestChange_38 : decode cX3_bestChange 38 = .ok (.ior, 1) := by decide +kernel
theorem dX3_bestChange_39 : decode cX3_bestChange 39 = .ok (.istore 5, 2) := by decide +kernel
theorem dX3_bestChange_41 : decode cX3_bestChange 41 = .ok (.iload_n 1, 1) := by decide +kernel
theorem dX3_bestChange_42 : decode cX3_bestChange 42 = .ok (.iload 4, 2) := by decide +kernel
theorem dX3_bestChange_44 : decode cX3_bestChange 44 = .ok (.iand, 1) := by decide +kernel
theorem dX3_bestChange_45 : decode cX3_bestChange 45 = .ok (.ifCond .ne 22, 3) := by decide +kernel
theorem dX3_bestChange_48 : decode cX3_bestChange 48 = .ok (.aload_n 0, 1) := by decide +kernel
theorem dX3_bestChange_49 : decode cX3_bestChange 49 = .ok (.getfield 9, 3) := by decide +kernel
theorem dX3_bestChange_52 : decode cX3_bestChange 52 = .ok (.iload 5, 2) := by decide +kernel
theorem dX3_bestChange_54 : decode cX3_bestChange 54 = .ok (.iaload, 1) := by decide +kernel
theorem dX3_bestChange_55 : decode cX3_bestChange 55 = .ok (.aload_n 0, 1) := by decide +kernel
theorem dX3_bestChange_56 : decode cX3_bestChange 56 = .ok (.getfield 9, 3) := by decide +kernel
theorem dX3_bestChange_59 : decode cX3_bestChange 59 = .ok (.iload_n 2, 1) := by decide +kernel
theorem dX3_bestChange_60 : decode cX3_bestChange 60 = .ok (.iaload, 1) := by decide +kernel
theorem dX3_bestChange_61 : decode cX3_bestChange 61 = .ok (.if_icmp .ge 6, 3) := by decide +kernel
theorem dX3_bestChange_64 : decode cX3_bestChange 64 = .ok (.iload 5, 2) := by decide +kernel
theorem dX3_bestChange_66 : decode cX3_bestChange 66 = .ok (.istore_n 2, 1) := by decide +kernel
theorem dX3_bestChange_67 : decode cX3_bestChange 67 = .ok (.iload 4, 2) := by decide +kernel
theorem dX3_bestChange_69 : decode cX3_bestChange 69 = .ok (.iconst 1, 1) := by decide +kernel
theorem dX3_bestChange_70 : decode cX3_bestChange 70 = .ok (.ishl, 1) := by decide +kernel
theorem dX3_bestChange_71 : decode cX3_bestChange 71 = .ok (.istore 4, 2) := by decide +kernel
theorem dX3_bestChange_73 : decode cX3_bestChange 73 = .ok (.goto (-49), 3) := by decide +kernel
theorem dX3_bestChange_76 : decode cX3_bestChange 76 = .ok (.iload_n 3, 1) := by decide +kernel
theorem dX3_bestChange_77 : decode cX3_bestChange 77 = .ok (.iconst 1, 1) := by decide +kernel
theorem dX3_bestChange_78 : decode cX3_bestChange 78 = .ok (.ishl, 1) := by decide +kernel
theorem dX3_bestChange_79 : decode cX3_bestChange 79 = .ok (.istore_n 3, 1) := by decide +kernel
theorem dX3_bestChange_80 : decode cX3_bestChange 80 = .ok (.goto (-76), 3) := by decide +kernel
theorem dX3_bestChange_83 : decode cX3_bestChange 83 = .ok (.iload_n 2, 1) := by decide +kernel
theorem dX3_bestChange_84 : decode cX3_bestChange 84 = .ok (.ireturn, 1) := by decide +kernel
def lp_X3_bestChange_24 (j76 : Int32 → Option (Int32)) (M : gz_M) (a0 : Nat) (a1 : Int32) (x2 : Int32) : Nat → Int32 → Int32 → Option (Int32)
  | 0, _, _ => none
  | n24 + 1, x4, x5 =>
    (gz_gI M 3 4 a0).bind fun x6 =>
    if x6 ≤ x5 then
      j76 x4
    else
      gz_jn (fun (x11 : Int32) =>
      lp_X3_bestChange_24 j76 M a0 a1 x2 n24 x11 (x5 <<< ((1 : Int32) &&& 31))) fun j67 =>
      if (a1 &&& x5) = 0 then
        (gz_gR M 3 0 a0).bind fun x7 =>
        (gz_aI M x7 ((a1 - x2) ||| x5)).bind fun x8 =>
        (gz_gR M 3 0 a0).bind fun x9 =>
        (gz_aI M x9 x4).bind fun x10 =>
        if x10 ≤ x8 then
          j67 x4
        else
          j67 ((a1 - x2) ||| x5)
      else
        j67 x4
def lp_X3_bestChange_4 (j83 : Int32 → Option (Int32)) (fu : Nat) (M : gz_M) (a0 : Nat) (a1 : Int32) : Nat → Int32 → Int32 → Option (Int32)
  | 0, _, _ => none
  | n4 + 1, x1, x2 =>
    (gz_gI M 3 4 a0).bind fun x3 =>
    if x3 ≤ x2 then
      j83 x1
    else
      gz_jn (fun (x12 : Int32) =>
      lp_X3_bestChange_4 j83 fu M a0 a1 n4 x12 (x2 <<< ((1 : Int32) &&& 31))) fun j76 =>
      if (a1 &&& x2) = 0 then
        j76 x1
      else
        lp_X3_bestChange_24 j76 M a0 a1 x2 fu x1 (1 : Int32)
def f_X3_bestChange (fu : Nat) (M : gz_M) (a0 : Nat) (a1 : Int32) : Option (Int32) :=
  gz_gd M 3 a0 <|
  lp_X3_bestChange_4 (fun (x13 : Int32) => some x13) fu M a0 a1 fu a1 (1 : Int32)
set_option maxHeartbeats 4000000 in
theorem w_X3_bestChange_24 {C : gz_C} {y : Int32} {M : gz_M} {a0 : Nat} {a1 : Int32} {x2 : Int32} {j76 : Int32 → Option (Int32)} (hC : gz_ok C cX3_bestChange RX3 6) (hX : gz_cx C 0 0 0 0 (some .int) (some (.int y)) M "bestChange") (hj76 : ∀ (x12 : Int32), j76 x12 = some y → gz_go C 0 0 M [(0, .ref a0), (1, .int a1), (2, .int x12), (3, .int x2)] 76 []) : ∀ (n : Nat) (x4 : Int32) (x5 : Int32), lp_X3_bestChange_24 j76 M a0 a1 x2 n x4 x5 = some y → gz_go C 0 0 M [(0, .ref a0), (1, .int a1), (2, .int x4), (3, .int x2), (4, .int x5)] 24 [] := by
  intro n
  induction n with
  | zero => intro x4 x5 hF; exact nomatch (show (none : Option (Int32)) = some y from hF)
  | succ n24 ih24 =>
    intro x4 x5 hF
    rw [lp_X3_bestChange_24.eq_2] at hF
    refine gz_iload 24 hC 4 dX3_bestChange_24 rfl ?_
    refine gz_aload_n 26 hC 0 dX3_bestChange_26 rfl rfl ?_
    refine gz_getI 27 hC fl_X3_24 fk_3_4 dX3_bestChange_27 hF (fun x6 hF => ?_)
    refine gz_icmp_ge 30 76 hC dX3_bestChange_30 (by decide) hF (fun hF => ?_) (fun hF => ?_)
    · skip
      refine gz_sub [0, 1, 2, 3] [(0, .ref a0), (1, .int a1), (2, .int x4), (3, .int x2)] rfl ?_
      exact hj76 _ hF
    · skip
      refine gz_iload_n 33 hC 1 dX3_bestChange_33 rfl rfl ?_
      refine gz_iload_n 34 hC 3 dX3_bestChange_34 rfl rfl ?_
      refine gz_isub 35 hC dX3_bestChange_35 ?_
      refine gz_iload 36 hC 4 dX3_bestChange_36 rfl ?_
      refine gz_ior 38 hC dX3_bestChange_38 ?_
      refine gz_istore 39 hC [(5, .int ((a1 - x2) ||| x5)), (0, .ref a0), (1, .int a1), (2, .int x4), (3, .int x2), (4, .int x5)] dX3_bestChange_39 (by decide) rfl ?_
      refine gz_iload_n 41 hC 2 dX3_bestChange_41 rfl rfl ?_
      refine gz_iload 42 hC 5 dX3_bestChange_42 rfl ?_
      refine gz_iand 44 hC dX3_bestChange_44 ?_
      refine gz_join (fun (j : Int32 → Option (Int32)) => ∀ (x11 : Int32), j x11 = some y → gz_go C 0 0 M [(0, .ref a0), (1, .int a1), (2, .int x11), (3, .int x2), (4, .int x5)] 67 []) hF (fun x11 hF => ?_) (fun j67 hj67 hF => ?_)
      · skip
        refine gz_iload 67 hC 4 dX3_bestChange_67 rfl ?_
        refine gz_iconst 69 hC (1 : Int32) dX3_bestChange_69 gz_k1 ?_
        refine gz_ishl 70 hC dX3_bestChange_70 ?_
        refine gz_istore 71 hC [(4, .int (x5 <<< ((1 : Int32) &&& 31))), (0, .ref a0), (1, .int a1), (2, .int x11), (3, .int x2)] dX3_bestChange_71 (by decide) rfl ?_
        refine gz_goto 73 24 hC dX3_bestChange_73 (by decide) ?_
        refine gz_sub [1, 2, 3, 4, 0] [(0, .ref a0), (1, .int a1), (2, .int x11), (3, .int x2), (4, .int (x5 <<< ((1 : Int32) &&& 31)))] rfl ?_
        exact ih24 _ _ hF
      refine gz_if_ne 45 67 hC dX3_bestChange_45 (by decide) hF (fun hF => ?_) (fun hF => ?_)
      · skip
        refine gz_sub [1, 2, 3, 4, 5] [(0, .ref a0), (1, .int a1), (2, .int x4), (3, .int x2), (4, .int x5)] rfl ?_
        exact hj67 _ hF
      · skip
        refine gz_aload_n 48 hC 1 dX3_bestChange_48 rfl rfl ?_
        refine gz_getR 49 hC fl_X3_9 fk_3_0 dX3_bestChange_49 hF (fun x7 hF => ?_)
        refine gz_iload 52 hC 0 dX3_bestChange_52 rfl ?_
        refine gz_iald 54 hC dX3_bestChange_54 hF (fun x8 hF => ?_)
        refine gz_aload_n 55 hC 1 dX3_bestChange_55 rfl rfl ?_
        refine gz_getR 56 hC fl_X3_9 fk_3_0 dX3_bestChange_56 hF (fun x9 hF => ?_)
        refine gz_iload_n 59 hC 3 dX3_bestChange_59 rfl rfl ?_
        refine gz_iald 60 hC dX3_bestChange_60 hF (fun x10 hF => ?_)
        refine gz_icmp_ge 61 67 hC dX3_bestChange_61 (by decide) hF (fun hF => ?_) (fun hF => ?_)
        · skip
          refine gz_sub [1, 2, 3, 4, 5] [(0, .ref a0), (1, .int a1), (2, .int x4), (3, .int x2), (4, .int x5)] rfl ?_
          exact hj67 _ hF
        · skip
          refine gz_iload 64 hC 0 dX3_bestChange_64 rfl ?_
          refine gz_istore_n 66 hC [(2, .int ((a1 - x2) ||| x5)), (5, .int ((a1 - x2) ||| x5)), (0, .ref a0), (1, .int a1), (3, .int x2), (4, .int x5)] dX3_bestChange_66 rfl (by decide) rfl ?_
          refine gz_sub [2, 3, 0, 4, 5] [(0, .ref a0), (1, .int a1), (2, .int ((a1 - x2) ||| x5)), (3, .int x2), (4, .int x5)] rfl ?_
          exact hj67 _ hF
set_option maxHeartbeats 4000000 in
theorem w_X3_bestChange_4 {C : gz_C} {y : Int32} {fu : Nat} {M : gz_M} {a0 : Nat} {a1 : Int32} {j83 : Int32 → Option (Int32)} (hC : gz_ok C cX3_bestChange RX3 6) (hX : gz_cx C 0 0 0 0 (some .int) (some (.int y)) M "bestChange") (hj83 : ∀ (x13 : Int32), j83 x13 = some y → gz_go C 0 0 M [(2, .int x13)] 83 []) : ∀ (n : Nat) (x1 : Int32) (x2 : Int32), lp_X3_bestChange_4 j83 fu M a0 a1 n x1 x2 = some y → gz_go C 0 0 M [(0, .ref a0), (1, .int a1), (2, .int x1), (3, .int x2)] 4 [] := by
  intro n
  induction n with
  | zero => intro x1 x2 hF; exact nomatch (show (none : Option (Int32)) = some y from hF)
  | succ n4 ih4 =>
    intro x1 x2 hF
    rw [lp_X3_bestChange_4.eq_2] at hF
    refine gz_iload_n 4 hC 3 dX3_bestChange_4 rfl rfl ?_
    refine gz_aload_n 5 hC 0 dX3_bestChange_5 rfl rfl ?_
    refine gz_getI 6 hC fl_X3_24 fk_3_4 dX3_bestChange_6 hF (fun x3 hF => ?_)
    refine gz_icmp_ge 9 83 hC dX3_bestChange_9 (by decide) hF (fun hF => ?_) (fun hF => ?_)
    · skip
      refine gz_sub [2] [(2, .int x1)] rfl ?_
      exact hj83 _ hF
    · skip
      refine gz_iload_n 12 hC 1 dX3_bestChange_12 rfl rfl ?_
      refine gz_iload_n 13 hC 3 dX3_bestChange_13 rfl rfl ?_
      refine gz_iand 14 hC dX3_bestChange_14 ?_
      refine gz_join (fun (j : Int32 → Option (Int32)) => ∀ (x12 : Int32), j x12 = some y → gz_go C 0 0 M [(0, .ref a0), (1, .int a1), (2, .int x12), (3, .int x2)] 76 []) hF (fun x12 hF => ?_) (fun j76 hj76 hF => ?_)
      · skip
        refine gz_iload_n 76 hC 3 dX3_bestChange_76 rfl rfl ?_
        refine gz_iconst 77 hC (1 : Int32) dX3_bestChange_77 gz_k1 ?_
        refine gz_ishl 78 hC dX3_bestChange_78 ?_
        refine gz_istore_n 79 hC [(3, .int (x2 <<< ((1 : Int32) &&& 31))), (0, .ref a0), (1, .int a1), (2, .int x12)] dX3_bestChange_79 rfl (by decide) rfl ?_
        refine gz_goto 80 4 hC dX3_bestChange_80 (by decide) ?_
        refine gz_sub [1, 2, 3, 0] [(0, .ref a0), (1, .int a1), (2, .int x12), (3, .int (x2 <<< ((1 : Int32) &&& 31)))] rfl ?_
        exact ih4 _ _ hF
      refine gz_if_ne 15 21 hC dX3_bestChange_15 (by decide) hF (fun hF => ?_) (fun hF => ?_)
      · skip
        refine gz_iconst 21 hC (1 : Int32) dX3_bestChange_21 gz_k1 ?_
        refine gz_istore 22 hC [(4, .int (1 : Int32)), (0, .ref a0), (1, .int a1), (2, .int x1), (3, .int x2)] dX3_bestChange_22 (by decide) rfl ?_
        refine gz_sub [1, 2, 3, 4, 0] [(0, .ref a0), (1, .int a1), (2, .int x1), (3, .int x2), (4, .int (1 : Int32))] rfl ?_
        refine w_X3_bestChange_24 hC hX hj76 _ _ _ hF
      · skip
        refine gz_goto 18 76 hC dX3_bestChange_18 (by decide) ?_
        exact hj76 _ hF
set_option maxHeartbeats 4000000 in
theorem ct_X3_bestChange (l : Launch) (G : gz_G) (fu : Nat) (M : gz_M) (a0 : Nat) (a1 : Int32) (y : Int32) (hF : f_X3_bestChange fu M a0 a1 = some y) : gz_ct l yX3_bestChange cX3_bestChange 6 (some .int) 0 0 0 0 G [.ref a0, .int a1] M (some (.int y)) M := by
  refine gz_ct.of (by decide) (Nat.le_of_ble_eq_true rfl) (fun C hC hX => ?_)
  unfold f_X3_bestChange at hF
  obtain ⟨-, hF⟩ := gz_gd_some hF
  show gz_go C 0 0 M [(0, .ref a0), (1, .int a1)] 0 []
  refine gz_iload_n 0 hC 1 dX3_bestChange_0 rfl rfl ?_
  refine gz_istore_n 1 hC [(2, .int a1), (0, .ref a0), (1, .int a1)] dX3_bestChange_1 rfl (by decide) rfl ?_
  refine gz_iconst 2 hC (1 : Int32) dX3_bestChange_2 gz_k1 ?_
  refine gz_istore_n 3 hC [(3, .int (1 : Int32)), (2, .int a1), (0, .ref a0), (1, .int a1)] dX3_bestChange_3 rfl (by decide) rfl ?_
  refine gz_sub [2, 3, 1, 0] [(0, .ref a0), (1, .int a1), (2, .int a1), (3, .int (1 : Int32))] rfl ?_
  refine w_X3_bestChange_4 hC hX ?_ _ _ _ hF
  intro x13 hF
  refine gz_iload_n 83 hC 0 dX3_bestChange_83 rfl rfl ?_
  exact gz_iretP 84 hC hX dX3_bestChange_84 hF

theorem dX3_changedFrom_0 : decode cX3_changedFrom 0 = .ok (.iload_n 1, 1) := by decide +kernel
theorem dX3_changedFrom_1 : decode cX3_changedFrom 1 = .ok (.istore_n 2, 1) := by decide +kernel
theorem dX3_changedFrom_2 : decode cX3_changedFrom 2 = .ok (.iconst 0, 1) := by decide +kernel
theorem dX3_changedFrom_3 : decode cX3_changedFrom 3 = .ok (.istore_n 3, 1) := by decide +kernel
theorem dX3_changedFrom_4 : decode cX3_changedFrom 4 = .ok (.iload_n 3, 1) := by decide +kernel
theorem dX3_changedFrom_5 : decode cX3_changedFrom 5 = .ok (.aload_n 0, 1) := by decide +kernel
theorem dX3_changedFrom_6 : decode cX3_changedFrom 6 = .ok (.getfield 24, 3) := by decide +kernel
theorem dX3_changedFrom_9 : decode cX3_changedFrom 9 = .ok (.if_icmp .ge 28, 3) := by decide +kernel
theorem dX3_changedFrom_12 : decode cX3_changedFrom 12 = .ok (.aload_n 0, 1) := by decide +kernel
theorem dX3_changedFrom_13 : decode cX3_changedFrom 13 = .ok (.iload_n 2, 1) := by decide +kernel
theorem dX3_changedFrom_14 : decode cX3_changedFrom 14 = .ok (.invokevirtual 85, 3) := by decide +kernel
theorem dX3_changedFrom_17 : decode cX3_changedFrom 17 = .ok (.istore 4, 2) := by decide +kernel
theorem dX3_changedFrom_19 : decode cX3_changedFrom 19 = .ok (.iload 4, 2) := by decide +kernel
theorem dX3_changedFrom_21 : decode cX3_changedFrom 21 = .ok (.iload_n 2, 1) := by decide +kernel
theorem dX3_changedFrom_22 : decode cX3_changedFrom 22 = .ok (.if_icmp .ne 6, 3) := by decide +kernel
theorem dX3_changedFrom_25 : decode cX3_changedFrom 25 = .ok (.goto 12, 3) := by decide +kernel
theorem dX3_changedFrom_28 : decode cX3_changedFrom 28 = .ok (.iload 4, 2) := by decide +kernel
theorem dX3_changedFrom_30 : decode cX3_changedFrom 30 = .ok (.istore_n 2, 1) := by decide +kernel
theorem dX3_changedFrom_31 : decode cX3_changedFrom 31 = .ok (.iinc 3 1, 3) := by decide +kernel
theorem dX3_changedFrom_34 : decode cX3_changedFrom 34 = .ok (.goto (-30), 3) := by decide +kernel
theorem dX3_changedFrom_37 : decode cX3_changedFrom 37 = .ok (.iload_n 2, 1) := by decide +kernel
theorem dX3_changedFrom_38 : decode cX3_changedFrom 38 = .ok (.ireturn, 1) := by decide +kernel
def lp_X3_changedFrom_4 (j37 : Int32 → Option (Int32)) (fu : Nat) (M : gz_M) (a0 : Nat) : Nat → Int32 → Int32 → Option (Int32)
  | 0, _, _ => none
  | n4 + 1, x1, x2 =>
    (gz_gI M 3 4 a0).bind fun x3 =>
    if x3 ≤ x2 then
      j37 x1
    else
      (f_X3_bestChange fu M a0 x1).bind fun x4 =>
      if x4 = x1 then
        j37 x1
      else
        lp_X3_changedFrom_4 j37 fu M a0 n4 x4 (x2 + (1 : Int32))
def f_X3_changedFrom (fu : Nat) (M : gz_M) (a0 : Nat) (a1 : Int32) : Option (Int32) :=
  gz_gd M 3 a0 <|
  lp_X3_changedFrom_4 (fun (x5 : Int32) => some x5) fu M a0 fu a1 (0 : Int32)
set_option maxHeartbeats 4000000 in
theorem w_X3_changedFrom_4 {C : gz_C} {y : Int32} {fu : Nat} {M : gz_M} {a0 : Nat} {j37 : Int32 → Option (Int32)} (hC : gz_ok C cX3_changedFrom RX3 5) (hX : gz_cx C 1 25 0 0 (some .int) (some (.int y)) M "changedFrom") (hj37 : ∀ (x5 : Int32), j37 x5 = some y → gz_go C 0 0 M [(2, .int x5)] 37 []) : ∀ (n : Nat) (x1 : Int32) (x2 : Int32), lp_X3_changedFrom_4 j37 fu M a0 n x1 x2 = some y → gz_go C 0 0 M [(0, .ref a0), (2, .int x1), (3, .int x2)] 4 [] := by
  intro n
  induction n with
  | zero => intro x1 x2 hF; exact nomatch (show (none : Option (Int32)) = some y from hF)
  | succ n4 ih4 =>
    intro x1 x2 hF
    rw [lp_X3_changedFrom_4.eq_2] at hF
    refine gz_iload_n 4 hC 2 dX3_changedFrom_4 rfl rfl ?_
    refine gz_aload_n 5 hC 0 dX3_changedFrom_5 rfl rfl ?_
    refine gz_getI 6 hC fl_X3_24 fk_3_4 dX3_changedFrom_6 hF (fun x3 hF => ?_)
    refine gz_icmp_ge 9 37 hC dX3_changedFrom_9 (by decide) hF (fun hF => ?_) (fun hF => ?_)
    · skip
      refine gz_sub [1] [(2, .int x1)] rfl ?_
      exact hj37 _ hF
    · skip
      refine gz_aload_n 12 hC 0 dX3_changedFrom_12 rfl rfl ?_
      refine gz_iload_n 13 hC 1 dX3_changedFrom_13 rfl rfl ?_
      refine gz_cvP (st := []) 14 hC hX [.int x1] Value.int yl_X3_bestChange yv_X3_bestChange q_877 ⟨Nat.le_of_ble_eq_true rfl, Nat.le_of_ble_eq_true rfl⟩ ⟨_, rfl⟩ (fun r h => ct_X3_bestChange _ _ fu M a0 x1 r h) rfl rfl (Nat.le_of_ble_eq_true rfl) dX3_changedFrom_14 gz_00 hF (fun x4 hF => ?_)
      refine gz_istore 17 hC [(4, .int x4), (0, .ref a0), (2, .int x1), (3, .int x2)] dX3_changedFrom_17 (by decide) rfl ?_
      refine gz_iload 19 hC 0 dX3_changedFrom_19 rfl ?_
      refine gz_iload_n 21 hC 2 dX3_changedFrom_21 rfl rfl ?_
      refine gz_icmp_ne 22 28 hC dX3_changedFrom_22 (by decide) hF (fun hF => ?_) (fun hF => ?_)
      · skip
        refine gz_iload 28 hC 0 dX3_changedFrom_28 rfl ?_
        refine gz_istore_n 30 hC [(2, .int x4), (4, .int x4), (0, .ref a0), (3, .int x2)] dX3_changedFrom_30 rfl (by decide) rfl ?_
        refine gz_iinc 31 hC (x2 + (1 : Int32)) 3 [(3, .int (x2 + (1 : Int32))), (2, .int x4), (4, .int x4), (0, .ref a0)] dX3_changedFrom_31 rfl rfl (by decide) rfl ?_
        refine gz_goto 34 4 hC dX3_changedFrom_34 (by decide) ?_
        refine gz_sub [3, 1, 0] [(0, .ref a0), (2, .int x4), (3, .int (x2 + (1 : Int32)))] rfl ?_
        exact ih4 _ _ hF
      · skip
        refine gz_goto 25 37 hC dX3_changedFrom_25 (by decide) ?_
        refine gz_sub [2] [(2, .int x1)] rfl ?_
        exact hj37 _ hF
set_option maxHeartbeats 4000000 in
theorem ct_X3_changedFrom (l : Launch) (G : gz_G) (fu : Nat) (M : gz_M) (a0 : Nat) (a1 : Int32) (y : Int32) (hF : f_X3_changedFrom fu M a0 a1 = some y) : gz_ct l yX3_changedFrom cX3_changedFrom 5 (some .int) 1 25 0 0 G [.ref a0, .int a1] M (some (.int y)) M := by
  refine gz_ct.of (by decide) (Nat.le_of_ble_eq_true rfl) (fun C hC hX => ?_)
  unfold f_X3_changedFrom at hF
  obtain ⟨-, hF⟩ := gz_gd_some hF
  show gz_go C 0 0 M [(0, .ref a0), (1, .int a1)] 0 []
  refine gz_iload_n 0 hC 1 dX3_changedFrom_0 rfl rfl ?_
  refine gz_istore_n 1 hC [(2, .int a1), (0, .ref a0), (1, .int a1)] dX3_changedFrom_1 rfl (by decide) rfl ?_
  refine gz_iconst 2 hC (0 : Int32) dX3_changedFrom_2 gz_k0 ?_
  refine gz_istore_n 3 hC [(3, .int (0 : Int32)), (2, .int a1), (0, .ref a0), (1, .int a1)] dX3_changedFrom_3 rfl (by decide) rfl ?_
  refine gz_sub [2, 1, 0] [(0, .ref a0), (2, .int a1), (3, .int (0 : Int32))] rfl ?_
  refine w_X3_changedFrom_4 hC hX ?_ _ _ _ hF
  intro x5 hF
  refine gz_iload_n 37 hC 0 dX3_changedFrom_37 rfl rfl ?_
  exact gz_iretP 38 hC hX dX3_changedFrom_38 hF

theorem dX3_leastTotalWithout_0 : decode cX3_leastTotalWithout 0 = .ok (.aload_n 1, 1) := by decide +kernel
theorem dX3_leastTotalWithout_1 : decode cX3_leastTotalWithout 1 = .ok (.iload_n 2, 1) := by decide +kernel
theorem dX3_leastTotalWithout_2 : decode cX3_leastTotalWithout 2 = .ok (.iconst 3, 1) := by decide +kernel
theorem dX3_leastTotalWithout_3 : decode cX3_leastTotalWithout 3 = .ok (.invokevirtual 66, 3) := by decide +kernel
theorem dX3_leastTotalWithout_6 : decode cX3_leastTotalWithout 6 = .ok (.istore 4, 2) := by decide +kernel
theorem dX3_leastTotalWithout_8 : decode cX3_leastTotalWithout 8 = .ok (.aload_n 1, 1) := by decide +kernel
theorem dX3_leastTotalWithout_9 : decode cX3_leastTotalWithout 9 = .ok (.iload_n 2, 1) := by decide +kernel
theorem dX3_leastTotalWithout_10 : decode cX3_leastTotalWithout 10 = .ok (.ldc 57, 2) := by decide +kernel
theorem dX3_leastTotalWithout_12 : decode cX3_leastTotalWithout 12 = .ok (.invokevirtual 69, 3) := by decide +kernel
theorem dX3_leastTotalWithout_15 : decode cX3_leastTotalWithout 15 = .ok (.istore 5, 2) := by decide +kernel
theorem dX3_leastTotalWithout_17 : decode cX3_leastTotalWithout 17 = .ok (.iconst 0, 1) := by decide +kernel
theorem dX3_leastTotalWithout_18 : decode cX3_leastTotalWithout 18 = .ok (.istore 6, 2) := by decide +kernel
theorem dX3_leastTotalWithout_20 : decode cX3_leastTotalWithout 20 = .ok (.aload_n 0, 1) := by decide +kernel
theorem dX3_leastTotalWithout_21 : decode cX3_leastTotalWithout 21 = .ok (.getfield 9, 3) := by decide +kernel
theorem dX3_leastTotalWithout_24 : decode cX3_leastTotalWithout 24 = .ok (.iconst 0, 1) := by decide +kernel
theorem dX3_leastTotalWithout_25 : decode cX3_leastTotalWithout 25 = .ok (.iaload, 1) := by decide +kernel
theorem dX3_leastTotalWithout_26 : decode cX3_leastTotalWithout 26 = .ok (.iload 5, 2) := by decide +kernel
theorem dX3_leastTotalWithout_28 : decode cX3_leastTotalWithout 28 = .ok (.isub, 1) := by decide +kernel
theorem dX3_leastTotalWithout_29 : decode cX3_leastTotalWithout 29 = .ok (.istore 7, 2) := by decide +kernel
theorem dX3_leastTotalWithout_31 : decode cX3_leastTotalWithout 31 = .ok (.iconst 1, 1) := by decide +kernel
theorem dX3_leastTotalWithout_32 : decode cX3_leastTotalWithout 32 = .ok (.istore 8, 2) := by decide +kernel
theorem dX3_leastTotalWithout_34 : decode cX3_leastTotalWithout 34 = .ok (.iload 8, 2) := by decide +kernel
theorem dX3_leastTotalWithout_36 : decode cX3_leastTotalWithout 36 = .ok (.aload_n 0, 1) := by decide +kernel
theorem dX3_leastTotalWithout_37 : decode cX3_leastTotalWithout 37 = .ok (.getfield 24, 3) := by decide +kernel
theorem dX3_leastTotalWithout_40 : decode cX3_leastTotalWithout 40 = .ok (.if_icmp .ge 70, 3) := by decide +kernel
theorem dX3_leastTotalWithout_43 : decode cX3_leastTotalWithout 43 = .ok (.aload_n 0, 1) := by decide +kernel
theorem dX3_leastTotalWithout_44 : decode cX3_leastTotalWithout 44 = .ok (.getfield 9, 3) := by decide +kernel
theorem dX3_leastTotalWithout_47 : decode cX3_leastTotalWithout 47 = .ok (.iload 8, 2) := by decide +kernel
theorem dX3_leastTotalWithout_49 : decode cX3_leastTotalWithout 49 = .ok (.iaload, 1) := by decide +kernel
theorem dX3_leastTotalWithout_50 : decode cX3_leastTotalWithout 50 = .ok (.aload_n 0, 1) := by decide +kernel
theorem dX3_leastTotalWithout_51 : decode cX3_leastTotalWithout 51 = .ok (.getfield 21, 3) := by decide +kernel
theorem dX3_leastTotalWithout_54 : decode cX3_leastTotalWithout 54 = .ok (.iload 8, 2) := by decide +kernel
theorem dX3_leastTotalWithout_56 : decode cX3_leastTotalWithout 56 = .ok (.iaload, 1) := by decide +kernel
theorem dX3_leastTotalWithout_57 : decode cX3_leastTotalWithout 57 = .ok (.ldc 57, 2) := by decide +kernel
theorem dX3_leastTotalWithout_59 : decode cX3_leastTotalWithout 59 = .ok (.if_icmp .ne 8, 3) := by decide +kernel
theorem dX3_leastTotalWithout_62 : decode cX3_leastTotalWithout 62 = .ok (.iload 5, 2) := by decide +kernel
theorem dX3_leastTotalWithout_64 : decode cX3_leastTotalWithout 64 = .ok (.goto 13, 3) := by decide +kernel
theorem dX3_leastTotalWithout_67 : decode cX3_leastTotalWithout 67 = .ok (.iload 4, 2) := by decide +kernel
theorem dX3_leastTotalWithout_69 : decode cX3_leastTotalWithout 69 = .ok (.aload_n 0, 1) := by decide +kernel
theorem dX3_leastTotalWithout_70 : decode cX3_leastTotalWithout 70 = .ok (.getfield 21, 3) := by decide +kernel
theorem dX3_leastTotalWithout_73 : decode cX3_leastTotalWithout 73 = .ok (.iload 8, 2) := by decide +kernel
theorem dX3_leastTotalWithout_75 : decode cX3_leastTotalWithout 75 = .ok (.iaload, 1) := by decide +kernel
theorem dX3_leastTotalWithout_76 : decode cX3_leastTotalWithout 76 = .ok (.imul, 1) := by decide +kernel
theorem dX3_leastTotalWithout_77 : decode cX3_leastTotalWithout 77 = .ok (.isub, 1) := by decide +kernel
theorem dX3_leastTotalWithout_78 : decode cX3_leastTotalWithout 78 = .ok (.istore 9, 2) := by decide +kernel
theorem dX3_leastTotalWithout_80 : decode cX3_leastTotalWithout 80 = .ok (.iload 9, 2) := by decide +kernel
theorem dX3_leastTotalWithout_82 : decode cX3_leastTotalWithout 82 = .ok (.iload 7, 2) := by decide +kernel
theorem dX3_leastTotalWithout_84 : decode cX3_leastTotalWithout 84 = .ok (.if_icmp .ge 20, 3) := by decide +kernel
theorem dX3_leastTotalWithout_87 : decode cX3_leastTotalWithout 87 = .ok (.iload 8, 2) := by decide +kernel
theorem dX3_leastTotalWithout_89 : decode cX3_leastTotalWithout 89 = .ok (.invokestatic 75, 3) := by decide +kernel
theorem dX3_leastTotalWithout_92 : decode cX3_leastTotalWithout 92 = .ok (.iload_n 3, 1) := by decide +kernel
theorem dX3_leastTotalWithout_93 : decode cX3_leastTotalWithout 93 = .ok (.if_icmp .gt 11, 3) := by decide +kernel
theorem dX3_leastTotalWithout_96 : decode cX3_leastTotalWithout 96 = .ok (.iload 8, 2) := by decide +kernel
theorem dX3_leastTotalWithout_98 : decode cX3_leastTotalWithout 98 = .ok (.istore 6, 2) := by decide +kernel
theorem dX3_leastTotalWithout_100 : decode cX3_leastTotalWithout 100 = .ok (.iload 9, 2) := by decide +kernel
theorem dX3_leastTotalWithout_102 : decode cX3_leastTotalWithout 102 = .ok (.istore 7, 2) := by decide +kernel
theorem dX3_leastTotalWithout_104 : decode cX3_leastTotalWithout 104 = .ok (.iinc 8 1, 3) := by decide +kernel
theorem dX3_leastTotalWithout_107 : decode cX3_leastTotalWithout 107 = .ok (.goto (-73), 3) := by decide +kernel
theorem dX3_leastTotalWithout_110 : decode cX3_leastTotalWithout 110 = .ok (.iload 6, 2) := by decide +kernel
theorem dX3_leastTotalWithout_112 : decode cX3_leastTotalWithout 112 = .ok (.ireturn, 1) := by decide +kernel
def lp_X3_leastTotalWithout_34 (j110 : Int32 → Option (Int32)) (fu : Nat) (M : gz_M) (a0 : Nat) (a3 : Int32) (x1 : Int32) (x2 : Int32) : Nat → Int32 → Int32 → Int32 → Option (Int32)
  | 0, _, _, _ => none
  | n34 + 1, x5, x6, x7 =>
    (gz_gI M 3 4 a0).bind fun x8 =>
    if x8 ≤ x7 then
      j110 x5
    else
      (gz_gR M 3 0 a0).bind fun x9 =>
      (gz_aI M x9 x7).bind fun x10 =>
      (gz_gR M 3 3 a0).bind fun x11 =>
      (gz_aI M x11 x7).bind fun x12 =>
      gz_jn (fun (x15 : Int32) =>
      gz_jn (fun (x17 : Int32) (x18 : Int32) =>
        lp_X3_leastTotalWithout_34 j110 fu M a0 a3 x1 x2 n34 x17 x18 (x7 + (1 : Int32))) fun j104 =>
        if x6 ≤ (x10 - x15) then
          j104 x5 x6
        else
          (f_J6_bitCount_0f7a4 fu M x7).bind fun x16 =>
          if a3 < x16 then
            j104 x5 x6
          else
            j104 x7 (x10 - x15)) fun j77 =>
      if x12 = (2147483647 : Int32) then
        j77 x2
      else
        (gz_gR M 3 3 a0).bind fun x13 =>
        (gz_aI M x13 x7).bind fun x14 =>
        j77 (x1 * x14)
def f_X3_leastTotalWithout (fu : Nat) (M : gz_M) (a0 : Nat) (a1 : Nat) (a2 : Int32) (a3 : Int32) : Option (Int32) :=
  gz_gd M 3 a0 <|
  (f_X7_footPart fu M a1 a2 (3 : Int32)).bind fun x1 =>
  (f_X7_costAt fu M a1 a2 (2147483647 : Int32)).bind fun x2 =>
  (gz_gR M 3 0 a0).bind fun x3 =>
  (gz_aI M x3 (0 : Int32)).bind fun x4 =>
  lp_X3_leastTotalWithout_34 (fun (x19 : Int32) => some x19) fu M a0 a3 x1 x2 fu (0 : Int32) (x4 - x2) (1 : Int32)
set_option maxHeartbeats 4000000 in
theorem w_X3_leastTotalWithout_34 {C : gz_C} {y : Int32} {fu : Nat} {M : gz_M} {a0 : Nat} {a3 : Int32} {x1 : Int32} {x2 : Int32} {j110 : Int32 → Option (Int32)} (hC : gz_ok C cX3_leastTotalWithout RX3 10) (hX : gz_cx C 2 44 0 0 (some .int) (some (.int y)) M "leastTotalWithout") (hj110 : ∀ (x19 : Int32), j110 x19 = some y → gz_go C 0 0 M [(6, .int x19)] 110 []) : ∀ (n : Nat) (x5 : Int32) (x6 : Int32) (x7 : Int32), lp_X3_leastTotalWithout_34 j110 fu M a0 a3 x1 x2 n x5 x6 x7 = some y → gz_go C 0 0 M [(0, .ref a0), (3, .int a3), (4, .int x1), (5, .int x2), (6, .int x5), (7, .int x6), (8, .int x7)] 34 [] := by
  intro n
  induction n with
  | zero => intro x5 x6 x7 hF; exact nomatch (show (none : Option (Int32)) = some y from hF)
  | succ n34 ih34 =>
    intro x5 x6 x7 hF
    rw [lp_X3_leastTotalWithout_34.eq_2] at hF
    refine gz_iload 34 hC 6 dX3_leastTotalWithout_34 rfl ?_
    refine gz_aload_n 36 hC 0 dX3_leastTotalWithout_36 rfl rfl ?_
    refine gz_getI 37 hC fl_X3_24 fk_3_4 dX3_leastTotalWithout_37 hF (fun x8 hF => ?_)
    refine gz_icmp_ge 40 110 hC dX3_leastTotalWithout_40 (by decide) hF (fun hF => ?_) (fun hF => ?_)
    · skip
      refine gz_sub [4] [(6, .int x5)] rfl ?_
      exact hj110 _ hF
    · skip
      refine gz_aload_n 43 hC 0 dX3_leastTotalWithout_43 rfl rfl ?_
      refine gz_getR 44 hC fl_X3_9 fk_3_0 dX3_leastTotalWithout_44 hF (fun x9 hF => ?_)
      refine gz_iload 47 hC 6 dX3_leastTotalWithout_47 rfl ?_
      refine gz_iald 49 hC dX3_leastTotalWithout_49 hF (fun x10 hF => ?_)
      refine gz_aload_n 50 hC 0 dX3_leastTotalWithout_50 rfl rfl ?_
      refine gz_getR 51 hC fl_X3_21 fk_3_3 dX3_leastTotalWithout_51 hF (fun x11 hF => ?_)
      refine gz_iload 54 hC 6 dX3_leastTotalWithout_54 rfl ?_
      refine gz_iald 56 hC dX3_leastTotalWithout_56 hF (fun x12 hF => ?_)
      refine gz_ldc 57 hC dX3_leastTotalWithout_57 q_839 ?_
      refine gz_join (fun (j : Int32 → Option (Int32)) => ∀ (x15 : Int32), j x15 = some y → gz_go C 0 0 M [(0, .ref a0), (3, .int a3), (4, .int x1), (5, .int x2), (6, .int x5), (7, .int x6), (8, .int x7)] 77 [.int x15, .int x10]) hF (fun x15 hF => ?_) (fun j77 hj77 hF => ?_)
      · skip
        refine gz_isub 77 hC dX3_leastTotalWithout_77 ?_
        refine gz_istore 78 hC [(9, .int (x10 - x15)), (0, .ref a0), (3, .int a3), (4, .int x1), (5, .int x2), (6, .int x5), (7, .int x6), (8, .int x7)] dX3_leastTotalWithout_78 (by decide) rfl ?_
        refine gz_iload 80 hC 0 dX3_leastTotalWithout_80 rfl ?_
        refine gz_iload 82 hC 6 dX3_leastTotalWithout_82 rfl ?_
        refine gz_join (fun (j : Int32 → Int32 → Option (Int32)) => ∀ (x17 : Int32) (x18 : Int32), j x17 x18 = some y → gz_go C 0 0 M [(0, .ref a0), (3, .int a3), (4, .int x1), (5, .int x2), (6, .int x17), (7, .int x18), (8, .int x7)] 104 []) hF (fun x17 x18 hF => ?_) (fun j104 hj104 hF => ?_)
        · skip
          refine gz_iinc 104 hC (x7 + (1 : Int32)) 6 [(8, .int (x7 + (1 : Int32))), (0, .ref a0), (3, .int a3), (4, .int x1), (5, .int x2), (6, .int x17), (7, .int x18)] dX3_leastTotalWithout_104 rfl rfl (by decide) rfl ?_
          refine gz_goto 107 34 hC dX3_leastTotalWithout_107 (by decide) ?_
          refine gz_sub [1, 2, 3, 4, 5, 6, 0] [(0, .ref a0), (3, .int a3), (4, .int x1), (5, .int x2), (6, .int x17), (7, .int x18), (8, .int (x7 + (1 : Int32)))] rfl ?_
          exact ih34 _ _ _ hF
        refine gz_icmp_ge 84 104 hC dX3_leastTotalWithout_84 (by decide) hF (fun hF => ?_) (fun hF => ?_)
        · skip
          refine gz_sub [1, 2, 3, 4, 5, 6, 7] [(0, .ref a0), (3, .int a3), (4, .int x1), (5, .int x2), (6, .int x5), (7, .int x6), (8, .int x7)] rfl ?_
          exact hj104 _ _ hF
        · skip
          refine gz_iload 87 hC 7 dX3_leastTotalWithout_87 rfl ?_
          refine gz_csP (st := []) 89 hC hX [.int x7] Value.int yl_J6_bitCount_0f7a4 yv_J6_bitCount_0f7a4 q_855 ⟨Nat.le_of_ble_eq_true rfl, Nat.le_of_ble_eq_true rfl⟩ (fun r h => ct_J6_bitCount_0f7a4 _ _ fu M x7 r h) rfl rfl (Nat.le_of_ble_eq_true rfl) dX3_leastTotalWithout_89 gz_00 hF (fun x16 hF => ?_)
          refine gz_iload_n 92 hC 2 dX3_leastTotalWithout_92 rfl rfl ?_
          refine gz_icmp_gt 93 104 hC dX3_leastTotalWithout_93 (by decide) hF (fun hF => ?_) (fun hF => ?_)
          · skip
            refine gz_sub [1, 2, 3, 4, 5, 6, 7] [(0, .ref a0), (3, .int a3), (4, .int x1), (5, .int x2), (6, .int x5), (7, .int x6), (8, .int x7)] rfl ?_
            exact hj104 _ _ hF
          · skip
            refine gz_iload 96 hC 7 dX3_leastTotalWithout_96 rfl ?_
            refine gz_istore 98 hC [(6, .int x7), (9, .int (x10 - x15)), (0, .ref a0), (3, .int a3), (4, .int x1), (5, .int x2), (7, .int x6), (8, .int x7)] dX3_leastTotalWithout_98 (by decide) rfl ?_
            refine gz_iload 100 hC 1 dX3_leastTotalWithout_100 rfl ?_
            refine gz_istore 102 hC [(7, .int (x10 - x15)), (6, .int x7), (9, .int (x10 - x15)), (0, .ref a0), (3, .int a3), (4, .int x1), (5, .int x2), (8, .int x7)] dX3_leastTotalWithout_102 (by decide) rfl ?_
            refine gz_sub [3, 4, 5, 6, 1, 0, 7] [(0, .ref a0), (3, .int a3), (4, .int x1), (5, .int x2), (6, .int x7), (7, .int (x10 - x15)), (8, .int x7)] rfl ?_
            exact hj104 _ _ hF
      refine gz_icmp_ne 59 67 hC dX3_leastTotalWithout_59 (by decide) hF (fun hF => ?_) (fun hF => ?_)
      · skip
        refine gz_iload 67 hC 2 dX3_leastTotalWithout_67 rfl ?_
        refine gz_aload_n 69 hC 0 dX3_leastTotalWithout_69 rfl rfl ?_
        refine gz_getR 70 hC fl_X3_21 fk_3_3 dX3_leastTotalWithout_70 hF (fun x13 hF => ?_)
        refine gz_iload 73 hC 6 dX3_leastTotalWithout_73 rfl ?_
        refine gz_iald 75 hC dX3_leastTotalWithout_75 hF (fun x14 hF => ?_)
        refine gz_imul 76 hC dX3_leastTotalWithout_76 ?_
        exact hj77 _ hF
      · skip
        refine gz_iload 62 hC 3 dX3_leastTotalWithout_62 rfl ?_
        refine gz_goto 64 77 hC dX3_leastTotalWithout_64 (by decide) ?_
        exact hj77 _ hF
set_option maxHeartbeats 4000000 in
theorem ct_X3_leastTotalWithout (l : Launch) (G : gz_G) (fu : Nat) (M : gz_M) (a0 : Nat) (a1 : Nat) (a2 : Int32) (a3 : Int32) (y : Int32) (hF : f_X3_leastTotalWithout fu M a0 a1 a2 a3 = some y) : gz_ct l yX3_leastTotalWithout cX3_leastTotalWithout 10 (some .int) 2 44 0 0 G [.ref a0, .ref a1, .int a2, .int a3] M (some (.int y)) M := by
  refine gz_ct.of (by decide) (Nat.le_of_ble_eq_true rfl) (fun C hC hX => ?_)
  unfold f_X3_leastTotalWithout at hF
  obtain ⟨-, hF⟩ := gz_gd_some hF
  show gz_go C 0 0 M [(0, .ref a0), (1, .ref a1), (2, .int a2), (3, .int a3)] 0 []
  refine gz_aload_n 0 hC 1 dX3_leastTotalWithout_0 rfl rfl ?_
  refine gz_iload_n 1 hC 2 dX3_leastTotalWithout_1 rfl rfl ?_
  refine gz_iconst 2 hC (3 : Int32) dX3_leastTotalWithout_2 gz_k3 ?_
  refine gz_cvP (st := []) 3 hC hX [.int a2, .int (3 : Int32)] Value.int yl_X7_footPart yv_X7_footPart q_846 ⟨Nat.le_of_ble_eq_true rfl, Nat.le_of_ble_eq_true rfl⟩ ⟨_, rfl⟩ (fun r h => ct_X7_footPart _ _ fu M a1 a2 (3 : Int32) r h) rfl rfl (Nat.le_of_ble_eq_true rfl) dX3_leastTotalWithout_3 gz_00 hF (fun x1 hF => ?_)
  refine gz_istore 6 hC [(4, .int x1), (0, .ref a0), (1, .ref a1), (2, .int a2), (3, .int a3)] dX3_leastTotalWithout_6 (by decide) rfl ?_
  refine gz_aload_n 8 hC 2 dX3_leastTotalWithout_8 rfl rfl ?_
  refine gz_iload_n 9 hC 3 dX3_leastTotalWithout_9 rfl rfl ?_
  refine gz_ldc 10 hC dX3_leastTotalWithout_10 q_839 ?_
  refine gz_cvP (st := []) 12 hC hX [.int a2, .int (2147483647 : Int32)] Value.int yl_X7_costAt yv_X7_costAt q_847 ⟨Nat.le_of_ble_eq_true rfl, Nat.le_of_ble_eq_true rfl⟩ ⟨_, rfl⟩ (fun r h => ct_X7_costAt _ _ fu M a1 a2 (2147483647 : Int32) r h) rfl rfl (Nat.le_of_ble_eq_true rfl) dX3_leastTotalWithout_12 gz_00 hF (fun x2 hF => ?_)
  refine gz_istore 15 hC [(5, .int x2), (4, .int x1), (0, .ref a0), (1, .ref a1), (2, .int a2), (3, .int a3)] dX3_leastTotalWithout_15 (by decide) rfl ?_
  refine gz_iconst 17 hC (0 : Int32) dX3_leastTotalWithout_17 gz_k0 ?_
  refine gz_istore 18 hC [(6, .int (0 : Int32)), (5, .int x2), (4, .int x1), (0, .ref a0), (1, .ref a1), (2, .int a2), (3, .int a3)] dX3_leastTotalWithout_18 (by decide) rfl ?_
  refine gz_aload_n 20 hC 3 dX3_leastTotalWithout_20 rfl rfl ?_
  refine gz_getR 21 hC fl_X3_9 fk_3_0 dX3_leastTotalWithout_21 hF (fun x3 hF => ?_)
  refine gz_iconst 24 hC (0 : Int32) dX3_leastTotalWithout_24 gz_k0 ?_
  refine gz_iald 25 hC dX3_leastTotalWithout_25 hF (fun x4 hF => ?_)
  refine gz_iload 26 hC 1 dX3_leastTotalWithout_26 rfl ?_
  refine gz_isub 28 hC dX3_leastTotalWithout_28 ?_
  refine gz_istore 29 hC [(7, .int (x4 - x2)), (6, .int (0 : Int32)), (5, .int x2), (4, .int x1), (0, .ref a0), (1, .ref a1), (2, .int a2), (3, .int a3)] dX3_leastTotalWithout_29 (by decide) rfl ?_
  refine gz_iconst 31 hC (1 : Int32) dX3_leastTotalWithout_31 gz_k1 ?_
  refine gz_istore 32 hC [(8, .int (1 : Int32)), (7, .int (x4 - x2)), (6, .int (0 : Int32)), (5, .int x2), (4, .int x1), (0, .ref a0), (1, .ref a1), (2, .int a2), (3, .int a3)] dX3_leastTotalWithout_32 (by decide) rfl ?_
  refine gz_sub [5, 8, 4, 3, 2, 1, 0] [(0, .ref a0), (3, .int a3), (4, .int x1), (5, .int x2), (6, .int (0 : Int32)), (7, .int (x4 - x2)), (8, .int (1 : Int32))] rfl ?_
  refine w_X3_leastTotalWithout_34 hC hX ?_ _ _ _ _ hF
  intro x19 hF
  refine gz_iload 110 hC 0 dX3_leastTotalWithout_110 rfl ?_
  exact gz_iretP 112 hC hX dX3_leastTotalWithout_112 hF

theorem dX3_doubtIn_0 : decode cX3_doubtIn 0 = .ok (.aload_n 0, 1) := by decide +kernel
theorem dX3_doubtIn_1 : decode cX3_doubtIn 1 = .ok (.iload_n 2, 1) := by decide +kernel
theorem dX3_doubtIn_2 : decode cX3_doubtIn 2 = .ok (.invokevirtual 88, 3) := by decide +kernel
theorem dX3_doubtIn_5 : decode cX3_doubtIn 5 = .ok (.istore_n 3, 1) := by decide +kernel
theorem dX3_doubtIn_6 : decode cX3_doubtIn 6 = .ok (.iconst 0, 1) := by decide +kernel
theorem dX3_doubtIn_7 : decode cX3_doubtIn 7 = .ok (.istore 4, 2) := by decide +kernel
theorem dX3_doubtIn_9 : decode cX3_doubtIn 9 = .ok (.iconst 0, 1) := by decide +kernel
theorem dX3_doubtIn_10 : decode cX3_doubtIn 10 = .ok (.istore 5, 2) := by decide +kernel
theorem dX3_doubtIn_12 : decode cX3_doubtIn 12 = .ok (.iload 5, 2) := by decide +kernel
theorem dX3_doubtIn_14 : decode cX3_doubtIn 14 = .ok (.aload_n 1, 1) := by decide +kernel
theorem dX3_doubtIn_15 : decode cX3_doubtIn 15 = .ok (.getfield 37, 3) := by decide +kernel
theorem dX3_doubtIn_18 : decode cX3_doubtIn 18 = .ok (.if_icmp .ge 65, 3) := by decide +kernel
theorem dX3_doubtIn_21 : decode cX3_doubtIn 21 = .ok (.aload_n 0, 1) := by decide +kernel
theorem dX3_doubtIn_22 : decode cX3_doubtIn 22 = .ok (.aload_n 1, 1) := by decide +kernel
theorem dX3_doubtIn_23 : decode cX3_doubtIn 23 = .ok (.iload 5, 2) := by decide +kernel
theorem dX3_doubtIn_25 : decode cX3_doubtIn 25 = .ok (.invokevirtual 40, 3) := by decide +kernel
theorem dX3_doubtIn_28 : decode cX3_doubtIn 28 = .ok (.aload_n 0, 1) := by decide +kernel
theorem dX3_doubtIn_29 : decode cX3_doubtIn 29 = .ok (.aload_n 1, 1) := by decide +kernel
theorem dX3_doubtIn_30 : decode cX3_doubtIn 30 = .ok (.iload 5, 2) := by decide +kernel
theorem dX3_doubtIn_32 : decode cX3_doubtIn 32 = .ok (.iload_n 2, 1) := by decide +kernel
theorem dX3_doubtIn_33 : decode cX3_doubtIn 33 = .ok (.invokevirtual 91, 3) := by decide +kernel
theorem dX3_doubtIn_36 : decode cX3_doubtIn 36 = .ok (.istore 6, 2) := by decide +kernel
theorem dX3_doubtIn_38 : decode cX3_doubtIn 38 = .ok (.aload_n 1, 1) := by decide +kernel
theorem dX3_doubtIn_39 : decode cX3_doubtIn 39 = .ok (.iload 5, 2) := by decide +kernel
theorem dX3_doubtIn_41 : decode cX3_doubtIn 41 = .ok (.aload_n 0, 1) := by decide +kernel
theorem dX3_doubtIn_42 : decode cX3_doubtIn 42 = .ok (.getfield 21, 3) := by decide +kernel
theorem dX3_doubtIn_45 : decode cX3_doubtIn 45 = .ok (.iload 6, 2) := by decide +kernel
theorem dX3_doubtIn_47 : decode cX3_doubtIn 47 = .ok (.iaload, 1) := by decide +kernel
theorem dX3_doubtIn_48 : decode cX3_doubtIn 48 = .ok (.invokevirtual 69, 3) := by decide +kernel
theorem dX3_doubtIn_51 : decode cX3_doubtIn 51 = .ok (.aload_n 1, 1) := by decide +kernel
theorem dX3_doubtIn_52 : decode cX3_doubtIn 52 = .ok (.iload 5, 2) := by decide +kernel
theorem dX3_doubtIn_54 : decode cX3_doubtIn 54 = .ok (.aload_n 0, 1) := by decide +kernel
theorem dX3_doubtIn_55 : decode cX3_doubtIn 55 = .ok (.getfield 21, 3) := by decide +kernel
theorem dX3_doubtIn_58 : decode cX3_doubtIn 58 = .ok (.iload_n 3, 1) := by decide +kernel
theorem dX3_doubtIn_59 : decode cX3_doubtIn 59 = .ok (.iaload, 1) := by decide +kernel
theorem dX3_doubtIn_60 : decode cX3_doubtIn 60 = .ok (.invokevirtual 69, 3) := by decide +kernel
theorem dX3_doubtIn_63 : decode cX3_doubtIn 63 = .ok (.isub, 1) := by decide +kernel
theorem dX3_doubtIn_64 : decode cX3_doubtIn 64 = .ok (.istore 7, 2) := by decide +kernel
theorem dX3_doubtIn_66 : decode cX3_doubtIn 66 = .ok (.iload 4, 2) := by decide +kernel
theorem dX3_doubtIn_68 : decode cX3_doubtIn 68 = .ok (.iconst 0, 1) := by decide +kernel
theorem dX3_doubtIn_69 : decode cX3_doubtIn 69 = .ok (.iload 7, 2) := by decide +kernel
theorem dX3_doubtIn_71 : decode cX3_doubtIn 71 = .ok (.invokestatic 72, 3) := by decide +kernel
theorem dX3_doubtIn_74 : decode cX3_doubtIn 74 = .ok (.iadd, 1) := by decide +kernel
theorem dX3_doubtIn_75 : decode cX3_doubtIn 75 = .ok (.istore 4, 2) := by decide +kernel
theorem dX3_doubtIn_77 : decode cX3_doubtIn 77 = .ok (.iinc 5 1, 3) := by decide +kernel
theorem dX3_doubtIn_80 : decode cX3_doubtIn 80 = .ok (.goto (-68), 3) := by decide +kernel
theorem dX3_doubtIn_83 : decode cX3_doubtIn 83 = .ok (.iload 4, 2) := by decide +kernel
theorem dX3_doubtIn_85 : decode cX3_doubtIn 85 = .ok (.ireturn, 1) := by decide +kernel
def lp_X3_doubtIn_12 (j83 : Int32 → gz_M → Option (Int32 × gz_M)) (fu : Nat) (a0 : Nat) (a1 : Nat) (a2 : Int32) (x1 : Int32) : Nat → Int32 → Int32 → gz_M → Option (Int32 × gz_M)
  | 0, _, _, _ => none
  | n12 + 1, x2, x3, M4 =>
    (gz_gI M4 7 4 a1).bind fun x5 =>
    if x5 ≤ x3 then
      j83 x2 M4
    else
      (f_X3_fillLeast fu M4 a0 a1 x3).bind fun M6 =>
      (f_X3_leastTotalWithout fu M6 a0 a1 x3 a2).bind fun x7 =>
      (gz_gR M6 3 3 a0).bind fun x8 =>
      (gz_aI M6 x8 x7).bind fun x9 =>
      (f_X7_costAt fu M6 a1 x3 x9).bind fun x10 =>
      (gz_gR M6 3 3 a0).bind fun x11 =>
      (gz_aI M6 x11 x1).bind fun x12 =>
      (f_X7_costAt fu M6 a1 x3 x12).bind fun x13 =>
      lp_X3_doubtIn_12 j83 fu a0 a1 a2 x1 n12 (x2 + (if (0 : Int32) < (x10 - x13) then (x10 - x13) else (0 : Int32))) (x3 + (1 : Int32)) M6
def f_X3_doubtIn (fu : Nat) (M : gz_M) (a0 : Nat) (a1 : Nat) (a2 : Int32) : Option (Int32 × gz_M) :=
  gz_gd M 3 a0 <|
  (f_X3_leastTotal fu M a0 a2).bind fun x1 =>
  lp_X3_doubtIn_12 (fun (x14 : Int32) (M15 : gz_M) => some (x14, M15)) fu a0 a1 a2 x1 fu (0 : Int32) (0 : Int32) M
set_option maxHeartbeats 4000000 in
theorem w_X3_doubtIn_12 {C : gz_C} {y : Int32 × gz_M} {fu : Nat} {a0 : Nat} {a1 : Nat} {a2 : Int32} {x1 : Int32} {j83 : Int32 → gz_M → Option (Int32 × gz_M)} (hC : gz_ok C cX3_doubtIn RX3 8) (hX : gz_cx C 5 125 0 0 (some .int) (some (.int y.1)) y.2 "doubtIn") (hj83 : ∀ (x14 : Int32) (M15 : gz_M), j83 x14 M15 = some y → gz_go C 0 0 M15 [(4, .int x14)] 83 []) : ∀ (n : Nat) (x2 : Int32) (x3 : Int32) (M4 : gz_M), lp_X3_doubtIn_12 j83 fu a0 a1 a2 x1 n x2 x3 M4 = some y → gz_go C 0 0 M4 [(0, .ref a0), (1, .ref a1), (2, .int a2), (3, .int x1), (4, .int x2), (5, .int x3)] 12 [] := by
  intro n
  induction n with
  | zero => intro x2 x3 M4 hF; exact nomatch (show (none : Option (Int32 × gz_M)) = some y from hF)
  | succ n12 ih12 =>
    intro x2 x3 M4 hF
    rw [lp_X3_doubtIn_12.eq_2] at hF
    refine gz_iload 12 hC 5 dX3_doubtIn_12 rfl ?_
    refine gz_aload_n 14 hC 1 dX3_doubtIn_14 rfl rfl ?_
    refine gz_getI 15 hC fl_X3_37 fk_7_4 dX3_doubtIn_15 hF (fun x5 hF => ?_)
    refine gz_icmp_ge 18 83 hC dX3_doubtIn_18 (by decide) hF (fun hF => ?_) (fun hF => ?_)
    · skip
      refine gz_sub [4] [(4, .int x2)] rfl ?_
      exact hj83 _ _ hF
    · skip
      refine gz_aload_n 21 hC 0 dX3_doubtIn_21 rfl rfl ?_
      refine gz_aload_n 22 hC 1 dX3_doubtIn_22 rfl rfl ?_
      refine gz_iload 23 hC 5 dX3_doubtIn_23 rfl ?_
      refine gz_cvV (st := []) 25 hC hX [.ref a1, .int x3] yl_X3_fillLeast yv_X3_fillLeast q_835 ⟨Nat.le_of_ble_eq_true rfl, Nat.le_of_ble_eq_true rfl⟩ ⟨_, rfl⟩ (fun r h => ct_X3_fillLeast _ _ fu M4 a0 a1 x3 r h) rfl rfl (Nat.le_of_ble_eq_true rfl) dX3_doubtIn_25 gz_00 hF (fun M6 hF => ?_)
      refine gz_aload_n 28 hC 0 dX3_doubtIn_28 rfl rfl ?_
      refine gz_aload_n 29 hC 1 dX3_doubtIn_29 rfl rfl ?_
      refine gz_iload 30 hC 5 dX3_doubtIn_30 rfl ?_
      refine gz_iload_n 32 hC 2 dX3_doubtIn_32 rfl rfl ?_
      refine gz_cvP (st := []) 33 hC hX [.ref a1, .int x3, .int a2] Value.int yl_X3_leastTotalWithout yv_X3_leastTotalWithout q_997 ⟨Nat.le_of_ble_eq_true rfl, Nat.le_of_ble_eq_true rfl⟩ ⟨_, rfl⟩ (fun r h => ct_X3_leastTotalWithout _ _ fu M6 a0 a1 x3 a2 r h) rfl rfl (Nat.le_of_ble_eq_true rfl) dX3_doubtIn_33 gz_00 hF (fun x7 hF => ?_)
      refine gz_istore 36 hC [(6, .int x7), (0, .ref a0), (1, .ref a1), (2, .int a2), (3, .int x1), (4, .int x2), (5, .int x3)] dX3_doubtIn_36 (by decide) rfl ?_
      refine gz_aload_n 38 hC 2 dX3_doubtIn_38 rfl rfl ?_
      refine gz_iload 39 hC 6 dX3_doubtIn_39 rfl ?_
      refine gz_aload_n 41 hC 1 dX3_doubtIn_41 rfl rfl ?_
      refine gz_getR 42 hC fl_X3_21 fk_3_3 dX3_doubtIn_42 hF (fun x8 hF => ?_)
      refine gz_iload 45 hC 0 dX3_doubtIn_45 rfl ?_
      refine gz_iald 47 hC dX3_doubtIn_47 hF (fun x9 hF => ?_)
      refine gz_cvP (st := []) 48 hC hX [.int x3, .int x9] Value.int yl_X7_costAt yv_X7_costAt q_847 ⟨Nat.le_of_ble_eq_true rfl, Nat.le_of_ble_eq_true rfl⟩ ⟨_, rfl⟩ (fun r h => ct_X7_costAt _ _ fu M6 a1 x3 x9 r h) rfl rfl (Nat.le_of_ble_eq_true rfl) dX3_doubtIn_48 gz_00 hF (fun x10 hF => ?_)
      refine gz_aload_n 51 hC 2 dX3_doubtIn_51 rfl rfl ?_
      refine gz_iload 52 hC 6 dX3_doubtIn_52 rfl ?_
      refine gz_aload_n 54 hC 1 dX3_doubtIn_54 rfl rfl ?_
      refine gz_getR 55 hC fl_X3_21 fk_3_3 dX3_doubtIn_55 hF (fun x11 hF => ?_)
      refine gz_iload_n 58 hC 4 dX3_doubtIn_58 rfl rfl ?_
      refine gz_iald 59 hC dX3_doubtIn_59 hF (fun x12 hF => ?_)
      refine gz_cvP (st := [.int x10]) 60 hC hX [.int x3, .int x12] Value.int yl_X7_costAt yv_X7_costAt q_847 ⟨Nat.le_of_ble_eq_true rfl, Nat.le_of_ble_eq_true rfl⟩ ⟨_, rfl⟩ (fun r h => ct_X7_costAt _ _ fu M6 a1 x3 x12 r h) rfl rfl (Nat.le_of_ble_eq_true rfl) dX3_doubtIn_60 gz_00 hF (fun x13 hF => ?_)
      refine gz_isub 63 hC dX3_doubtIn_63 ?_
      refine gz_istore 64 hC [(7, .int (x10 - x13)), (6, .int x7), (0, .ref a0), (1, .ref a1), (2, .int a2), (3, .int x1), (4, .int x2), (5, .int x3)] dX3_doubtIn_64 (by decide) rfl ?_
      refine gz_iload 66 hC 6 dX3_doubtIn_66 rfl ?_
      refine gz_iconst 68 hC (0 : Int32) dX3_doubtIn_68 gz_k0 ?_
      refine gz_iload 69 hC 0 dX3_doubtIn_69 rfl ?_
      refine gz_mmax 71 hC hX q_848 ⟨Nat.le_of_ble_eq_true rfl, Nat.le_of_ble_eq_true rfl⟩ gz_00 dX3_doubtIn_71 ?_
      refine gz_iadd 74 hC dX3_doubtIn_74 ?_
      refine gz_istore 75 hC [(4, .int (x2 + (if (0 : Int32) < (x10 - x13) then (x10 - x13) else (0 : Int32)))), (7, .int (x10 - x13)), (6, .int x7), (0, .ref a0), (1, .ref a1), (2, .int a2), (3, .int x1), (5, .int x3)] dX3_doubtIn_75 (by decide) rfl ?_
      refine gz_iinc 77 hC (x3 + (1 : Int32)) 7 [(5, .int (x3 + (1 : Int32))), (4, .int (x2 + (if (0 : Int32) < (x10 - x13) then (x10 - x13) else (0 : Int32)))), (7, .int (x10 - x13)), (6, .int x7), (0, .ref a0), (1, .ref a1), (2, .int a2), (3, .int x1)] dX3_doubtIn_77 rfl rfl (by decide) rfl ?_
      refine gz_goto 80 12 hC dX3_doubtIn_80 (by decide) ?_
      refine gz_sub [4, 5, 6, 7, 1, 0] [(0, .ref a0), (1, .ref a1), (2, .int a2), (3, .int x1), (4, .int (x2 + (if (0 : Int32) < (x10 - x13) then (x10 - x13) else (0 : Int32)))), (5, .int (x3 + (1 : Int32)))] rfl ?_
      exact ih12 _ _ _ hF
set_option maxHeartbeats 4000000 in
theorem ct_X3_doubtIn (l : Launch) (G : gz_G) (fu : Nat) (M : gz_M) (a0 : Nat) (a1 : Nat) (a2 : Int32) (y : Int32 × gz_M) (hF : f_X3_doubtIn fu M a0 a1 a2 = some y) : gz_ct l yX3_doubtIn cX3_doubtIn 8 (some .int) 5 125 0 0 G [.ref a0, .ref a1, .int a2] M (some (.int y.1)) y.2 := by
  refine gz_ct.of (by decide) (Nat.le_of_ble_eq_true rfl) (fun C hC hX => ?_)
  unfold f_X3_doubtIn at hF
  obtain ⟨-, hF⟩ := gz_gd_some hF
  show gz_go C 0 0 M [(0, .ref a0), (1, .ref a1), (2, .int a2)] 0 []
  refine gz_aload_n 0 hC 0 dX3_doubtIn_0 rfl rfl ?_
  refine gz_iload_n 1 hC 2 dX3_doubtIn_1 rfl rfl ?_
  refine gz_cvP (st := []) 2 hC hX [.int a2] Value.int yl_X3_leastTotal yv_X3_leastTotal q_996 ⟨Nat.le_of_ble_eq_true rfl, Nat.le_of_ble_eq_true rfl⟩ ⟨_, rfl⟩ (fun r h => ct_X3_leastTotal _ _ fu M a0 a2 r h) rfl rfl (Nat.le_of_ble_eq_true rfl) dX3_doubtIn_2 gz_00 hF (fun x1 hF => ?_)
  refine gz_istore_n 5 hC [(3, .int x1), (0, .ref a0), (1, .ref a1), (2, .int a2)] dX3_doubtIn_5 rfl (by decide) rfl ?_
  refine gz_iconst 6 hC (0 : Int32) dX3_doubtIn_6 gz_k0 ?_
  refine gz_istore 7 hC [(4, .int (0 : Int32)), (3, .int x1), (0, .ref a0), (1, .ref a1), (2, .int a2)] dX3_doubtIn_7 (by decide) rfl ?_
  refine gz_iconst 9 hC (0 : Int32) dX3_doubtIn_9 gz_k0 ?_
  refine gz_istore 10 hC [(5, .int (0 : Int32)), (4, .int (0 : Int32)), (3, .int x1), (0, .ref a0), (1, .ref a1), (2, .int a2)] dX3_doubtIn_10 (by decide) rfl ?_
  refine gz_sub [3, 4, 5, 2, 1, 0] [(0, .ref a0), (1, .ref a1), (2, .int a2), (3, .int x1), (4, .int (0 : Int32)), (5, .int (0 : Int32))] rfl ?_
  refine w_X3_doubtIn_12 hC hX ?_ _ _ _ _ hF
  intro x14 M15 hF
  refine gz_iload 83 hC 0 dX3_doubtIn_83 rfl ?_
  exact gz_iretM 85 hC hX dX3_doubtIn_85 hF

theorem dJ7_fill_d0a16_0 : decode cJ7_fill_d0a16 0 = .ok (.iconst 0, 1) := by decide +kernel
theorem dJ7_fill_d0a16_1 : decode cJ7_fill_d0a16 1 = .ok (.istore_n 3, 1) := by decide +kernel
theorem dJ7_fill_d0a16_2 : decode cJ7_fill_d0a16 2 = .ok (.aload_n 0, 1) := by decide +kernel
theorem dJ7_fill_d0a16_3 : decode cJ7_fill_d0a16 3 = .ok (.arraylength, 1) := by decide +kernel
theorem dJ7_fill_d0a16_4 : decode cJ7_fill_d0a16 4 = .ok (.istore 4, 2) := by decide +kernel
theorem dJ7_fill_d0a16_6 : decode cJ7_fill_d0a16 6 = .ok (.iload_n 3, 1) := by decide +kernel
theorem dJ7_fill_d0a16_7 : decode cJ7_fill_d0a16 7 = .ok (.iload 4, 2) := by decide +kernel
theorem dJ7_fill_d0a16_9 : decode cJ7_fill_d0a16 9 = .ok (.if_icmp .ge 13, 3) := by decide +kernel
theorem dJ7_fill_d0a16_12 : decode cJ7_fill_d0a16 12 = .ok (.aload_n 0, 1) := by decide +kernel
theorem dJ7_fill_d0a16_13 : decode cJ7_fill_d0a16 13 = .ok (.iload_n 3, 1) := by decide +kernel
theorem dJ7_fill_d0a16_14 : decode cJ7_fill_d0a16 14 = .ok (.lload_n 1, 1) := by decide +kernel
theorem dJ7_fill_d0a16_15 : decode cJ7_fill_d0a16 15 = .ok (.lastore, 1) := by decide +kernel
theorem dJ7_fill_d0a16_16 : decode cJ7_fill_d0a16 16 = .ok (.iinc 3 1, 3) := by decide +kernel
theorem dJ7_fill_d0a16_19 : decode cJ7_fill_d0a16 19 = .ok (.goto (-13), 3) := by decide +kernel
theorem dJ7_fill_d0a16_22 : decode cJ7_fill_d0a16 22 = .ok (.return_, 1) := by decide +kernel
def lp_J7_fill_d0a16_6 (j22 : gz_M → Option (gz_M)) (a0 : Nat) (a1 : Int64) (x1 : Int32) : Nat → Int32 → gz_M → Option (gz_M)
  | 0, _, _ => none
  | n6 + 1, x2, M3 =>
    if x1 ≤ x2 then
      j22 M3
    else
      (gz_tL M3 a0 x2 a1).bind fun M4 =>
      lp_J7_fill_d0a16_6 j22 a0 a1 x1 n6 (x2 + (1 : Int32)) M4
def f_J7_fill_d0a16 (fu : Nat) (M : gz_M) (a0 : Nat) (a1 : Int64) : Option (gz_M) :=
  (gz_ln M a0).bind fun x1 =>
  lp_J7_fill_d0a16_6 (fun (M5 : gz_M) => some M5) a0 a1 x1 fu (0 : Int32) M
set_option maxHeartbeats 4000000 in
theorem w_J7_fill_d0a16_6 {C : gz_C} {y : gz_M} {a0 : Nat} {a1 : Int64} {x1 : Int32} {j22 : gz_M → Option (gz_M)} (hC : gz_ok C cJ7_fill_d0a16 RJ7 5) (hX : gz_cx C 0 0 0 0 none none y "fill") (hj22 : ∀ (M5 : gz_M), j22 M5 = some y → gz_go C 0 0 M5 [] 22 []) : ∀ (n : Nat) (x2 : Int32) (M3 : gz_M), lp_J7_fill_d0a16_6 j22 a0 a1 x1 n x2 M3 = some y → gz_go C 0 0 M3 [(0, .ref a0), (1, .long a1), (3, .int x2), (4, .int x1)] 6 [] := by
  intro n
  induction n with
  | zero => intro x2 M3 hF; exact nomatch (show (none : Option (gz_M)) = some y from hF)
  | succ n6 ih6 =>
    intro x2 M3 hF
    rw [lp_J7_fill_d0a16_6.eq_2] at hF
    refine gz_iload_n 6 hC 2 dJ7_fill_d0a16_6 rfl rfl ?_
    refine gz_iload 7 hC 3 dJ7_fill_d0a16_7 rfl ?_
    refine gz_icmp_ge 9 22 hC dJ7_fill_d0a16_9 (by decide) hF (fun hF => ?_) (fun hF => ?_)
    · skip
      refine gz_sub [] [] rfl ?_
      exact hj22 _ hF
    · skip
      refine gz_aload_n 12 hC 0 dJ7_fill_d0a16_12 rfl rfl ?_
      refine gz_iload_n 13 hC 2 dJ7_fill_d0a16_13 rfl rfl ?_
      refine gz_lload_n 14 hC 1 dJ7_fill_d0a16_14 rfl rfl ?_
      refine gz_last 15 hC dJ7_fill_d0a16_15 hF (fun M4 hF => ?_)
      refine gz_iinc 16 hC (x2 + (1 : Int32)) 2 [(3, .int (x2 + (1 : Int32))), (0, .ref a0), (1, .long a1), (4, .int x1)] dJ7_fill_d0a16_16 rfl rfl (by decide) rfl ?_
      refine gz_goto 19 6 hC dJ7_fill_d0a16_19 (by decide) ?_
      refine gz_sub [1, 2, 0, 3] [(0, .ref a0), (1, .long a1), (3, .int (x2 + (1 : Int32))), (4, .int x1)] rfl ?_
      exact ih6 _ _ hF
set_option maxHeartbeats 4000000 in
theorem ct_J7_fill_d0a16 (l : Launch) (G : gz_G) (fu : Nat) (M : gz_M) (a0 : Nat) (a1 : Int64) (y : gz_M) (hF : f_J7_fill_d0a16 fu M a0 a1 = some y) : gz_ct l yJ7_fill_d0a16 cJ7_fill_d0a16 5 none 0 0 0 0 G [.ref a0, .long a1] M none y := by
  refine gz_ct.of (by decide) (Nat.le_of_ble_eq_true rfl) (fun C hC hX => ?_)
  unfold f_J7_fill_d0a16 at hF
  show gz_go C 0 0 M [(0, .ref a0), (1, .long a1)] 0 []
  refine gz_iconst 0 hC (0 : Int32) dJ7_fill_d0a16_0 gz_k0 ?_
  refine gz_istore_n 1 hC [(3, .int (0 : Int32)), (0, .ref a0), (1, .long a1)] dJ7_fill_d0a16_1 rfl (by decide) rfl ?_
  refine gz_aload_n 2 hC 1 dJ7_fill_d0a16_2 rfl rfl ?_
  refine gz_alen 3 hC dJ7_fill_d0a16_3 hF (fun x1 hF => ?_)
  refine gz_istore 4 hC [(4, .int x1), (3, .int (0 : Int32)), (0, .ref a0), (1, .long a1)] dJ7_fill_d0a16_4 (by decide) rfl ?_
  refine gz_sub [2, 3, 1, 0] [(0, .ref a0), (1, .long a1), (3, .int (0 : Int32)), (4, .int x1)] rfl ?_
  refine w_J7_fill_d0a16_6 hC hX ?_ _ _ _ hF
  intro M5 hF
  exact gz_vretM 22 hC hX dJ7_fill_d0a16_22 hF

theorem dX4_becomeRow_0 : decode cX4_becomeRow 0 = .ok (.aload_n 0, 1) := by decide +kernel
theorem dX4_becomeRow_1 : decode cX4_becomeRow 1 = .ok (.iload_n 1, 1) := by decide +kernel
theorem dX4_becomeRow_2 : decode cX4_becomeRow 2 = .ok (.putfield 15, 3) := by decide +kernel
theorem dX4_becomeRow_5 : decode cX4_becomeRow 5 = .ok (.aload_n 0, 1) := by decide +kernel
theorem dX4_becomeRow_6 : decode cX4_becomeRow 6 = .ok (.iload_n 2, 1) := by decide +kernel
theorem dX4_becomeRow_7 : decode cX4_becomeRow 7 = .ok (.putfield 19, 3) := by decide +kernel
theorem dX4_becomeRow_10 : decode cX4_becomeRow 10 = .ok (.aload_n 0, 1) := by decide +kernel
theorem dX4_becomeRow_11 : decode cX4_becomeRow 11 = .ok (.getfield 9, 3) := by decide +kernel
theorem dX4_becomeRow_14 : decode cX4_becomeRow 14 = .ok (.lconst 0, 1) := by decide +kernel
theorem dX4_becomeRow_15 : decode cX4_becomeRow 15 = .ok (.invokestatic 28, 3) := by decide +kernel
theorem dX4_becomeRow_18 : decode cX4_becomeRow 18 = .ok (.return_, 1) := by decide +kernel

def f_X4_becomeRow (fu : Nat) (M : gz_M) (a0 : Nat) (a1 : Int32) (a2 : Int32) : Option (gz_M) :=
  gz_gd M 4 a0 <|
  (gz_pI M 4 1 a0 a1).bind fun M1 =>
  (gz_pI M1 4 2 a0 a2).bind fun M2 =>
  (gz_gR M2 4 0 a0).bind fun x3 =>
  (f_J7_fill_d0a16 fu M2 x3 (0 : Int64)).bind fun M4 =>
  some M4

set_option maxHeartbeats 4000000 in
theorem ct_X4_becomeRow (l : Launch) (G : gz_G) (fu : Nat) (M : gz_M) (a0 : Nat) (a1 : Int32) (a2 : Int32) (y : gz_M) (hF : f_X4_becomeRow fu M a0 a1 a2 = some y) : gz_ct l yX4_becomeRow cX4_becomeRow 3 none 1 24 0 0 G [.ref a0, .int a1, .int a2] M none y := by
  refine gz_ct.of (by decide) (Nat.le_of_ble_eq_true rfl) (fun C hC hX => ?_)
  unfold f_X4_becomeRow at hF
  obtain ⟨-, hF⟩ := gz_gd_some hF
  show gz_go C 0 0 M [(0, .ref a0), (1, .int a1), (2, .int a2)] 0 []
  refine gz_aload_n 0 hC 0 dX4_becomeRow_0 rfl rfl ?_
  refine gz_iload_n 1 hC 1 dX4_becomeRow_1 rfl rfl ?_
  refine gz_putI 2 hC fl_X4_15 fk_4_1 dX4_becomeRow_2 hF (fun M1 hF => ?_)
  refine gz_aload_n 5 hC 0 dX4_becomeRow_5 rfl rfl ?_
  refine gz_iload_n 6 hC 2 dX4_becomeRow_6 rfl rfl ?_
  refine gz_putI 7 hC fl_X4_19 fk_4_2 dX4_becomeRow_7 hF (fun M2 hF => ?_)
  refine gz_aload_n 10 hC 0 dX4_becomeRow_10 rfl rfl ?_
  refine gz_getR 11 hC fl_X4_9 fk_4_0 dX4_becomeRow_11 hF (fun x3 hF => ?_)
  refine gz_lconst 14 hC (0 : Int64) dX4_becomeRow_14 gz_l0 ?_
  refine gz_csV (st := []) 15 hC hX [.ref x3, .long (0 : Int64)] yl_J7_fill_d0a16 yv_J7_fill_d0a16 q_425 ⟨Nat.le_of_ble_eq_true rfl, Nat.le_of_ble_eq_true rfl⟩ (fun r h => ct_J7_fill_d0a16 _ _ fu M2 x3 (0 : Int64) r h) rfl rfl (Nat.le_of_ble_eq_true rfl) dX4_becomeRow_15 gz_00 hF (fun M4 hF => ?_)
  exact gz_vretM 18 hC hX dX4_becomeRow_18 hF

theorem dX4_becomeTool_0 : decode cX4_becomeTool 0 = .ok (.aload_n 0, 1) := by decide +kernel
theorem dX4_becomeTool_1 : decode cX4_becomeTool 1 = .ok (.bipush 10, 2) := by decide +kernel
theorem dX4_becomeTool_3 : decode cX4_becomeTool 3 = .ok (.iload_n 1, 1) := by decide +kernel
theorem dX4_becomeTool_4 : decode cX4_becomeTool 4 = .ok (.iadd, 1) := by decide +kernel
theorem dX4_becomeTool_5 : decode cX4_becomeTool 5 = .ok (.putfield 15, 3) := by decide +kernel
theorem dX4_becomeTool_8 : decode cX4_becomeTool 8 = .ok (.aload_n 0, 1) := by decide +kernel
theorem dX4_becomeTool_9 : decode cX4_becomeTool 9 = .ok (.iconst 0, 1) := by decide +kernel
theorem dX4_becomeTool_10 : decode cX4_becomeTool 10 = .ok (.putfield 19, 3) := by decide +kernel
theorem dX4_becomeTool_13 : decode cX4_becomeTool 13 = .ok (.aload_n 0, 1) := by decide +kernel
theorem dX4_becomeTool_14 : decode cX4_becomeTool 14 = .ok (.iload_n 2, 1) := by decide +kernel
theorem dX4_becomeTool_15 : decode cX4_becomeTool 15 = .ok (.putfield 22, 3) := by decide +kernel
theorem dX4_becomeTool_18 : decode cX4_becomeTool 18 = .ok (.aload_n 0, 1) := by decide +kernel
theorem dX4_becomeTool_19 : decode cX4_becomeTool 19 = .ok (.iload_n 3, 1) := by decide +kernel
theorem dX4_becomeTool_20 : decode cX4_becomeTool 20 = .ok (.putfield 25, 3) := by decide +kernel
theorem dX4_becomeTool_23 : decode cX4_becomeTool 23 = .ok (.return_, 1) := by decide +kernel

def f_X4_becomeTool (fu : Nat) (M : gz_M) (a0 : Nat) (a1 : Int32) (a2 : Int32) (a3 : Int32) : Option (gz_M) :=
  gz_gd M 4 a0 <|
  (gz_pI M 4 1 a0 ((10 : Int32) + a1)).bind fun M1 =>
  (gz_pI M1 4 2 a0 (0 : Int32)).bind fun M2 =>
  (gz_pI M2 4 3 a0 a2).bind fun M3 =>
  (gz_pI M3 4 4 a0 a3).bind fun M4 =>
  some M4

set_option maxHeartbeats 4000000 in
theorem ct_X4_becomeTool (l : Launch) (G : gz_G) (fu : Nat) (M : gz_M) (a0 : Nat) (a1 : Int32) (a2 : Int32) (a3 : Int32) (y : gz_M) (hF : f_X4_becomeTool fu M a0 a1 a2 a3 = some y) : gz_ct l yX4_becomeTool cX4_becomeTool 4 none 0 0 0 0 G [.ref a0, .int a1, .int a2, .int a3] M none y := by
  refine gz_ct.of (by decide) (Nat.le_of_ble_eq_true rfl) (fun C hC hX => ?_)
  unfold f_X4_becomeTool at hF
  obtain ⟨-, hF⟩ := gz_gd_some hF
  show gz_go C 0 0 M [(0, .ref a0), (1, .int a1), (2, .int a2), (3, .int a3)] 0 []
  refine gz_aload_n 0 hC 0 dX4_becomeTool_0 rfl rfl ?_
  refine gz_bipush 1 hC (10 : Int32) dX4_becomeTool_1 gz_b10 ?_
  refine gz_iload_n 3 hC 1 dX4_becomeTool_3 rfl rfl ?_
  refine gz_iadd 4 hC dX4_becomeTool_4 ?_
  refine gz_putI 5 hC fl_X4_15 fk_4_1 dX4_becomeTool_5 hF (fun M1 hF => ?_)
  refine gz_aload_n 8 hC 0 dX4_becomeTool_8 rfl rfl ?_
  refine gz_iconst 9 hC (0 : Int32) dX4_becomeTool_9 gz_k0 ?_
  refine gz_putI 10 hC fl_X4_19 fk_4_2 dX4_becomeTool_10 hF (fun M2 hF => ?_)
  refine gz_aload_n 13 hC 0 dX4_becomeTool_13 rfl rfl ?_
  refine gz_iload_n 14 hC 2 dX4_becomeTool_14 rfl rfl ?_
  refine gz_putI 15 hC fl_X4_22 fk_4_3 dX4_becomeTool_15 hF (fun M3 hF => ?_)
  refine gz_aload_n 18 hC 0 dX4_becomeTool_18 rfl rfl ?_
  refine gz_iload_n 19 hC 3 dX4_becomeTool_19 rfl rfl ?_
  refine gz_putI 20 hC fl_X4_25 fk_4_4 dX4_becomeTool_20 hF (fun M4 hF => ?_)
  exact gz_vretM 23 hC hX dX4_becomeTool_23 hF

theorem dX4_isFree_0 : decode cX4_isFree 0 = .ok (.aload_n 0, 1) := by decide +kernel
theorem dX4_isFree_1 : decode cX4_isFree 1 = .ok (.getfield 15, 3) := by decide +kernel
theorem dX4_isFree_4 : decode cX4_isFree 4 = .ok (.iconst (-1), 1) := by decide +kernel
theorem dX4_isFree_5 : decode cX4_isFree 5 = .ok (.if_icmp .ne 7, 3) := by decide +kernel
theorem dX4_isFree_8 : decode cX4_isFree 8 = .ok (.iconst 1, 1) := by decide +kernel
theorem dX4_isFree_9 : decode cX4_isFree 9 = .ok (.goto 4, 3) := by decide +kernel
theorem dX4_isFree_12 : decode cX4_isFree 12 = .ok (.iconst 0, 1) := by decide +kernel
theorem dX4_isFree_13 : decode cX4_isFree 13 = .ok (.ireturn, 1) := by decide +kernel

def f_X4_isFree (fu : Nat) (M : gz_M) (a0 : Nat) : Option (Int32) :=
  gz_gd M 4 a0 <|
  (gz_gI M 4 1 a0).bind fun x1 =>
  gz_jn (fun (x2 : Int32) =>
  gz_z x2 (some x2)) fun j13 =>
  if x1 = (-1 : Int32) then
    j13 (1 : Int32)
  else
    j13 (0 : Int32)

set_option maxHeartbeats 4000000 in
theorem ct_X4_isFree (l : Launch) (G : gz_G) (fu : Nat) (M : gz_M) (a0 : Nat) (y : Int32) (hF : f_X4_isFree fu M a0 = some y) : gz_ct l yX4_isFree cX4_isFree 1 (some .boolean) 0 0 0 0 G [.ref a0] M (some (.int y)) M := by
  refine gz_ct.of (by decide) (Nat.le_of_ble_eq_true rfl) (fun C hC hX => ?_)
  unfold f_X4_isFree at hF
  obtain ⟨-, hF⟩ := gz_gd_some hF
  show gz_go C 0 0 M [(0, .ref a0)] 0 []
  refine gz_aload_n 0 hC 0 dX4_isFree_0 rfl rfl ?_
  refine gz_getI 1 hC fl_X4_15 fk_4_1 dX4_isFree_1 hF (fun x1 hF => ?_)
  refine gz_iconst 4 hC (-1 : Int32) dX4_isFree_4 gz_km1 ?_
  refine gz_join (fun (j : Int32 → Option (Int32)) => ∀ (x2 : Int32), j x2 = some y → gz_go C 0 0 M [] 13 [.int x2]) hF (fun x2 hF => ?_) (fun j13 hj13 hF => ?_)
  · skip
    exact gz_zretP 13 hC hX dX4_isFree_13 hF
  refine gz_icmp_ne 5 12 hC dX4_isFree_5 (by decide) hF (fun hF => ?_) (fun hF => ?_)
  · skip
    refine gz_iconst 12 hC (0 : Int32) dX4_isFree_12 gz_k0 ?_
    refine gz_sub [] [] rfl ?_
    exact hj13 _ hF
  · skip
    refine gz_iconst 8 hC (1 : Int32) dX4_isFree_8 gz_k1 ?_
    refine gz_goto 9 13 hC dX4_isFree_9 (by decide) ?_
    refine gz_sub [] [] rfl ?_
    exact hj13 _ hF

theorem dX4_isRow_0 : decode cX4_isRow 0 = .ok (.aload_n 0, 1) := by decide +kernel
theorem dX4_isRow_1 : decode cX4_isRow 1 = .ok (.getfield 15, 3) := by decide +kernel
theorem dX4_isRow_4 : decode cX4_isRow 4 = .ok (.ifCond .lt 15, 3) := by decide +kernel
theorem dX4_isRow_7 : decode cX4_isRow 7 = .ok (.aload_n 0, 1) := by decide +kernel
theorem dX4_isRow_8 : decode cX4_isRow 8 = .ok (.getfield 15, 3) := by decide +kernel
theorem dX4_isRow_11 : decode cX4_isRow 11 = .ok (.iconst 4, 1) := by decide +kernel
theorem dX4_isRow_12 : decode cX4_isRow 12 = .ok (.if_icmp .gt 7, 3) := by decide +kernel
theorem dX4_isRow_15 : decode cX4_isRow 15 = .ok (.iconst 1, 1) := by decide +kernel
theorem dX4_isRow_16 : decode cX4_isRow 16 = .ok (.goto 4, 3) := by decide +kernel
theorem dX4_isRow_19 : decode cX4_isRow 19 = .ok (.iconst 0, 1) := by decide +kernel
theorem dX4_isRow_20 : decode cX4_isRow 20 = .ok (.ireturn, 1) := by decide +kernel

def f_X4_isRow (fu : Nat) (M : gz_M) (a0 : Nat) : Option (Int32) :=
  gz_gd M 4 a0 <|
  (gz_gI M 4 1 a0).bind fun x1 =>
  gz_jn (fun (x3 : Int32) =>
  gz_z x3 (some x3)) fun j20 =>
  gz_jn (j20 (0 : Int32)) fun j19 =>
  if x1 < 0 then
    j19
  else
    (gz_gI M 4 1 a0).bind fun x2 =>
    if (4 : Int32) < x2 then
      j19
    else
      j20 (1 : Int32)

set_option maxHeartbeats 4000000 in
theorem ct_X4_isRow (l : Launch) (G : gz_G) (fu : Nat) (M : gz_M) (a0 : Nat) (y : Int32) (hF : f_X4_isRow fu M a0 = some y) : gz_ct l yX4_isRow cX4_isRow 1 (some .boolean) 0 0 0 0 G [.ref a0] M (some (.int y)) M := by
  refine gz_ct.of (by decide) (Nat.le_of_ble_eq_true rfl) (fun C hC hX => ?_)
  unfold f_X4_isRow at hF
  obtain ⟨-, hF⟩ := gz_gd_some hF
  show gz_go C 0 0 M [(0, .ref a0)] 0 []
  refine gz_aload_n 0 hC 0 dX4_isRow_0 rfl rfl ?_
  refine gz_getI 1 hC fl_X4_15 fk_4_1 dX4_isRow_1 hF (fun x1 hF => ?_)
  refine gz_join (fun (j : Int32 → Option (Int32)) => ∀ (x3 : Int32), j x3 = some y → gz_go C 0 0 M [] 20 [.int x3]) hF (fun x3 hF => ?_) (fun j20 hj20 hF => ?_)
  · skip
    exact gz_zretP 20 hC hX dX4_isRow_20 hF
  refine gz_join (fun (j : Option (Int32)) => j = some y → gz_go C 0 0 M [] 19 []) hF (fun hF => ?_) (fun j19 hj19 hF => ?_)
  · skip
    refine gz_iconst 19 hC (0 : Int32) dX4_isRow_19 gz_k0 ?_
    exact hj20 _ hF
  refine gz_if_lt 4 19 hC dX4_isRow_4 (by decide) hF (fun hF => ?_) (fun hF => ?_)
  · skip
    refine gz_sub [] [] rfl ?_
    exact hj19 hF
  · skip
    refine gz_aload_n 7 hC 0 dX4_isRow_7 rfl rfl ?_
    refine gz_getI 8 hC fl_X4_15 fk_4_1 dX4_isRow_8 hF (fun x2 hF => ?_)
    refine gz_iconst 11 hC (4 : Int32) dX4_isRow_11 gz_k4 ?_
    refine gz_icmp_gt 12 19 hC dX4_isRow_12 (by decide) hF (fun hF => ?_) (fun hF => ?_)
    · skip
      refine gz_sub [] [] rfl ?_
      exact hj19 hF
    · skip
      refine gz_iconst 15 hC (1 : Int32) dX4_isRow_15 gz_k1 ?_
      refine gz_goto 16 20 hC dX4_isRow_16 (by decide) ?_
      refine gz_sub [] [] rfl ?_
      exact hj20 _ hF

theorem dX4_isTool_0 : decode cX4_isTool 0 = .ok (.aload_n 0, 1) := by decide +kernel
theorem dX4_isTool_1 : decode cX4_isTool 1 = .ok (.getfield 15, 3) := by decide +kernel
theorem dX4_isTool_4 : decode cX4_isTool 4 = .ok (.bipush 10, 2) := by decide +kernel
theorem dX4_isTool_6 : decode cX4_isTool 6 = .ok (.if_icmp .lt 7, 3) := by decide +kernel
theorem dX4_isTool_9 : decode cX4_isTool 9 = .ok (.iconst 1, 1) := by decide +kernel
theorem dX4_isTool_10 : decode cX4_isTool 10 = .ok (.goto 4, 3) := by decide +kernel
theorem dX4_isTool_13 : decode cX4_isTool 13 = .ok (.iconst 0, 1) := by decide +kernel
theorem dX4_isTool_14 : decode cX4_isTool 14 = .ok (.ireturn, 1) := by decide +kernel

def f_X4_isTool (fu : Nat) (M : gz_M) (a0 : Nat) : Option (Int32) :=
  gz_gd M 4 a0 <|
  (gz_gI M 4 1 a0).bind fun x1 =>
  gz_jn (fun (x2 : Int32) =>
  gz_z x2 (some x2)) fun j14 =>
  if x1 < (10 : Int32) then
    j14 (0 : Int32)
  else
    j14 (1 : Int32)

set_option maxHeartbeats 4000000 in
theorem ct_X4_isTool (l : Launch) (G : gz_G) (fu : Nat) (M : gz_M) (a0 : Nat) (y : Int32) (hF : f_X4_isTool fu M a0 = some y) : gz_ct l yX4_isTool cX4_isTool 1 (some .boolean) 0 0 0 0 G [.ref a0] M (some (.int y)) M := by
  refine gz_ct.of (by decide) (Nat.le_of_ble_eq_true rfl) (fun C hC hX => ?_)
  unfold f_X4_isTool at hF
  obtain ⟨-, hF⟩ := gz_gd_some hF
  show gz_go C 0 0 M [(0, .ref a0)] 0 []
  refine gz_aload_n 0 hC 0 dX4_isTool_0 rfl rfl ?_
  refine gz_getI 1 hC fl_X4_15 fk_4_1 dX4_isTool_1 hF (fun x1 hF => ?_)
  refine gz_bipush 4 hC (10 : Int32) dX4_isTool_4 gz_b10 ?_
  refine gz_join (fun (j : Int32 → Option (Int32)) => ∀ (x2 : Int32), j x2 = some y → gz_go C 0 0 M [] 14 [.int x2]) hF (fun x2 hF => ?_) (fun j14 hj14 hF => ?_)
  · skip
    exact gz_zretP 14 hC hX dX4_isTool_14 hF
  refine gz_icmp_lt 6 13 hC dX4_isTool_6 (by decide) hF (fun hF => ?_) (fun hF => ?_)
  · skip
    refine gz_iconst 13 hC (0 : Int32) dX4_isTool_13 gz_k0 ?_
    refine gz_sub [] [] rfl ?_
    exact hj14 _ hF
  · skip
    refine gz_iconst 9 hC (1 : Int32) dX4_isTool_9 gz_k1 ?_
    refine gz_goto 10 14 hC dX4_isTool_10 (by decide) ?_
    refine gz_sub [] [] rfl ?_
    exact hj14 _ hF

theorem dX4_rowRefusal_0 : decode cX4_rowRefusal 0 = .ok (.aload_n 0, 1) := by decide +kernel
theorem dX4_rowRefusal_1 : decode cX4_rowRefusal 1 = .ok (.invokevirtual 34, 3) := by decide +kernel
theorem dX4_rowRefusal_4 : decode cX4_rowRefusal 4 = .ok (.ifCond .eq 6, 3) := by decide +kernel
theorem dX4_rowRefusal_7 : decode cX4_rowRefusal 7 = .ok (.bipush (-3), 2) := by decide +kernel
theorem dX4_rowRefusal_9 : decode cX4_rowRefusal 9 = .ok (.ireturn, 1) := by decide +kernel
theorem dX4_rowRefusal_10 : decode cX4_rowRefusal 10 = .ok (.aload_n 0, 1) := by decide +kernel
theorem dX4_rowRefusal_11 : decode cX4_rowRefusal 11 = .ok (.invokevirtual 38, 3) := by decide +kernel
theorem dX4_rowRefusal_14 : decode cX4_rowRefusal 14 = .ok (.ifCond .eq 8, 3) := by decide +kernel
theorem dX4_rowRefusal_17 : decode cX4_rowRefusal 17 = .ok (.bipush (-4), 2) := by decide +kernel
theorem dX4_rowRefusal_19 : decode cX4_rowRefusal 19 = .ok (.goto 4, 3) := by decide +kernel
theorem dX4_rowRefusal_22 : decode cX4_rowRefusal 22 = .ok (.iconst 0, 1) := by decide +kernel
theorem dX4_rowRefusal_23 : decode cX4_rowRefusal 23 = .ok (.ireturn, 1) := by decide +kernel

def f_X4_rowRefusal (fu : Nat) (M : gz_M) (a0 : Nat) : Option (Int32) :=
  gz_gd M 4 a0 <|
  (f_X4_isTool fu M a0).bind fun x1 =>
  if x1 = 0 then
    (f_X4_isFree fu M a0).bind fun x2 =>
    gz_jn (fun (x3 : Int32) =>
    some x3) fun j23 =>
    if x2 = 0 then
      j23 (0 : Int32)
    else
      j23 (-4 : Int32)
  else
    some (-3 : Int32)

set_option maxHeartbeats 4000000 in
theorem ct_X4_rowRefusal (l : Launch) (G : gz_G) (fu : Nat) (M : gz_M) (a0 : Nat) (y : Int32) (hF : f_X4_rowRefusal fu M a0 = some y) : gz_ct l yX4_rowRefusal cX4_rowRefusal 1 (some .int) 1 20 0 0 G [.ref a0] M (some (.int y)) M := by
  refine gz_ct.of (by decide) (Nat.le_of_ble_eq_true rfl) (fun C hC hX => ?_)
  unfold f_X4_rowRefusal at hF
  obtain ⟨-, hF⟩ := gz_gd_some hF
  show gz_go C 0 0 M [(0, .ref a0)] 0 []
  refine gz_aload_n 0 hC 0 dX4_rowRefusal_0 rfl rfl ?_
  refine gz_cvP (st := []) 1 hC hX [] Value.int yl_X4_isTool yv_X4_isTool q_436 ⟨Nat.le_of_ble_eq_true rfl, Nat.le_of_ble_eq_true rfl⟩ ⟨_, rfl⟩ (fun r h => ct_X4_isTool _ _ fu M a0 r h) rfl rfl (Nat.le_of_ble_eq_true rfl) dX4_rowRefusal_1 gz_00 hF (fun x1 hF => ?_)
  refine gz_if_eq 4 10 hC dX4_rowRefusal_4 (by decide) hF (fun hF => ?_) (fun hF => ?_)
  · skip
    refine gz_aload_n 10 hC 0 dX4_rowRefusal_10 rfl rfl ?_
    refine gz_cvP (st := []) 11 hC hX [] Value.int yl_X4_isFree yv_X4_isFree q_440 ⟨Nat.le_of_ble_eq_true rfl, Nat.le_of_ble_eq_true rfl⟩ ⟨_, rfl⟩ (fun r h => ct_X4_isFree _ _ fu M a0 r h) rfl rfl (Nat.le_of_ble_eq_true rfl) dX4_rowRefusal_11 gz_00 hF (fun x2 hF => ?_)
    refine gz_join (fun (j : Int32 → Option (Int32)) => ∀ (x3 : Int32), j x3 = some y → gz_go C 0 0 M [] 23 [.int x3]) hF (fun x3 hF => ?_) (fun j23 hj23 hF => ?_)
    · skip
      exact gz_iretP 23 hC hX dX4_rowRefusal_23 hF
    refine gz_if_eq 14 22 hC dX4_rowRefusal_14 (by decide) hF (fun hF => ?_) (fun hF => ?_)
    · skip
      refine gz_iconst 22 hC (0 : Int32) dX4_rowRefusal_22 gz_k0 ?_
      refine gz_sub [] [] rfl ?_
      exact hj23 _ hF
    · skip
      refine gz_bipush 17 hC (-4 : Int32) dX4_rowRefusal_17 gz_bm4 ?_
      refine gz_goto 19 23 hC dX4_rowRefusal_19 (by decide) ?_
      refine gz_sub [] [] rfl ?_
      exact hj23 _ hF
  · skip
    refine gz_bipush 7 hC (-3 : Int32) dX4_rowRefusal_7 gz_bm3 ?_
    exact gz_iretP 9 hC hX dX4_rowRefusal_9 hF

theorem dX4_toolRefusal_0 : decode cX4_toolRefusal 0 = .ok (.aload_n 0, 1) := by decide +kernel
theorem dX4_toolRefusal_1 : decode cX4_toolRefusal 1 = .ok (.invokevirtual 41, 3) := by decide +kernel
theorem dX4_toolRefusal_4 : decode cX4_toolRefusal 4 = .ok (.ifCond .eq 6, 3) := by decide +kernel
theorem dX4_toolRefusal_7 : decode cX4_toolRefusal 7 = .ok (.bipush (-3), 2) := by decide +kernel
theorem dX4_toolRefusal_9 : decode cX4_toolRefusal 9 = .ok (.ireturn, 1) := by decide +kernel
theorem dX4_toolRefusal_10 : decode cX4_toolRefusal 10 = .ok (.aload_n 0, 1) := by decide +kernel
theorem dX4_toolRefusal_11 : decode cX4_toolRefusal 11 = .ok (.invokevirtual 38, 3) := by decide +kernel
theorem dX4_toolRefusal_14 : decode cX4_toolRefusal 14 = .ok (.ifCond .eq 6, 3) := by decide +kernel
theorem dX4_toolRefusal_17 : decode cX4_toolRefusal 17 = .ok (.bipush (-4), 2) := by decide +kernel
theorem dX4_toolRefusal_19 : decode cX4_toolRefusal 19 = .ok (.ireturn, 1) := by decide +kernel
theorem dX4_toolRefusal_20 : decode cX4_toolRefusal 20 = .ok (.aload_n 0, 1) := by decide +kernel
theorem dX4_toolRefusal_21 : decode cX4_toolRefusal 21 = .ok (.getfield 22, 3) := by decide +kernel
theorem dX4_toolRefusal_24 : decode cX4_toolRefusal 24 = .ok (.aload_n 1, 1) := by decide +kernel
theorem dX4_toolRefusal_25 : decode cX4_toolRefusal 25 = .ok (.getfield 44, 3) := by decide +kernel
theorem dX4_toolRefusal_28 : decode cX4_toolRefusal 28 = .ok (.if_icmp .ge 7, 3) := by decide +kernel
theorem dX4_toolRefusal_31 : decode cX4_toolRefusal 31 = .ok (.iconst 0, 1) := by decide +kernel
theorem dX4_toolRefusal_32 : decode cX4_toolRefusal 32 = .ok (.goto 5, 3) := by decide +kernel
theorem dX4_toolRefusal_35 : decode cX4_toolRefusal 35 = .ok (.bipush (-5), 2) := by decide +kernel
theorem dX4_toolRefusal_37 : decode cX4_toolRefusal 37 = .ok (.ireturn, 1) := by decide +kernel

def f_X4_toolRefusal (fu : Nat) (M : gz_M) (a0 : Nat) (a1 : Nat) : Option (Int32) :=
  gz_gd M 4 a0 <|
  (f_X4_isRow fu M a0).bind fun x1 =>
  if x1 = 0 then
    (f_X4_isFree fu M a0).bind fun x2 =>
    if x2 = 0 then
      (gz_gI M 4 3 a0).bind fun x3 =>
      (gz_gI M 7 5 a1).bind fun x4 =>
      gz_jn (fun (x5 : Int32) =>
      some x5) fun j37 =>
      if x4 ≤ x3 then
        j37 (-5 : Int32)
      else
        j37 (0 : Int32)
    else
      some (-4 : Int32)
  else
    some (-3 : Int32)

set_option maxHeartbeats 4000000 in
theorem ct_X4_toolRefusal (l : Launch) (G : gz_G) (fu : Nat) (M : gz_M) (a0 : Nat) (a1 : Nat) (y : Int32) (hF : f_X4_toolRefusal fu M a0 a1 = some y) : gz_ct l yX4_toolRefusal cX4_toolRefusal 2 (some .int) 1 20 0 0 G [.ref a0, .ref a1] M (some (.int y)) M := by
  refine gz_ct.of (by decide) (Nat.le_of_ble_eq_true rfl) (fun C hC hX => ?_)
  unfold f_X4_toolRefusal at hF
  obtain ⟨-, hF⟩ := gz_gd_some hF
  show gz_go C 0 0 M [(0, .ref a0), (1, .ref a1)] 0 []
  refine gz_aload_n 0 hC 0 dX4_toolRefusal_0 rfl rfl ?_
  refine gz_cvP (st := []) 1 hC hX [] Value.int yl_X4_isRow yv_X4_isRow q_476 ⟨Nat.le_of_ble_eq_true rfl, Nat.le_of_ble_eq_true rfl⟩ ⟨_, rfl⟩ (fun r h => ct_X4_isRow _ _ fu M a0 r h) rfl rfl (Nat.le_of_ble_eq_true rfl) dX4_toolRefusal_1 gz_00 hF (fun x1 hF => ?_)
  refine gz_if_eq 4 10 hC dX4_toolRefusal_4 (by decide) hF (fun hF => ?_) (fun hF => ?_)
  · skip
    refine gz_aload_n 10 hC 0 dX4_toolRefusal_10 rfl rfl ?_
    refine gz_cvP (st := []) 11 hC hX [] Value.int yl_X4_isFree yv_X4_isFree q_440 ⟨Nat.le_of_ble_eq_true rfl, Nat.le_of_ble_eq_true rfl⟩ ⟨_, rfl⟩ (fun r h => ct_X4_isFree _ _ fu M a0 r h) rfl rfl (Nat.le_of_ble_eq_true rfl) dX4_toolRefusal_11 gz_00 hF (fun x2 hF => ?_)
    refine gz_if_eq 14 20 hC dX4_toolRefusal_14 (by decide) hF (fun hF => ?_) (fun hF => ?_)
    · skip
      refine gz_aload_n 20 hC 0 dX4_toolRefusal_20 rfl rfl ?_
      refine gz_getI 21 hC fl_X4_22 fk_4_3 dX4_toolRefusal_21 hF (fun x3 hF => ?_)
      refine gz_aload_n 24 hC 1 dX4_toolRefusal_24 rfl rfl ?_
      refine gz_getI 25 hC fl_X4_44 fk_7_5 dX4_toolRefusal_25 hF (fun x4 hF => ?_)
      refine gz_join (fun (j : Int32 → Option (Int32)) => ∀ (x5 : Int32), j x5 = some y → gz_go C 0 0 M [] 37 [.int x5]) hF (fun x5 hF => ?_) (fun j37 hj37 hF => ?_)
      · skip
        exact gz_iretP 37 hC hX dX4_toolRefusal_37 hF
      refine gz_icmp_ge 28 35 hC dX4_toolRefusal_28 (by decide) hF (fun hF => ?_) (fun hF => ?_)
      · skip
        refine gz_bipush 35 hC (-5 : Int32) dX4_toolRefusal_35 gz_bm5 ?_
        refine gz_sub [] [] rfl ?_
        exact hj37 _ hF
      · skip
        refine gz_iconst 31 hC (0 : Int32) dX4_toolRefusal_31 gz_k0 ?_
        refine gz_goto 32 37 hC dX4_toolRefusal_32 (by decide) ?_
        refine gz_sub [] [] rfl ?_
        exact hj37 _ hF
    · skip
      refine gz_bipush 17 hC (-4 : Int32) dX4_toolRefusal_17 gz_bm4 ?_
      exact gz_iretP 19 hC hX dX4_toolRefusal_19 hF
  · skip
    refine gz_bipush 7 hC (-3 : Int32) dX4_toolRefusal_7 gz_bm3 ?_
    exact gz_iretP 9 hC hX dX4_toolRefusal_9 hF

theorem dX4_hasSpan_0 : decode cX4_hasSpan 0 = .ok (.iload_n 1, 1) := by decide +kernel
theorem dX4_hasSpan_1 : decode cX4_hasSpan 1 = .ok (.ifCond .lt 29, 3) := by decide +kernel
theorem dX4_hasSpan_4 : decode cX4_hasSpan 4 = .ok (.iload_n 1, 1) := by decide +kernel
theorem dX4_hasSpan_5 : decode cX4_hasSpan 5 = .ok (.aload_n 0, 1) := by decide +kernel
theorem dX4_hasSpan_6 : decode cX4_hasSpan 6 = .ok (.getfield 19, 3) := by decide +kernel
theorem dX4_hasSpan_9 : decode cX4_hasSpan 9 = .ok (.if_icmp .gt 21, 3) := by decide +kernel
theorem dX4_hasSpan_12 : decode cX4_hasSpan 12 = .ok (.iload_n 2, 1) := by decide +kernel
theorem dX4_hasSpan_13 : decode cX4_hasSpan 13 = .ok (.ifCond .lt 17, 3) := by decide +kernel
theorem dX4_hasSpan_16 : decode cX4_hasSpan 16 = .ok (.iload_n 2, 1) := by decide +kernel
theorem dX4_hasSpan_17 : decode cX4_hasSpan 17 = .ok (.aload_n 0, 1) := by decide +kernel
theorem dX4_hasSpan_18 : decode cX4_hasSpan 18 = .ok (.getfield 19, 3) := by decide +kernel
theorem dX4_hasSpan_21 : decode cX4_hasSpan 21 = .ok (.iload_n 1, 1) := by decide +kernel
theorem dX4_hasSpan_22 : decode cX4_hasSpan 22 = .ok (.isub, 1) := by decide +kernel
theorem dX4_hasSpan_23 : decode cX4_hasSpan 23 = .ok (.if_icmp .gt 7, 3) := by decide +kernel
theorem dX4_hasSpan_26 : decode cX4_hasSpan 26 = .ok (.iconst 1, 1) := by decide +kernel
theorem dX4_hasSpan_27 : decode cX4_hasSpan 27 = .ok (.goto 4, 3) := by decide +kernel
theorem dX4_hasSpan_30 : decode cX4_hasSpan 30 = .ok (.iconst 0, 1) := by decide +kernel
theorem dX4_hasSpan_31 : decode cX4_hasSpan 31 = .ok (.ireturn, 1) := by decide +kernel

def f_X4_hasSpan (fu : Nat) (M : gz_M) (a0 : Nat) (a1 : Int32) (a2 : Int32) : Option (Int32) :=
  gz_gd M 4 a0 <|
  gz_jn (fun (x3 : Int32) =>
  gz_z x3 (some x3)) fun j31 =>
  gz_jn (j31 (0 : Int32)) fun j30 =>
  if a1 < 0 then
    j30
  else
    (gz_gI M 4 2 a0).bind fun x1 =>
    if x1 < a1 then
      j30
    else
      if a2 < 0 then
        j30
      else
        (gz_gI M 4 2 a0).bind fun x2 =>
        if (x2 - a1) < a2 then
          j30
        else
          j31 (1 : Int32)

set_option maxHeartbeats 4000000 in
theorem ct_X4_hasSpan (l : Launch) (G : gz_G) (fu : Nat) (M : gz_M) (a0 : Nat) (a1 : Int32) (a2 : Int32) (y : Int32) (hF : f_X4_hasSpan fu M a0 a1 a2 = some y) : gz_ct l yX4_hasSpan cX4_hasSpan 3 (some .boolean) 0 0 0 0 G [.ref a0, .int a1, .int a2] M (some (.int y)) M := by
  refine gz_ct.of (by decide) (Nat.le_of_ble_eq_true rfl) (fun C hC hX => ?_)
  unfold f_X4_hasSpan at hF
  obtain ⟨-, hF⟩ := gz_gd_some hF
  show gz_go C 0 0 M [(0, .ref a0), (1, .int a1), (2, .int a2)] 0 []
  refine gz_iload_n 0 hC 1 dX4_hasSpan_0 rfl rfl ?_
  refine gz_join (fun (j : Int32 → Option (Int32)) => ∀ (x3 : Int32), j x3 = some y → gz_go C 0 0 M [] 31 [.int x3]) hF (fun x3 hF => ?_) (fun j31 hj31 hF => ?_)
  · skip
    exact gz_zretP 31 hC hX dX4_hasSpan_31 hF
  refine gz_join (fun (j : Option (Int32)) => j = some y → gz_go C 0 0 M [] 30 []) hF (fun hF => ?_) (fun j30 hj30 hF => ?_)
  · skip
    refine gz_iconst 30 hC (0 : Int32) dX4_hasSpan_30 gz_k0 ?_
    exact hj31 _ hF
  refine gz_if_lt 1 30 hC dX4_hasSpan_1 (by decide) hF (fun hF => ?_) (fun hF => ?_)
  · skip
    refine gz_sub [] [] rfl ?_
    exact hj30 hF
  · skip
    refine gz_iload_n 4 hC 1 dX4_hasSpan_4 rfl rfl ?_
    refine gz_aload_n 5 hC 0 dX4_hasSpan_5 rfl rfl ?_
    refine gz_getI 6 hC fl_X4_19 fk_4_2 dX4_hasSpan_6 hF (fun x1 hF => ?_)
    refine gz_icmp_gt 9 30 hC dX4_hasSpan_9 (by decide) hF (fun hF => ?_) (fun hF => ?_)
    · skip
      refine gz_sub [] [] rfl ?_
      exact hj30 hF
    · skip
      refine gz_iload_n 12 hC 2 dX4_hasSpan_12 rfl rfl ?_
      refine gz_if_lt 13 30 hC dX4_hasSpan_13 (by decide) hF (fun hF => ?_) (fun hF => ?_)
      · skip
        refine gz_sub [] [] rfl ?_
        exact hj30 hF
      · skip
        refine gz_iload_n 16 hC 2 dX4_hasSpan_16 rfl rfl ?_
        refine gz_aload_n 17 hC 0 dX4_hasSpan_17 rfl rfl ?_
        refine gz_getI 18 hC fl_X4_19 fk_4_2 dX4_hasSpan_18 hF (fun x2 hF => ?_)
        refine gz_iload_n 21 hC 1 dX4_hasSpan_21 rfl rfl ?_
        refine gz_isub 22 hC dX4_hasSpan_22 ?_
        refine gz_icmp_gt 23 30 hC dX4_hasSpan_23 (by decide) hF (fun hF => ?_) (fun hF => ?_)
        · skip
          refine gz_sub [] [] rfl ?_
          exact hj30 hF
        · skip
          refine gz_iconst 26 hC (1 : Int32) dX4_hasSpan_26 gz_k1 ?_
          refine gz_goto 27 31 hC dX4_hasSpan_27 (by decide) ?_
          refine gz_sub [] [] rfl ?_
          exact hj31 _ hF

theorem dX4_elementOrZero_0 : decode cX4_elementOrZero 0 = .ok (.aload_n 0, 1) := by decide +kernel
theorem dX4_elementOrZero_1 : decode cX4_elementOrZero 1 = .ok (.invokevirtual 41, 3) := by decide +kernel
theorem dX4_elementOrZero_4 : decode cX4_elementOrZero 4 = .ok (.ifCond .eq 24, 3) := by decide +kernel
theorem dX4_elementOrZero_7 : decode cX4_elementOrZero 7 = .ok (.iload_n 1, 1) := by decide +kernel
theorem dX4_elementOrZero_8 : decode cX4_elementOrZero 8 = .ok (.ifCond .lt 20, 3) := by decide +kernel
theorem dX4_elementOrZero_11 : decode cX4_elementOrZero 11 = .ok (.iload_n 1, 1) := by decide +kernel
theorem dX4_elementOrZero_12 : decode cX4_elementOrZero 12 = .ok (.aload_n 0, 1) := by decide +kernel
theorem dX4_elementOrZero_13 : decode cX4_elementOrZero 13 = .ok (.getfield 19, 3) := by decide +kernel
theorem dX4_elementOrZero_16 : decode cX4_elementOrZero 16 = .ok (.if_icmp .ge 12, 3) := by decide +kernel
theorem dX4_elementOrZero_19 : decode cX4_elementOrZero 19 = .ok (.aload_n 0, 1) := by decide +kernel
theorem dX4_elementOrZero_20 : decode cX4_elementOrZero 20 = .ok (.getfield 9, 3) := by decide +kernel
theorem dX4_elementOrZero_23 : decode cX4_elementOrZero 23 = .ok (.iload_n 1, 1) := by decide +kernel
theorem dX4_elementOrZero_24 : decode cX4_elementOrZero 24 = .ok (.laload, 1) := by decide +kernel
theorem dX4_elementOrZero_25 : decode cX4_elementOrZero 25 = .ok (.goto 4, 3) := by decide +kernel
theorem dX4_elementOrZero_28 : decode cX4_elementOrZero 28 = .ok (.lconst 0, 1) := by decide +kernel
theorem dX4_elementOrZero_29 : decode cX4_elementOrZero 29 = .ok (.lreturn, 1) := by decide +kernel

def f_X4_elementOrZero (fu : Nat) (M : gz_M) (a0 : Nat) (a1 : Int32) : Option (Int64) :=
  gz_gd M 4 a0 <|
  (f_X4_isRow fu M a0).bind fun x1 =>
  gz_jn (fun (x5 : Int64) =>
  some x5) fun j29 =>
  gz_jn (j29 (0 : Int64)) fun j28 =>
  if x1 = 0 then
    j28
  else
    if a1 < 0 then
      j28
    else
      (gz_gI M 4 2 a0).bind fun x2 =>
      if x2 ≤ a1 then
        j28
      else
        (gz_gR M 4 0 a0).bind fun x3 =>
        (gz_aL M x3 a1).bind fun x4 =>
        j29 x4

set_option maxHeartbeats 4000000 in
theorem ct_X4_elementOrZero (l : Launch) (G : gz_G) (fu : Nat) (M : gz_M) (a0 : Nat) (a1 : Int32) (y : Int64) (hF : f_X4_elementOrZero fu M a0 a1 = some y) : gz_ct l yX4_elementOrZero cX4_elementOrZero 2 (some .long) 1 20 0 0 G [.ref a0, .int a1] M (some (.long y)) M := by
  refine gz_ct.of (by decide) (Nat.le_of_ble_eq_true rfl) (fun C hC hX => ?_)
  unfold f_X4_elementOrZero at hF
  obtain ⟨-, hF⟩ := gz_gd_some hF
  show gz_go C 0 0 M [(0, .ref a0), (1, .int a1)] 0 []
  refine gz_aload_n 0 hC 0 dX4_elementOrZero_0 rfl rfl ?_
  refine gz_cvP (st := []) 1 hC hX [] Value.int yl_X4_isRow yv_X4_isRow q_476 ⟨Nat.le_of_ble_eq_true rfl, Nat.le_of_ble_eq_true rfl⟩ ⟨_, rfl⟩ (fun r h => ct_X4_isRow _ _ fu M a0 r h) rfl rfl (Nat.le_of_ble_eq_true rfl) dX4_elementOrZero_1 gz_00 hF (fun x1 hF => ?_)
  refine gz_join (fun (j : Int64 → Option (Int64)) => ∀ (x5 : Int64), j x5 = some y → gz_go C 0 0 M [] 29 [.long x5]) hF (fun x5 hF => ?_) (fun j29 hj29 hF => ?_)
  · skip
    exact gz_lretP 29 hC hX dX4_elementOrZero_29 hF
  refine gz_join (fun (j : Option (Int64)) => j = some y → gz_go C 0 0 M [] 28 []) hF (fun hF => ?_) (fun j28 hj28 hF => ?_)
  · skip
    refine gz_lconst 28 hC (0 : Int64) dX4_elementOrZero_28 gz_l0 ?_
    exact hj29 _ hF
  refine gz_if_eq 4 28 hC dX4_elementOrZero_4 (by decide) hF (fun hF => ?_) (fun hF => ?_)
  · skip
    refine gz_sub [] [] rfl ?_
    exact hj28 hF
  · skip
    refine gz_iload_n 7 hC 1 dX4_elementOrZero_7 rfl rfl ?_
    refine gz_if_lt 8 28 hC dX4_elementOrZero_8 (by decide) hF (fun hF => ?_) (fun hF => ?_)
    · skip
      refine gz_sub [] [] rfl ?_
      exact hj28 hF
    · skip
      refine gz_iload_n 11 hC 1 dX4_elementOrZero_11 rfl rfl ?_
      refine gz_aload_n 12 hC 0 dX4_elementOrZero_12 rfl rfl ?_
      refine gz_getI 13 hC fl_X4_19 fk_4_2 dX4_elementOrZero_13 hF (fun x2 hF => ?_)
      refine gz_icmp_ge 16 28 hC dX4_elementOrZero_16 (by decide) hF (fun hF => ?_) (fun hF => ?_)
      · skip
        refine gz_sub [] [] rfl ?_
        exact hj28 hF
      · skip
        refine gz_aload_n 19 hC 0 dX4_elementOrZero_19 rfl rfl ?_
        refine gz_getR 20 hC fl_X4_9 fk_4_0 dX4_elementOrZero_20 hF (fun x3 hF => ?_)
        refine gz_iload_n 23 hC 1 dX4_elementOrZero_23 rfl rfl ?_
        refine gz_lald 24 hC dX4_elementOrZero_24 hF (fun x4 hF => ?_)
        refine gz_goto 25 29 hC dX4_elementOrZero_25 (by decide) ?_
        refine gz_sub [] [] rfl ?_
        exact hj29 _ hF

theorem dX4_put_0 : decode cX4_put 0 = .ok (.aload_n 0, 1) := by decide +kernel
theorem dX4_put_1 : decode cX4_put 1 = .ok (.getfield 15, 3) := by decide +kernel
theorem dX4_put_4 : decode cX4_put 4 = .ok (.tableswitch 80 0 3 #[32, 45, 58, 70], 32) := by decide +kernel
theorem dX4_put_36 : decode cX4_put 36 = .ok (.aload_n 0, 1) := by decide +kernel
theorem dX4_put_37 : decode cX4_put 37 = .ok (.getfield 9, 3) := by decide +kernel
theorem dX4_put_40 : decode cX4_put 40 = .ok (.iload_n 1, 1) := by decide +kernel
theorem dX4_put_41 : decode cX4_put 41 = .ok (.lload_n 2, 1) := by decide +kernel
theorem dX4_put_42 : decode cX4_put 42 = .ok (.l2i, 1) := by decide +kernel
theorem dX4_put_43 : decode cX4_put 43 = .ok (.i2b, 1) := by decide +kernel
theorem dX4_put_44 : decode cX4_put 44 = .ok (.i2l, 1) := by decide +kernel
theorem dX4_put_45 : decode cX4_put 45 = .ok (.lastore, 1) := by decide +kernel
theorem dX4_put_46 : decode cX4_put 46 = .ok (.goto 55, 3) := by decide +kernel
theorem dX4_put_49 : decode cX4_put 49 = .ok (.aload_n 0, 1) := by decide +kernel
theorem dX4_put_50 : decode cX4_put 50 = .ok (.getfield 9, 3) := by decide +kernel
theorem dX4_put_53 : decode cX4_put 53 = .ok (.iload_n 1, 1) := by decide +kernel
theorem dX4_put_54 : decode cX4_put 54 = .ok (.lload_n 2, 1) := by decide +kernel
theorem dX4_put_55 : decode cX4_put 55 = .ok (.l2i, 1) := by decide +kernel
theorem dX4_put_56 : decode cX4_put 56 = .ok (.i2s, 1) := by decide +kernel
theorem dX4_put_57 : decode cX4_put 57 = .ok (.i2l, 1) := by decide +kernel
theorem dX4_put_58 : decode cX4_put 58 = .ok (.lastore, 1) := by decide +kernel
theorem dX4_put_59 : decode cX4_put 59 = .ok (.goto 42, 3) := by decide +kernel
theorem dX4_put_62 : decode cX4_put 62 = .ok (.aload_n 0, 1) := by decide +kernel
theorem dX4_put_63 : decode cX4_put 63 = .ok (.getfield 9, 3) := by decide +kernel
theorem dX4_put_66 : decode cX4_put 66 = .ok (.iload_n 1, 1) := by decide +kernel
theorem dX4_put_67 : decode cX4_put 67 = .ok (.lload_n 2, 1) := by decide +kernel
theorem dX4_put_68 : decode cX4_put 68 = .ok (.l2i, 1) := by decide +kernel
theorem dX4_put_69 : decode cX4_put 69 = .ok (.i2l, 1) := by decide +kernel
theorem dX4_put_70 : decode cX4_put 70 = .ok (.lastore, 1) := by decide +kernel
theorem dX4_put_71 : decode cX4_put 71 = .ok (.goto 30, 3) := by decide +kernel
theorem dX4_put_74 : decode cX4_put 74 = .ok (.aload_n 0, 1) := by decide +kernel
theorem dX4_put_75 : decode cX4_put 75 = .ok (.getfield 9, 3) := by decide +kernel
theorem dX4_put_78 : decode cX4_put 78 = .ok (.iload_n 1, 1) := by decide +kernel
theorem dX4_put_79 : decode cX4_put 79 = .ok (.lload_n 2, 1) := by decide +kernel
theorem dX4_put_80 : decode cX4_put 80 = .ok (.lastore, 1) := by decide +kernel
theorem dX4_put_81 : decode cX4_put 81 = .ok (.goto 20, 3) := by decide +kernel
theorem dX4_put_84 : decode cX4_put 84 = .ok (.aload_n 0, 1) := by decide +kernel
theorem dX4_put_85 : decode cX4_put 85 = .ok (.getfield 9, 3) := by decide +kernel
theorem dX4_put_88 : decode cX4_put 88 = .ok (.iload_n 1, 1) := by decide +kernel
theorem dX4_put_89 : decode cX4_put 89 = .ok (.lload_n 2, 1) := by decide +kernel
theorem dX4_put_90 : decode cX4_put 90 = .ok (.lconst 0, 1) := by decide +kernel
theorem dX4_put_91 : decode cX4_put 91 = .ok (.lcmp, 1) := by decide +kernel
theorem dX4_put_92 : decode cX4_put 92 = .ok (.ifCond .eq 7, 3) := by decide +kernel
theorem dX4_put_95 : decode cX4_put 95 = .ok (.lconst 1, 1) := by decide +kernel
theorem dX4_put_96 : decode cX4_put 96 = .ok (.goto 4, 3) := by decide +kernel
theorem dX4_put_99 : decode cX4_put 99 = .ok (.lconst 0, 1) := by decide +kernel
theorem dX4_put_100 : decode cX4_put 100 = .ok (.lastore, 1) := by decide +kernel
theorem dX4_put_101 : decode cX4_put 101 = .ok (.return_, 1) := by decide +kernel

def f_X4_put (fu : Nat) (M : gz_M) (a0 : Nat) (a1 : Int32) (a2 : Int64) : Option (gz_M) :=
  gz_gd M 4 a0 <|
  (gz_gI M 4 1 a0).bind fun x1 =>
  gz_jn (fun (M13 : gz_M) =>
  some M13) fun j101 =>
  if x1 = (0 : Int32) then (gz_gR M 4 0 a0).bind fun x11 =>
    (gz_tL M x11 a1 (((a2).toInt32).toInt8.toInt32).toInt64).bind fun M12 =>
    j101 M12 else if x1 = (1 : Int32) then (gz_gR M 4 0 a0).bind fun x9 =>
    (gz_tL M x9 a1 (((a2).toInt32).toInt16.toInt32).toInt64).bind fun M10 =>
    j101 M10 else if x1 = (2 : Int32) then (gz_gR M 4 0 a0).bind fun x7 =>
    (gz_tL M x7 a1 ((a2).toInt32).toInt64).bind fun M8 =>
    j101 M8 else if x1 = (3 : Int32) then (gz_gR M 4 0 a0).bind fun x5 =>
    (gz_tL M x5 a1 a2).bind fun M6 =>
    j101 M6 else (gz_gR M 4 0 a0).bind fun x2 =>
  gz_jn (fun (x3 : Int64) =>
  (gz_tL M x2 a1 x3).bind fun M4 =>
    j101 M4) fun j100 =>
  if (lg_cmp a2 (0 : Int64)) = 0 then
    j100 (0 : Int64)
  else
    j100 (1 : Int64)

set_option maxHeartbeats 4000000 in
theorem ct_X4_put (l : Launch) (G : gz_G) (fu : Nat) (M : gz_M) (a0 : Nat) (a1 : Int32) (a2 : Int64) (y : gz_M) (hF : f_X4_put fu M a0 a1 a2 = some y) : gz_ct l yX4_put cX4_put 4 none 0 0 0 0 G [.ref a0, .int a1, .long a2] M none y := by
  refine gz_ct.of (by decide) (Nat.le_of_ble_eq_true rfl) (fun C hC hX => ?_)
  unfold f_X4_put at hF
  obtain ⟨-, hF⟩ := gz_gd_some hF
  show gz_go C 0 0 M [(0, .ref a0), (1, .int a1), (2, .long a2)] 0 []
  refine gz_aload_n 0 hC 0 dX4_put_0 rfl rfl ?_
  refine gz_getI 1 hC fl_X4_15 fk_4_1 dX4_put_1 hF (fun x1 hF => ?_)
  refine gz_join (fun (j : gz_M → Option (gz_M)) => ∀ (M13 : gz_M), j M13 = some y → gz_go C 0 0 M13 [] 101 []) hF (fun M13 hF => ?_) (fun j101 hj101 hF => ?_)
  · skip
    exact gz_vretM 101 hC hX dX4_put_101 hF
  refine gz_cse hF (fun e0 hF => ?_) (fun e0 hF => ?_)
  · skip
    refine gz_tin 4 36 hC (off := 32) dX4_put_4 e0 (by decide) (by decide) (by decide) ?_
    refine gz_aload_n 36 hC 0 dX4_put_36 rfl rfl ?_
    refine gz_getR 37 hC fl_X4_9 fk_4_0 dX4_put_37 hF (fun x11 hF => ?_)
    refine gz_iload_n 40 hC 1 dX4_put_40 rfl rfl ?_
    refine gz_lload_n 41 hC 2 dX4_put_41 rfl rfl ?_
    refine gz_l2i 42 hC dX4_put_42 ?_
    refine gz_i2b 43 hC dX4_put_43 ?_
    refine gz_i2l 44 hC dX4_put_44 ?_
    refine gz_last 45 hC dX4_put_45 hF (fun M12 hF => ?_)
    refine gz_goto 46 101 hC dX4_put_46 (by decide) ?_
    refine gz_sub [] [] rfl ?_
    exact hj101 _ hF
  refine gz_cse hF (fun e1 hF => ?_) (fun e1 hF => ?_)
  · skip
    refine gz_tin 4 49 hC (off := 45) dX4_put_4 e1 (by decide) (by decide) (by decide) ?_
    refine gz_aload_n 49 hC 0 dX4_put_49 rfl rfl ?_
    refine gz_getR 50 hC fl_X4_9 fk_4_0 dX4_put_50 hF (fun x9 hF => ?_)
    refine gz_iload_n 53 hC 1 dX4_put_53 rfl rfl ?_
    refine gz_lload_n 54 hC 2 dX4_put_54 rfl rfl ?_
    refine gz_l2i 55 hC dX4_put_55 ?_
    refine gz_i2s 56 hC dX4_put_56 ?_
    refine gz_i2l 57 hC dX4_put_57 ?_
    refine gz_last 58 hC dX4_put_58 hF (fun M10 hF => ?_)
    refine gz_goto 59 101 hC dX4_put_59 (by decide) ?_
    refine gz_sub [] [] rfl ?_
    exact hj101 _ hF
  refine gz_cse hF (fun e2 hF => ?_) (fun e2 hF => ?_)
  · skip
    refine gz_tin 4 62 hC (off := 58) dX4_put_4 e2 (by decide) (by decide) (by decide) ?_
    refine gz_aload_n 62 hC 0 dX4_put_62 rfl rfl ?_
    refine gz_getR 63 hC fl_X4_9 fk_4_0 dX4_put_63 hF (fun x7 hF => ?_)
    refine gz_iload_n 66 hC 1 dX4_put_66 rfl rfl ?_
    refine gz_lload_n 67 hC 2 dX4_put_67 rfl rfl ?_
    refine gz_l2i 68 hC dX4_put_68 ?_
    refine gz_i2l 69 hC dX4_put_69 ?_
    refine gz_last 70 hC dX4_put_70 hF (fun M8 hF => ?_)
    refine gz_goto 71 101 hC dX4_put_71 (by decide) ?_
    refine gz_sub [] [] rfl ?_
    exact hj101 _ hF
  refine gz_cse hF (fun e3 hF => ?_) (fun e3 hF => ?_)
  · skip
    refine gz_tin 4 74 hC (off := 70) dX4_put_4 e3 (by decide) (by decide) (by decide) ?_
    refine gz_aload_n 74 hC 0 dX4_put_74 rfl rfl ?_
    refine gz_getR 75 hC fl_X4_9 fk_4_0 dX4_put_75 hF (fun x5 hF => ?_)
    refine gz_iload_n 78 hC 1 dX4_put_78 rfl rfl ?_
    refine gz_lload_n 79 hC 2 dX4_put_79 rfl rfl ?_
    refine gz_last 80 hC dX4_put_80 hF (fun M6 hF => ?_)
    refine gz_goto 81 101 hC dX4_put_81 (by decide) ?_
    refine gz_sub [] [] rfl ?_
    exact hj101 _ hF
  refine gz_tout 4 84 hC dX4_put_4 (by have h0 := lv_neT (a := 0) e0 (by decide); have h1 := lv_neT (a := 1) e1 (by decide); have h2 := lv_neT (a := 2) e2 (by decide); have h3 := lv_neT (a := 3) e3 (by decide); omega) (by decide) ?_
  refine gz_aload_n 84 hC 0 dX4_put_84 rfl rfl ?_
  refine gz_getR 85 hC fl_X4_9 fk_4_0 dX4_put_85 hF (fun x2 hF => ?_)
  refine gz_iload_n 88 hC 1 dX4_put_88 rfl rfl ?_
  refine gz_lload_n 89 hC 2 dX4_put_89 rfl rfl ?_
  refine gz_lconst 90 hC (0 : Int64) dX4_put_90 gz_l0 ?_
  refine gz_lcmp 91 hC dX4_put_91 ?_
  refine gz_join (fun (j : Int64 → Option (gz_M)) => ∀ (x3 : Int64), j x3 = some y → gz_go C 0 0 M [] 100 [.long x3, .int a1, .ref x2]) hF (fun x3 hF => ?_) (fun j100 hj100 hF => ?_)
  · skip
    refine gz_last 100 hC dX4_put_100 hF (fun M4 hF => ?_)
    exact hj101 _ hF
  refine gz_if_eq 92 99 hC dX4_put_92 (by decide) hF (fun hF => ?_) (fun hF => ?_)
  · skip
    refine gz_lconst 99 hC (0 : Int64) dX4_put_99 gz_l0 ?_
    refine gz_sub [] [] rfl ?_
    exact hj100 _ hF
  · skip
    refine gz_lconst 95 hC (1 : Int64) dX4_put_95 gz_l1 ?_
    refine gz_goto 96 100 hC dX4_put_96 (by decide) ?_
    refine gz_sub [] [] rfl ?_
    exact hj100 _ hF

theorem dX4_hasFootAt_0 : decode cX4_hasFootAt 0 = .ok (.iconst 0, 1) := by decide +kernel
theorem dX4_hasFootAt_1 : decode cX4_hasFootAt 1 = .ok (.istore_n 2, 1) := by decide +kernel
theorem dX4_hasFootAt_2 : decode cX4_hasFootAt 2 = .ok (.iload_n 2, 1) := by decide +kernel
theorem dX4_hasFootAt_3 : decode cX4_hasFootAt 3 = .ok (.iconst 3, 1) := by decide +kernel
theorem dX4_hasFootAt_4 : decode cX4_hasFootAt 4 = .ok (.if_icmp .ge 39, 3) := by decide +kernel
theorem dX4_hasFootAt_7 : decode cX4_hasFootAt 7 = .ok (.aload_n 0, 1) := by decide +kernel
theorem dX4_hasFootAt_8 : decode cX4_hasFootAt 8 = .ok (.getfield 9, 3) := by decide +kernel
theorem dX4_hasFootAt_11 : decode cX4_hasFootAt 11 = .ok (.iload_n 1, 1) := by decide +kernel
theorem dX4_hasFootAt_12 : decode cX4_hasFootAt 12 = .ok (.iload_n 2, 1) := by decide +kernel
theorem dX4_hasFootAt_13 : decode cX4_hasFootAt 13 = .ok (.iadd, 1) := by decide +kernel
theorem dX4_hasFootAt_14 : decode cX4_hasFootAt 14 = .ok (.laload, 1) := by decide +kernel
theorem dX4_hasFootAt_15 : decode cX4_hasFootAt 15 = .ok (.lconst 0, 1) := by decide +kernel
theorem dX4_hasFootAt_16 : decode cX4_hasFootAt 16 = .ok (.lcmp, 1) := by decide +kernel
theorem dX4_hasFootAt_17 : decode cX4_hasFootAt 17 = .ok (.ifCond .lt 18, 3) := by decide +kernel
theorem dX4_hasFootAt_20 : decode cX4_hasFootAt 20 = .ok (.aload_n 0, 1) := by decide +kernel
theorem dX4_hasFootAt_21 : decode cX4_hasFootAt 21 = .ok (.getfield 9, 3) := by decide +kernel
theorem dX4_hasFootAt_24 : decode cX4_hasFootAt 24 = .ok (.iload_n 1, 1) := by decide +kernel
theorem dX4_hasFootAt_25 : decode cX4_hasFootAt 25 = .ok (.iload_n 2, 1) := by decide +kernel
theorem dX4_hasFootAt_26 : decode cX4_hasFootAt 26 = .ok (.iadd, 1) := by decide +kernel
theorem dX4_hasFootAt_27 : decode cX4_hasFootAt 27 = .ok (.laload, 1) := by decide +kernel
theorem dX4_hasFootAt_28 : decode cX4_hasFootAt 28 = .ok (.ldc2_w 49, 3) := by decide +kernel
theorem dX4_hasFootAt_31 : decode cX4_hasFootAt 31 = .ok (.lcmp, 1) := by decide +kernel
theorem dX4_hasFootAt_32 : decode cX4_hasFootAt 32 = .ok (.ifCond .le 5, 3) := by decide +kernel
theorem dX4_hasFootAt_35 : decode cX4_hasFootAt 35 = .ok (.iconst 0, 1) := by decide +kernel
theorem dX4_hasFootAt_36 : decode cX4_hasFootAt 36 = .ok (.ireturn, 1) := by decide +kernel
theorem dX4_hasFootAt_37 : decode cX4_hasFootAt 37 = .ok (.iinc 2 1, 3) := by decide +kernel
theorem dX4_hasFootAt_40 : decode cX4_hasFootAt 40 = .ok (.goto (-38), 3) := by decide +kernel
theorem dX4_hasFootAt_43 : decode cX4_hasFootAt 43 = .ok (.aload_n 0, 1) := by decide +kernel
theorem dX4_hasFootAt_44 : decode cX4_hasFootAt 44 = .ok (.getfield 9, 3) := by decide +kernel
theorem dX4_hasFootAt_47 : decode cX4_hasFootAt 47 = .ok (.iload_n 1, 1) := by decide +kernel
theorem dX4_hasFootAt_48 : decode cX4_hasFootAt 48 = .ok (.iconst 3, 1) := by decide +kernel
theorem dX4_hasFootAt_49 : decode cX4_hasFootAt 49 = .ok (.iadd, 1) := by decide +kernel
theorem dX4_hasFootAt_50 : decode cX4_hasFootAt 50 = .ok (.laload, 1) := by decide +kernel
theorem dX4_hasFootAt_51 : decode cX4_hasFootAt 51 = .ok (.lconst 1, 1) := by decide +kernel
theorem dX4_hasFootAt_52 : decode cX4_hasFootAt 52 = .ok (.lcmp, 1) := by decide +kernel
theorem dX4_hasFootAt_53 : decode cX4_hasFootAt 53 = .ok (.ifCond .lt 22, 3) := by decide +kernel
theorem dX4_hasFootAt_56 : decode cX4_hasFootAt 56 = .ok (.aload_n 0, 1) := by decide +kernel
theorem dX4_hasFootAt_57 : decode cX4_hasFootAt 57 = .ok (.getfield 9, 3) := by decide +kernel
theorem dX4_hasFootAt_60 : decode cX4_hasFootAt 60 = .ok (.iload_n 1, 1) := by decide +kernel
theorem dX4_hasFootAt_61 : decode cX4_hasFootAt 61 = .ok (.iconst 3, 1) := by decide +kernel
theorem dX4_hasFootAt_62 : decode cX4_hasFootAt 62 = .ok (.iadd, 1) := by decide +kernel
theorem dX4_hasFootAt_63 : decode cX4_hasFootAt 63 = .ok (.laload, 1) := by decide +kernel
theorem dX4_hasFootAt_64 : decode cX4_hasFootAt 64 = .ok (.ldc2_w 51, 3) := by decide +kernel
theorem dX4_hasFootAt_67 : decode cX4_hasFootAt 67 = .ok (.lcmp, 1) := by decide +kernel
theorem dX4_hasFootAt_68 : decode cX4_hasFootAt 68 = .ok (.ifCond .gt 7, 3) := by decide +kernel
theorem dX4_hasFootAt_71 : decode cX4_hasFootAt 71 = .ok (.iconst 1, 1) := by decide +kernel
theorem dX4_hasFootAt_72 : decode cX4_hasFootAt 72 = .ok (.goto 4, 3) := by decide +kernel
theorem dX4_hasFootAt_75 : decode cX4_hasFootAt 75 = .ok (.iconst 0, 1) := by decide +kernel
theorem dX4_hasFootAt_76 : decode cX4_hasFootAt 76 = .ok (.ireturn, 1) := by decide +kernel
def lp_X4_hasFootAt_2 (j35 : Option (Int32)) (M : gz_M) (a0 : Nat) (a1 : Int32) : Nat → Int32 → Option (Int32)
  | 0, _ => none
  | n2 + 1, x1 =>
    if (3 : Int32) ≤ x1 then
      (gz_gR M 4 0 a0).bind fun x6 =>
      (gz_aL M x6 (a1 + (3 : Int32))).bind fun x7 =>
      gz_jn (fun (x10 : Int32) =>
      gz_z x10 (some x10)) fun j76 =>
      gz_jn (j76 (0 : Int32)) fun j75 =>
      if (lg_cmp x7 (1 : Int64)) < 0 then
        j75
      else
        (gz_gR M 4 0 a0).bind fun x8 =>
        (gz_aL M x8 (a1 + (3 : Int32))).bind fun x9 =>
        if 0 < (lg_cmp x9 (99 : Int64)) then
          j75
        else
          j76 (1 : Int32)
    else
      (gz_gR M 4 0 a0).bind fun x2 =>
      (gz_aL M x2 (a1 + x1)).bind fun x3 =>
      if (lg_cmp x3 (0 : Int64)) < 0 then
        j35
      else
        (gz_gR M 4 0 a0).bind fun x4 =>
        (gz_aL M x4 (a1 + x1)).bind fun x5 =>
        if (lg_cmp x5 (30 : Int64)) ≤ 0 then
          lp_X4_hasFootAt_2 j35 M a0 a1 n2 (x1 + (1 : Int32))
        else
          j35
def f_X4_hasFootAt (fu : Nat) (M : gz_M) (a0 : Nat) (a1 : Int32) : Option (Int32) :=
  gz_gd M 4 a0 <|
  lp_X4_hasFootAt_2 (gz_z (0 : Int32) (some (0 : Int32))) M a0 a1 fu (0 : Int32)
set_option maxHeartbeats 4000000 in
theorem w_X4_hasFootAt_2 {C : gz_C} {y : Int32} {M : gz_M} {a0 : Nat} {a1 : Int32} {j35 : Option (Int32)} (hC : gz_ok C cX4_hasFootAt RX4 3) (hX : gz_cx C 0 0 0 0 (some .boolean) (some (.int y)) M "hasFootAt") (hj35 : j35 = some y → gz_go C 0 0 M [] 35 []) : ∀ (n : Nat) (x1 : Int32), lp_X4_hasFootAt_2 j35 M a0 a1 n x1 = some y → gz_go C 0 0 M [(0, .ref a0), (1, .int a1), (2, .int x1)] 2 [] := by
  intro n
  induction n with
  | zero => intro x1 hF; exact nomatch (show (none : Option (Int32)) = some y from hF)
  | succ n2 ih2 =>
    intro x1 hF
    rw [lp_X4_hasFootAt_2.eq_2] at hF
    refine gz_iload_n 2 hC 2 dX4_hasFootAt_2 rfl rfl ?_
    refine gz_iconst 3 hC (3 : Int32) dX4_hasFootAt_3 gz_k3 ?_
    refine gz_icmp_ge 4 43 hC dX4_hasFootAt_4 (by decide) hF (fun hF => ?_) (fun hF => ?_)
    · skip
      refine gz_aload_n 43 hC 0 dX4_hasFootAt_43 rfl rfl ?_
      refine gz_getR 44 hC fl_X4_9 fk_4_0 dX4_hasFootAt_44 hF (fun x6 hF => ?_)
      refine gz_iload_n 47 hC 1 dX4_hasFootAt_47 rfl rfl ?_
      refine gz_iconst 48 hC (3 : Int32) dX4_hasFootAt_48 gz_k3 ?_
      refine gz_iadd 49 hC dX4_hasFootAt_49 ?_
      refine gz_lald 50 hC dX4_hasFootAt_50 hF (fun x7 hF => ?_)
      refine gz_lconst 51 hC (1 : Int64) dX4_hasFootAt_51 gz_l1 ?_
      refine gz_lcmp 52 hC dX4_hasFootAt_52 ?_
      refine gz_join (fun (j : Int32 → Option (Int32)) => ∀ (x10 : Int32), j x10 = some y → gz_go C 0 0 M [] 76 [.int x10]) hF (fun x10 hF => ?_) (fun j76 hj76 hF => ?_)
      · skip
        exact gz_zretP 76 hC hX dX4_hasFootAt_76 hF
      refine gz_join (fun (j : Option (Int32)) => j = some y → gz_go C 0 0 M [] 75 []) hF (fun hF => ?_) (fun j75 hj75 hF => ?_)
      · skip
        refine gz_iconst 75 hC (0 : Int32) dX4_hasFootAt_75 gz_k0 ?_
        exact hj76 _ hF
      refine gz_if_lt 53 75 hC dX4_hasFootAt_53 (by decide) hF (fun hF => ?_) (fun hF => ?_)
      · skip
        refine gz_sub [] [] rfl ?_
        exact hj75 hF
      · skip
        refine gz_aload_n 56 hC 0 dX4_hasFootAt_56 rfl rfl ?_
        refine gz_getR 57 hC fl_X4_9 fk_4_0 dX4_hasFootAt_57 hF (fun x8 hF => ?_)
        refine gz_iload_n 60 hC 1 dX4_hasFootAt_60 rfl rfl ?_
        refine gz_iconst 61 hC (3 : Int32) dX4_hasFootAt_61 gz_k3 ?_
        refine gz_iadd 62 hC dX4_hasFootAt_62 ?_
        refine gz_lald 63 hC dX4_hasFootAt_63 hF (fun x9 hF => ?_)
        refine gz_ldc2 64 hC dX4_hasFootAt_64 q_729 ?_
        refine gz_lcmp 67 hC dX4_hasFootAt_67 ?_
        refine gz_if_gt 68 75 hC dX4_hasFootAt_68 (by decide) hF (fun hF => ?_) (fun hF => ?_)
        · skip
          refine gz_sub [] [] rfl ?_
          exact hj75 hF
        · skip
          refine gz_iconst 71 hC (1 : Int32) dX4_hasFootAt_71 gz_k1 ?_
          refine gz_goto 72 76 hC dX4_hasFootAt_72 (by decide) ?_
          refine gz_sub [] [] rfl ?_
          exact hj76 _ hF
    · skip
      refine gz_aload_n 7 hC 0 dX4_hasFootAt_7 rfl rfl ?_
      refine gz_getR 8 hC fl_X4_9 fk_4_0 dX4_hasFootAt_8 hF (fun x2 hF => ?_)
      refine gz_iload_n 11 hC 1 dX4_hasFootAt_11 rfl rfl ?_
      refine gz_iload_n 12 hC 2 dX4_hasFootAt_12 rfl rfl ?_
      refine gz_iadd 13 hC dX4_hasFootAt_13 ?_
      refine gz_lald 14 hC dX4_hasFootAt_14 hF (fun x3 hF => ?_)
      refine gz_lconst 15 hC (0 : Int64) dX4_hasFootAt_15 gz_l0 ?_
      refine gz_lcmp 16 hC dX4_hasFootAt_16 ?_
      refine gz_if_lt 17 35 hC dX4_hasFootAt_17 (by decide) hF (fun hF => ?_) (fun hF => ?_)
      · skip
        refine gz_sub [] [] rfl ?_
        exact hj35 hF
      · skip
        refine gz_aload_n 20 hC 0 dX4_hasFootAt_20 rfl rfl ?_
        refine gz_getR 21 hC fl_X4_9 fk_4_0 dX4_hasFootAt_21 hF (fun x4 hF => ?_)
        refine gz_iload_n 24 hC 1 dX4_hasFootAt_24 rfl rfl ?_
        refine gz_iload_n 25 hC 2 dX4_hasFootAt_25 rfl rfl ?_
        refine gz_iadd 26 hC dX4_hasFootAt_26 ?_
        refine gz_lald 27 hC dX4_hasFootAt_27 hF (fun x5 hF => ?_)
        refine gz_ldc2 28 hC dX4_hasFootAt_28 q_728 ?_
        refine gz_lcmp 31 hC dX4_hasFootAt_31 ?_
        refine gz_if_le 32 37 hC dX4_hasFootAt_32 (by decide) hF (fun hF => ?_) (fun hF => ?_)
        · skip
          refine gz_iinc 37 hC (x1 + (1 : Int32)) 2 [(2, .int (x1 + (1 : Int32))), (0, .ref a0), (1, .int a1)] dX4_hasFootAt_37 rfl rfl (by decide) rfl ?_
          refine gz_goto 40 2 hC dX4_hasFootAt_40 (by decide) ?_
          refine gz_sub [1, 2, 0] [(0, .ref a0), (1, .int a1), (2, .int (x1 + (1 : Int32)))] rfl ?_
          exact ih2 _ hF
        · skip
          refine gz_sub [] [] rfl ?_
          exact hj35 hF
set_option maxHeartbeats 4000000 in
theorem ct_X4_hasFootAt (l : Launch) (G : gz_G) (fu : Nat) (M : gz_M) (a0 : Nat) (a1 : Int32) (y : Int32) (hF : f_X4_hasFootAt fu M a0 a1 = some y) : gz_ct l yX4_hasFootAt cX4_hasFootAt 3 (some .boolean) 0 0 0 0 G [.ref a0, .int a1] M (some (.int y)) M := by
  refine gz_ct.of (by decide) (Nat.le_of_ble_eq_true rfl) (fun C hC hX => ?_)
  unfold f_X4_hasFootAt at hF
  obtain ⟨-, hF⟩ := gz_gd_some hF
  show gz_go C 0 0 M [(0, .ref a0), (1, .int a1)] 0 []
  refine gz_iconst 0 hC (0 : Int32) dX4_hasFootAt_0 gz_k0 ?_
  refine gz_istore_n 1 hC [(2, .int (0 : Int32)), (0, .ref a0), (1, .int a1)] dX4_hasFootAt_1 rfl (by decide) rfl ?_
  refine gz_sub [1, 2, 0] [(0, .ref a0), (1, .int a1), (2, .int (0 : Int32))] rfl ?_
  refine w_X4_hasFootAt_2 hC hX ?_ _ _ hF
  intro hF
  refine gz_iconst 35 hC (0 : Int32) dX4_hasFootAt_35 gz_k0 ?_
  exact gz_zretP 36 hC hX dX4_hasFootAt_36 hF
