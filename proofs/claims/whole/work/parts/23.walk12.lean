theorem dX10_changed_0 : decode cX10_changed 0 = .ok (.aload_n 0, 1) := by decide +kernel
theorem dX10_changed_1 : decode cX10_changed 1 = .ok (.iload_n 1, 1) := by decide +kernel
theorem dX10_changed_2 : decode cX10_changed 2 = .ok (.iload_n 2, 1) := by decide +kernel
theorem dX10_changed_3 : decode cX10_changed 3 = .ok (.invokevirtual 239, 3) := by decide +kernel
theorem dX10_changed_6 : decode cX10_changed 6 = .ok (.ifCond .ne 10, 3) := by decide +kernel
theorem dX10_changed_9 : decode cX10_changed 9 = .ok (.aload_n 0, 1) := by decide +kernel
theorem dX10_changed_10 : decode cX10_changed 10 = .ok (.bipush (-2), 2) := by decide +kernel
theorem dX10_changed_12 : decode cX10_changed 12 = .ok (.invokevirtual 97, 3) := by decide +kernel
theorem dX10_changed_15 : decode cX10_changed 15 = .ok (.ireturn, 1) := by decide +kernel
theorem dX10_changed_16 : decode cX10_changed 16 = .ok (.iload_n 2, 1) := by decide +kernel
theorem dX10_changed_17 : decode cX10_changed 17 = .ok (.istore_n 3, 1) := by decide +kernel
theorem dX10_changed_18 : decode cX10_changed 18 = .ok (.iconst 1, 1) := by decide +kernel
theorem dX10_changed_19 : decode cX10_changed 19 = .ok (.istore 4, 2) := by decide +kernel
theorem dX10_changed_21 : decode cX10_changed 21 = .ok (.iload 4, 2) := by decide +kernel
theorem dX10_changed_23 : decode cX10_changed 23 = .ok (.ifCond .eq 123, 3) := by decide +kernel
theorem dX10_changed_26 : decode cX10_changed 26 = .ok (.iload_n 3, 1) := by decide +kernel
theorem dX10_changed_27 : decode cX10_changed 27 = .ok (.istore 5, 2) := by decide +kernel
theorem dX10_changed_29 : decode cX10_changed 29 = .ok (.aload_n 0, 1) := by decide +kernel
theorem dX10_changed_30 : decode cX10_changed 30 = .ok (.iload_n 1, 1) := by decide +kernel
theorem dX10_changed_31 : decode cX10_changed 31 = .ok (.iload_n 3, 1) := by decide +kernel
theorem dX10_changed_32 : decode cX10_changed 32 = .ok (.iconst (-1), 1) := by decide +kernel
theorem dX10_changed_33 : decode cX10_changed 33 = .ok (.invokevirtual 242, 3) := by decide +kernel
theorem dX10_changed_36 : decode cX10_changed 36 = .ok (.istore 6, 2) := by decide +kernel
theorem dX10_changed_38 : decode cX10_changed 38 = .ok (.iconst 0, 1) := by decide +kernel
theorem dX10_changed_39 : decode cX10_changed 39 = .ok (.istore 4, 2) := by decide +kernel
theorem dX10_changed_41 : decode cX10_changed 41 = .ok (.iconst 0, 1) := by decide +kernel
theorem dX10_changed_42 : decode cX10_changed 42 = .ok (.istore 7, 2) := by decide +kernel
theorem dX10_changed_44 : decode cX10_changed 44 = .ok (.iload 7, 2) := by decide +kernel
theorem dX10_changed_46 : decode cX10_changed 46 = .ok (.aload_n 0, 1) := by decide +kernel
theorem dX10_changed_47 : decode cX10_changed 47 = .ok (.iload_n 1, 1) := by decide +kernel
theorem dX10_changed_48 : decode cX10_changed 48 = .ok (.invokevirtual 85, 3) := by decide +kernel
theorem dX10_changed_51 : decode cX10_changed 51 = .ok (.if_icmp .ge 89, 3) := by decide +kernel
theorem dX10_changed_54 : decode cX10_changed 54 = .ok (.iconst 0, 1) := by decide +kernel
theorem dX10_changed_55 : decode cX10_changed 55 = .ok (.istore 8, 2) := by decide +kernel
theorem dX10_changed_57 : decode cX10_changed 57 = .ok (.iload 8, 2) := by decide +kernel
theorem dX10_changed_59 : decode cX10_changed 59 = .ok (.aload_n 0, 1) := by decide +kernel
theorem dX10_changed_60 : decode cX10_changed 60 = .ok (.iload_n 1, 1) := by decide +kernel
theorem dX10_changed_61 : decode cX10_changed 61 = .ok (.invokevirtual 85, 3) := by decide +kernel
theorem dX10_changed_64 : decode cX10_changed 64 = .ok (.if_icmp .ge 70, 3) := by decide +kernel
theorem dX10_changed_67 : decode cX10_changed 67 = .ok (.iload_n 3, 1) := by decide +kernel
theorem dX10_changed_68 : decode cX10_changed 68 = .ok (.iload 7, 2) := by decide +kernel
theorem dX10_changed_70 : decode cX10_changed 70 = .ok (.ishr, 1) := by decide +kernel
theorem dX10_changed_71 : decode cX10_changed 71 = .ok (.iconst 1, 1) := by decide +kernel
theorem dX10_changed_72 : decode cX10_changed 72 = .ok (.iand, 1) := by decide +kernel
theorem dX10_changed_73 : decode cX10_changed 73 = .ok (.ifCond .eq 61, 3) := by decide +kernel
theorem dX10_changed_76 : decode cX10_changed 76 = .ok (.iload_n 3, 1) := by decide +kernel
theorem dX10_changed_77 : decode cX10_changed 77 = .ok (.iload 8, 2) := by decide +kernel
theorem dX10_changed_79 : decode cX10_changed 79 = .ok (.ishr, 1) := by decide +kernel
theorem dX10_changed_80 : decode cX10_changed 80 = .ok (.iconst 1, 1) := by decide +kernel
theorem dX10_changed_81 : decode cX10_changed 81 = .ok (.iand, 1) := by decide +kernel
theorem dX10_changed_82 : decode cX10_changed 82 = .ok (.ifCond .ne 46, 3) := by decide +kernel
theorem dX10_changed_85 : decode cX10_changed 85 = .ok (.iload_n 3, 1) := by decide +kernel
theorem dX10_changed_86 : decode cX10_changed 86 = .ok (.iconst 1, 1) := by decide +kernel
theorem dX10_changed_87 : decode cX10_changed 87 = .ok (.iload 7, 2) := by decide +kernel
theorem dX10_changed_89 : decode cX10_changed 89 = .ok (.ishl, 1) := by decide +kernel
theorem dX10_changed_90 : decode cX10_changed 90 = .ok (.iconst (-1), 1) := by decide +kernel
theorem dX10_changed_91 : decode cX10_changed 91 = .ok (.ixor, 1) := by decide +kernel
theorem dX10_changed_92 : decode cX10_changed 92 = .ok (.iand, 1) := by decide +kernel
theorem dX10_changed_93 : decode cX10_changed 93 = .ok (.iconst 1, 1) := by decide +kernel
theorem dX10_changed_94 : decode cX10_changed 94 = .ok (.iload 8, 2) := by decide +kernel
theorem dX10_changed_96 : decode cX10_changed 96 = .ok (.ishl, 1) := by decide +kernel
theorem dX10_changed_97 : decode cX10_changed 97 = .ok (.ior, 1) := by decide +kernel
theorem dX10_changed_98 : decode cX10_changed 98 = .ok (.istore 9, 2) := by decide +kernel
theorem dX10_changed_100 : decode cX10_changed 100 = .ok (.aload_n 0, 1) := by decide +kernel
theorem dX10_changed_101 : decode cX10_changed 101 = .ok (.iload_n 1, 1) := by decide +kernel
theorem dX10_changed_102 : decode cX10_changed 102 = .ok (.iload 9, 2) := by decide +kernel
theorem dX10_changed_104 : decode cX10_changed 104 = .ok (.iconst (-1), 1) := by decide +kernel
theorem dX10_changed_105 : decode cX10_changed 105 = .ok (.invokevirtual 242, 3) := by decide +kernel
theorem dX10_changed_108 : decode cX10_changed 108 = .ok (.istore 10, 2) := by decide +kernel
theorem dX10_changed_110 : decode cX10_changed 110 = .ok (.iload 10, 2) := by decide +kernel
theorem dX10_changed_112 : decode cX10_changed 112 = .ok (.iload 6, 2) := by decide +kernel
theorem dX10_changed_114 : decode cX10_changed 114 = .ok (.if_icmp .ge 14, 3) := by decide +kernel
theorem dX10_changed_117 : decode cX10_changed 117 = .ok (.iload 10, 2) := by decide +kernel
theorem dX10_changed_119 : decode cX10_changed 119 = .ok (.istore 6, 2) := by decide +kernel
theorem dX10_changed_121 : decode cX10_changed 121 = .ok (.iload 9, 2) := by decide +kernel
theorem dX10_changed_123 : decode cX10_changed 123 = .ok (.istore 5, 2) := by decide +kernel
theorem dX10_changed_125 : decode cX10_changed 125 = .ok (.iconst 1, 1) := by decide +kernel
theorem dX10_changed_126 : decode cX10_changed 126 = .ok (.istore 4, 2) := by decide +kernel
theorem dX10_changed_128 : decode cX10_changed 128 = .ok (.iinc 8 1, 3) := by decide +kernel
theorem dX10_changed_131 : decode cX10_changed 131 = .ok (.goto (-74), 3) := by decide +kernel
theorem dX10_changed_134 : decode cX10_changed 134 = .ok (.iinc 7 1, 3) := by decide +kernel
theorem dX10_changed_137 : decode cX10_changed 137 = .ok (.goto (-93), 3) := by decide +kernel
theorem dX10_changed_140 : decode cX10_changed 140 = .ok (.iload 5, 2) := by decide +kernel
theorem dX10_changed_142 : decode cX10_changed 142 = .ok (.istore_n 3, 1) := by decide +kernel
theorem dX10_changed_143 : decode cX10_changed 143 = .ok (.goto (-122), 3) := by decide +kernel
theorem dX10_changed_146 : decode cX10_changed 146 = .ok (.iload_n 3, 1) := by decide +kernel
theorem dX10_changed_147 : decode cX10_changed 147 = .ok (.ireturn, 1) := by decide +kernel
def lp_X10_changed_57 (j134 : Int32 → Int32 → Int32 → Option (Int32 × gz_M)) (fu : Nat) (M : gz_M) (a0 : Nat) (a1 : Int32) (x4 : Int32) (x10 : Int32) : Nat → Int32 → Int32 → Int32 → Int32 → Option (Int32 × gz_M)
  | 0, _, _, _, _ => none
  | n57 + 1, x12, x13, x14, x15 =>
    (f_X10_lastsOf fu M a0 a1).bind fun x16 =>
    if x16 ≤ x15 then
      j134 x12 x13 x14
    else
      if ((x4 >>> (x10 &&& 31)) &&& (1 : Int32)) = 0 then
        j134 x12 x13 x14
      else
        gz_jn (fun (x18 : Int32) (x19 : Int32) (x20 : Int32) =>
        lp_X10_changed_57 j134 fu M a0 a1 x4 x10 n57 x18 x19 x20 (x15 + (1 : Int32))) fun j128 =>
        if ((x4 >>> (x15 &&& 31)) &&& (1 : Int32)) = 0 then
          (f_X10_totalOf fu M a0 a1 ((x4 &&& (((1 : Int32) <<< (x10 &&& 31)) ^^^ (-1 : Int32))) ||| ((1 : Int32) <<< (x15 &&& 31))) (-1 : Int32)).bind fun x17 =>
          if x14 ≤ x17 then
            j128 x12 x13 x14
          else
            j128 (1 : Int32) ((x4 &&& (((1 : Int32) <<< (x10 &&& 31)) ^^^ (-1 : Int32))) ||| ((1 : Int32) <<< (x15 &&& 31))) x17
        else
          j128 x12 x13 x14
def lp_X10_changed_44 (j140 : Int32 → Int32 → Option (Int32 × gz_M)) (fu : Nat) (M : gz_M) (a0 : Nat) (a1 : Int32) (x4 : Int32) : Nat → Int32 → Int32 → Int32 → Int32 → Option (Int32 × gz_M)
  | 0, _, _, _, _ => none
  | n44 + 1, x7, x8, x9, x10 =>
    (f_X10_lastsOf fu M a0 a1).bind fun x11 =>
    if x11 ≤ x10 then
      j140 x7 x8
    else
      lp_X10_changed_57 (fun (x21 : Int32) (x22 : Int32) (x23 : Int32) => lp_X10_changed_44 j140 fu M a0 a1 x4 n44 x21 x22 x23 (x10 + (1 : Int32))) fu M a0 a1 x4 x10 fu x7 x8 x9 (0 : Int32)
def lp_X10_changed_21 (j146 : Int32 → Option (Int32 × gz_M)) (fu : Nat) (M : gz_M) (a0 : Nat) (a1 : Int32) : Nat → Int32 → Int32 → Option (Int32 × gz_M)
  | 0, _, _ => none
  | n21 + 1, x4, x5 =>
    if x5 = 0 then
      j146 x4
    else
      (f_X10_totalOf fu M a0 a1 x4 (-1 : Int32)).bind fun x6 =>
      lp_X10_changed_44 (fun (x24 : Int32) (x25 : Int32) => lp_X10_changed_21 j146 fu M a0 a1 n21 x25 x24) fu M a0 a1 x4 fu (0 : Int32) x4 x6 (0 : Int32)
def f_X10_changed (fu : Nat) (M : gz_M) (a0 : Nat) (a1 : Int32) (a2 : Int32) : Option (Int32 × gz_M) :=
  gz_gd M 10 a0 <|
  (f_X10_isSet fu M a0 a1 a2).bind fun x1 =>
  if x1 = 0 then
    gz_b2 (f_X10_refuse fu M a0 (-2 : Int32)) fun x2 M3 =>
    some (x2, M3)
  else
    lp_X10_changed_21 (fun (x26 : Int32) => some (x26, M)) fu M a0 a1 fu a2 (1 : Int32)
set_option maxHeartbeats 4000000 in
theorem w_X10_changed_57 {C : gz_C} {y : Int32 × gz_M} {fu : Nat} {M : gz_M} {a0 : Nat} {a1 : Int32} {x4 : Int32} {x10 : Int32} {j134 : Int32 → Int32 → Int32 → Option (Int32 × gz_M)} (hC : gz_ok C cX10_changed RX10 11) (hX : gz_cx C 5 132 0 0 (some .int) (some (.int y.1)) y.2 "changed") (hj134 : ∀ (x21 : Int32) (x22 : Int32) (x23 : Int32), j134 x21 x22 x23 = some y → gz_go C 0 0 M [(0, .ref a0), (1, .int a1), (3, .int x4), (4, .int x21), (5, .int x22), (6, .int x23), (7, .int x10)] 134 []) : ∀ (n : Nat) (x12 : Int32) (x13 : Int32) (x14 : Int32) (x15 : Int32), lp_X10_changed_57 j134 fu M a0 a1 x4 x10 n x12 x13 x14 x15 = some y → gz_go C 0 0 M [(0, .ref a0), (1, .int a1), (3, .int x4), (4, .int x12), (5, .int x13), (6, .int x14), (7, .int x10), (8, .int x15)] 57 [] := by
  intro n
  induction n with
  | zero => intro x12 x13 x14 x15 hF; exact nomatch (show (none : Option (Int32 × gz_M)) = some y from hF)
  | succ n57 ih57 =>
    intro x12 x13 x14 x15 hF
    rw [lp_X10_changed_57.eq_2] at hF
    refine gz_iload 57 hC 7 dX10_changed_57 rfl ?_
    refine gz_aload_n 59 hC 0 dX10_changed_59 rfl rfl ?_
    refine gz_iload_n 60 hC 1 dX10_changed_60 rfl rfl ?_
    refine gz_cvP (st := [.int x15]) 61 hC hX [.int a1] Value.int yl_X10_lastsOf yv_X10_lastsOf q_1229 ⟨Nat.le_of_ble_eq_true rfl, Nat.le_of_ble_eq_true rfl⟩ ⟨_, rfl⟩ (fun r h => ct_X10_lastsOf _ _ fu M a0 a1 r h) rfl rfl (Nat.le_of_ble_eq_true rfl) dX10_changed_61 gz_00 hF (fun x16 hF => ?_)
    refine gz_icmp_ge 64 134 hC dX10_changed_64 (by decide) hF (fun hF => ?_) (fun hF => ?_)
    · skip
      refine gz_sub [0, 1, 2, 3, 4, 5, 6] [(0, .ref a0), (1, .int a1), (3, .int x4), (4, .int x12), (5, .int x13), (6, .int x14), (7, .int x10)] rfl ?_
      exact hj134 _ _ _ hF
    · skip
      refine gz_iload_n 67 hC 2 dX10_changed_67 rfl rfl ?_
      refine gz_iload 68 hC 6 dX10_changed_68 rfl ?_
      refine gz_ishr 70 hC dX10_changed_70 ?_
      refine gz_iconst 71 hC (1 : Int32) dX10_changed_71 gz_k1 ?_
      refine gz_iand 72 hC dX10_changed_72 ?_
      refine gz_if_eq 73 134 hC dX10_changed_73 (by decide) hF (fun hF => ?_) (fun hF => ?_)
      · skip
        refine gz_sub [0, 1, 2, 3, 4, 5, 6] [(0, .ref a0), (1, .int a1), (3, .int x4), (4, .int x12), (5, .int x13), (6, .int x14), (7, .int x10)] rfl ?_
        exact hj134 _ _ _ hF
      · skip
        refine gz_iload_n 76 hC 2 dX10_changed_76 rfl rfl ?_
        refine gz_iload 77 hC 7 dX10_changed_77 rfl ?_
        refine gz_ishr 79 hC dX10_changed_79 ?_
        refine gz_iconst 80 hC (1 : Int32) dX10_changed_80 gz_k1 ?_
        refine gz_iand 81 hC dX10_changed_81 ?_
        refine gz_join (fun (j : Int32 → Int32 → Int32 → Option (Int32 × gz_M)) => ∀ (x18 : Int32) (x19 : Int32) (x20 : Int32), j x18 x19 x20 = some y → gz_go C 0 0 M [(0, .ref a0), (1, .int a1), (3, .int x4), (4, .int x18), (5, .int x19), (6, .int x20), (7, .int x10), (8, .int x15)] 128 []) hF (fun x18 x19 x20 hF => ?_) (fun j128 hj128 hF => ?_)
        · skip
          refine gz_iinc 128 hC (x15 + (1 : Int32)) 7 [(8, .int (x15 + (1 : Int32))), (0, .ref a0), (1, .int a1), (3, .int x4), (4, .int x18), (5, .int x19), (6, .int x20), (7, .int x10)] dX10_changed_128 rfl rfl (by decide) rfl ?_
          refine gz_goto 131 57 hC dX10_changed_131 (by decide) ?_
          refine gz_sub [1, 2, 3, 4, 5, 6, 7, 0] [(0, .ref a0), (1, .int a1), (3, .int x4), (4, .int x18), (5, .int x19), (6, .int x20), (7, .int x10), (8, .int (x15 + (1 : Int32)))] rfl ?_
          exact ih57 _ _ _ _ hF
        refine gz_if_ne 82 128 hC dX10_changed_82 (by decide) hF (fun hF => ?_) (fun hF => ?_)
        · skip
          exact hj128 _ _ _ hF
        · skip
          refine gz_iload_n 85 hC 2 dX10_changed_85 rfl rfl ?_
          refine gz_iconst 86 hC (1 : Int32) dX10_changed_86 gz_k1 ?_
          refine gz_iload 87 hC 6 dX10_changed_87 rfl ?_
          refine gz_ishl 89 hC dX10_changed_89 ?_
          refine gz_iconst 90 hC (-1 : Int32) dX10_changed_90 gz_km1 ?_
          refine gz_ixor 91 hC dX10_changed_91 ?_
          refine gz_iand 92 hC dX10_changed_92 ?_
          refine gz_iconst 93 hC (1 : Int32) dX10_changed_93 gz_k1 ?_
          refine gz_iload 94 hC 7 dX10_changed_94 rfl ?_
          refine gz_ishl 96 hC dX10_changed_96 ?_
          refine gz_ior 97 hC dX10_changed_97 ?_
          refine gz_istore 98 hC [(9, .int ((x4 &&& (((1 : Int32) <<< (x10 &&& 31)) ^^^ (-1 : Int32))) ||| ((1 : Int32) <<< (x15 &&& 31)))), (0, .ref a0), (1, .int a1), (3, .int x4), (4, .int x12), (5, .int x13), (6, .int x14), (7, .int x10), (8, .int x15)] dX10_changed_98 (by decide) rfl ?_
          refine gz_aload_n 100 hC 1 dX10_changed_100 rfl rfl ?_
          refine gz_iload_n 101 hC 2 dX10_changed_101 rfl rfl ?_
          refine gz_iload 102 hC 0 dX10_changed_102 rfl ?_
          refine gz_iconst 104 hC (-1 : Int32) dX10_changed_104 gz_km1 ?_
          refine gz_cvP (st := []) 105 hC hX [.int a1, .int ((x4 &&& (((1 : Int32) <<< (x10 &&& 31)) ^^^ (-1 : Int32))) ||| ((1 : Int32) <<< (x15 &&& 31))), .int (-1 : Int32)] Value.int yl_X10_totalOf yv_X10_totalOf q_1391 ⟨Nat.le_of_ble_eq_true rfl, Nat.le_of_ble_eq_true rfl⟩ ⟨_, rfl⟩ (fun r h => ct_X10_totalOf _ _ fu M a0 a1 ((x4 &&& (((1 : Int32) <<< (x10 &&& 31)) ^^^ (-1 : Int32))) ||| ((1 : Int32) <<< (x15 &&& 31))) (-1 : Int32) r h) rfl rfl (Nat.le_of_ble_eq_true rfl) dX10_changed_105 gz_00 hF (fun x17 hF => ?_)
          refine gz_istore 108 hC [(10, .int x17), (9, .int ((x4 &&& (((1 : Int32) <<< (x10 &&& 31)) ^^^ (-1 : Int32))) ||| ((1 : Int32) <<< (x15 &&& 31)))), (0, .ref a0), (1, .int a1), (3, .int x4), (4, .int x12), (5, .int x13), (6, .int x14), (7, .int x10), (8, .int x15)] dX10_changed_108 (by decide) rfl ?_
          refine gz_iload 110 hC 0 dX10_changed_110 rfl ?_
          refine gz_iload 112 hC 7 dX10_changed_112 rfl ?_
          refine gz_icmp_ge 114 128 hC dX10_changed_114 (by decide) hF (fun hF => ?_) (fun hF => ?_)
          · skip
            refine gz_sub [2, 3, 4, 5, 6, 7, 8, 9] [(0, .ref a0), (1, .int a1), (3, .int x4), (4, .int x12), (5, .int x13), (6, .int x14), (7, .int x10), (8, .int x15)] rfl ?_
            exact hj128 _ _ _ hF
          · skip
            refine gz_iload 117 hC 0 dX10_changed_117 rfl ?_
            refine gz_istore 119 hC [(6, .int x17), (10, .int x17), (9, .int ((x4 &&& (((1 : Int32) <<< (x10 &&& 31)) ^^^ (-1 : Int32))) ||| ((1 : Int32) <<< (x15 &&& 31)))), (0, .ref a0), (1, .int a1), (3, .int x4), (4, .int x12), (5, .int x13), (7, .int x10), (8, .int x15)] dX10_changed_119 (by decide) rfl ?_
            refine gz_iload 121 hC 2 dX10_changed_121 rfl ?_
            refine gz_istore 123 hC [(5, .int ((x4 &&& (((1 : Int32) <<< (x10 &&& 31)) ^^^ (-1 : Int32))) ||| ((1 : Int32) <<< (x15 &&& 31)))), (6, .int x17), (10, .int x17), (9, .int ((x4 &&& (((1 : Int32) <<< (x10 &&& 31)) ^^^ (-1 : Int32))) ||| ((1 : Int32) <<< (x15 &&& 31)))), (0, .ref a0), (1, .int a1), (3, .int x4), (4, .int x12), (7, .int x10), (8, .int x15)] dX10_changed_123 (by decide) rfl ?_
            refine gz_iconst 125 hC (1 : Int32) dX10_changed_125 gz_k1 ?_
            refine gz_istore 126 hC [(4, .int (1 : Int32)), (5, .int ((x4 &&& (((1 : Int32) <<< (x10 &&& 31)) ^^^ (-1 : Int32))) ||| ((1 : Int32) <<< (x15 &&& 31)))), (6, .int x17), (10, .int x17), (9, .int ((x4 &&& (((1 : Int32) <<< (x10 &&& 31)) ^^^ (-1 : Int32))) ||| ((1 : Int32) <<< (x15 &&& 31)))), (0, .ref a0), (1, .int a1), (3, .int x4), (7, .int x10), (8, .int x15)] dX10_changed_126 (by decide) rfl ?_
            refine gz_sub [5, 6, 7, 0, 1, 2, 8, 9] [(0, .ref a0), (1, .int a1), (3, .int x4), (4, .int (1 : Int32)), (5, .int ((x4 &&& (((1 : Int32) <<< (x10 &&& 31)) ^^^ (-1 : Int32))) ||| ((1 : Int32) <<< (x15 &&& 31)))), (6, .int x17), (7, .int x10), (8, .int x15)] rfl ?_
            exact hj128 _ _ _ hF
set_option maxHeartbeats 4000000 in
theorem w_X10_changed_44 {C : gz_C} {y : Int32 × gz_M} {fu : Nat} {M : gz_M} {a0 : Nat} {a1 : Int32} {x4 : Int32} {j140 : Int32 → Int32 → Option (Int32 × gz_M)} (hC : gz_ok C cX10_changed RX10 11) (hX : gz_cx C 5 132 0 0 (some .int) (some (.int y.1)) y.2 "changed") (hj140 : ∀ (x24 : Int32) (x25 : Int32), j140 x24 x25 = some y → gz_go C 0 0 M [(0, .ref a0), (1, .int a1), (4, .int x24), (5, .int x25)] 140 []) : ∀ (n : Nat) (x7 : Int32) (x8 : Int32) (x9 : Int32) (x10 : Int32), lp_X10_changed_44 j140 fu M a0 a1 x4 n x7 x8 x9 x10 = some y → gz_go C 0 0 M [(0, .ref a0), (1, .int a1), (3, .int x4), (4, .int x7), (5, .int x8), (6, .int x9), (7, .int x10)] 44 [] := by
  intro n
  induction n with
  | zero => intro x7 x8 x9 x10 hF; exact nomatch (show (none : Option (Int32 × gz_M)) = some y from hF)
  | succ n44 ih44 =>
    intro x7 x8 x9 x10 hF
    rw [lp_X10_changed_44.eq_2] at hF
    refine gz_iload 44 hC 6 dX10_changed_44 rfl ?_
    refine gz_aload_n 46 hC 0 dX10_changed_46 rfl rfl ?_
    refine gz_iload_n 47 hC 1 dX10_changed_47 rfl rfl ?_
    refine gz_cvP (st := [.int x10]) 48 hC hX [.int a1] Value.int yl_X10_lastsOf yv_X10_lastsOf q_1229 ⟨Nat.le_of_ble_eq_true rfl, Nat.le_of_ble_eq_true rfl⟩ ⟨_, rfl⟩ (fun r h => ct_X10_lastsOf _ _ fu M a0 a1 r h) rfl rfl (Nat.le_of_ble_eq_true rfl) dX10_changed_48 gz_00 hF (fun x11 hF => ?_)
    refine gz_icmp_ge 51 140 hC dX10_changed_51 (by decide) hF (fun hF => ?_) (fun hF => ?_)
    · skip
      refine gz_sub [0, 1, 3, 4] [(0, .ref a0), (1, .int a1), (4, .int x7), (5, .int x8)] rfl ?_
      exact hj140 _ _ hF
    · skip
      refine gz_iconst 54 hC (0 : Int32) dX10_changed_54 gz_k0 ?_
      refine gz_istore 55 hC [(8, .int (0 : Int32)), (0, .ref a0), (1, .int a1), (3, .int x4), (4, .int x7), (5, .int x8), (6, .int x9), (7, .int x10)] dX10_changed_55 (by decide) rfl ?_
      refine gz_sub [1, 2, 3, 4, 5, 6, 7, 0] [(0, .ref a0), (1, .int a1), (3, .int x4), (4, .int x7), (5, .int x8), (6, .int x9), (7, .int x10), (8, .int (0 : Int32))] rfl ?_
      refine w_X10_changed_57 hC hX ?_ _ _ _ _ _ hF
      intro x21 x22 x23 hF
      refine gz_iinc 134 hC (x10 + (1 : Int32)) 6 [(7, .int (x10 + (1 : Int32))), (0, .ref a0), (1, .int a1), (3, .int x4), (4, .int x21), (5, .int x22), (6, .int x23)] dX10_changed_134 rfl rfl (by decide) rfl ?_
      refine gz_goto 137 44 hC dX10_changed_137 (by decide) ?_
      refine gz_sub [1, 2, 3, 4, 5, 6, 0] [(0, .ref a0), (1, .int a1), (3, .int x4), (4, .int x21), (5, .int x22), (6, .int x23), (7, .int (x10 + (1 : Int32)))] rfl ?_
      exact ih44 _ _ _ _ hF
set_option maxHeartbeats 4000000 in
theorem w_X10_changed_21 {C : gz_C} {y : Int32 × gz_M} {fu : Nat} {M : gz_M} {a0 : Nat} {a1 : Int32} {j146 : Int32 → Option (Int32 × gz_M)} (hC : gz_ok C cX10_changed RX10 11) (hX : gz_cx C 5 132 0 0 (some .int) (some (.int y.1)) y.2 "changed") (hj146 : ∀ (x26 : Int32), j146 x26 = some y → gz_go C 0 0 M [(3, .int x26)] 146 []) : ∀ (n : Nat) (x4 : Int32) (x5 : Int32), lp_X10_changed_21 j146 fu M a0 a1 n x4 x5 = some y → gz_go C 0 0 M [(0, .ref a0), (1, .int a1), (3, .int x4), (4, .int x5)] 21 [] := by
  intro n
  induction n with
  | zero => intro x4 x5 hF; exact nomatch (show (none : Option (Int32 × gz_M)) = some y from hF)
  | succ n21 ih21 =>
    intro x4 x5 hF
    rw [lp_X10_changed_21.eq_2] at hF
    refine gz_iload 21 hC 3 dX10_changed_21 rfl ?_
    refine gz_if_eq 23 146 hC dX10_changed_23 (by decide) hF (fun hF => ?_) (fun hF => ?_)
    · skip
      refine gz_sub [2] [(3, .int x4)] rfl ?_
      exact hj146 _ hF
    · skip
      refine gz_iload_n 26 hC 2 dX10_changed_26 rfl rfl ?_
      refine gz_istore 27 hC [(5, .int x4), (0, .ref a0), (1, .int a1), (3, .int x4), (4, .int x5)] dX10_changed_27 (by decide) rfl ?_
      refine gz_aload_n 29 hC 1 dX10_changed_29 rfl rfl ?_
      refine gz_iload_n 30 hC 2 dX10_changed_30 rfl rfl ?_
      refine gz_iload_n 31 hC 3 dX10_changed_31 rfl rfl ?_
      refine gz_iconst 32 hC (-1 : Int32) dX10_changed_32 gz_km1 ?_
      refine gz_cvP (st := []) 33 hC hX [.int a1, .int x4, .int (-1 : Int32)] Value.int yl_X10_totalOf yv_X10_totalOf q_1391 ⟨Nat.le_of_ble_eq_true rfl, Nat.le_of_ble_eq_true rfl⟩ ⟨_, rfl⟩ (fun r h => ct_X10_totalOf _ _ fu M a0 a1 x4 (-1 : Int32) r h) rfl rfl (Nat.le_of_ble_eq_true rfl) dX10_changed_33 gz_00 hF (fun x6 hF => ?_)
      refine gz_istore 36 hC [(6, .int x6), (5, .int x4), (0, .ref a0), (1, .int a1), (3, .int x4), (4, .int x5)] dX10_changed_36 (by decide) rfl ?_
      refine gz_iconst 38 hC (0 : Int32) dX10_changed_38 gz_k0 ?_
      refine gz_istore 39 hC [(4, .int (0 : Int32)), (6, .int x6), (5, .int x4), (0, .ref a0), (1, .int a1), (3, .int x4)] dX10_changed_39 (by decide) rfl ?_
      refine gz_iconst 41 hC (0 : Int32) dX10_changed_41 gz_k0 ?_
      refine gz_istore 42 hC [(7, .int (0 : Int32)), (4, .int (0 : Int32)), (6, .int x6), (5, .int x4), (0, .ref a0), (1, .int a1), (3, .int x4)] dX10_changed_42 (by decide) rfl ?_
      refine gz_sub [4, 5, 6, 1, 3, 2, 0] [(0, .ref a0), (1, .int a1), (3, .int x4), (4, .int (0 : Int32)), (5, .int x4), (6, .int x6), (7, .int (0 : Int32))] rfl ?_
      refine w_X10_changed_44 hC hX ?_ _ _ _ _ _ hF
      intro x24 x25 hF
      refine gz_iload 140 hC 3 dX10_changed_140 rfl ?_
      refine gz_istore_n 142 hC [(3, .int x25), (0, .ref a0), (1, .int a1), (4, .int x24), (5, .int x25)] dX10_changed_142 rfl (by decide) rfl ?_
      refine gz_goto 143 21 hC dX10_changed_143 (by decide) ?_
      refine gz_sub [1, 2, 0, 3] [(0, .ref a0), (1, .int a1), (3, .int x25), (4, .int x24)] rfl ?_
      exact ih21 _ _ hF
set_option maxHeartbeats 4000000 in
theorem ct_X10_changed (l : Launch) (G : gz_G) (fu : Nat) (M : gz_M) (a0 : Nat) (a1 : Int32) (a2 : Int32) (y : Int32 × gz_M) (hF : f_X10_changed fu M a0 a1 a2 = some y) : gz_ct l yX10_changed cX10_changed 11 (some .int) 5 132 0 0 G [.ref a0, .int a1, .int a2] M (some (.int y.1)) y.2 := by
  refine gz_ct.of (by decide) (Nat.le_of_ble_eq_true rfl) (fun C hC hX => ?_)
  unfold f_X10_changed at hF
  obtain ⟨-, hF⟩ := gz_gd_some hF
  show gz_go C 0 0 M [(0, .ref a0), (1, .int a1), (2, .int a2)] 0 []
  refine gz_aload_n 0 hC 0 dX10_changed_0 rfl rfl ?_
  refine gz_iload_n 1 hC 1 dX10_changed_1 rfl rfl ?_
  refine gz_iload_n 2 hC 2 dX10_changed_2 rfl rfl ?_
  refine gz_cvP (st := []) 3 hC hX [.int a1, .int a2] Value.int yl_X10_isSet yv_X10_isSet q_1375 ⟨Nat.le_of_ble_eq_true rfl, Nat.le_of_ble_eq_true rfl⟩ ⟨_, rfl⟩ (fun r h => ct_X10_isSet _ _ fu M a0 a1 a2 r h) rfl rfl (Nat.le_of_ble_eq_true rfl) dX10_changed_3 gz_00 hF (fun x1 hF => ?_)
  refine gz_if_ne 6 16 hC dX10_changed_6 (by decide) hF (fun hF => ?_) (fun hF => ?_)
  · skip
    refine gz_iload_n 16 hC 2 dX10_changed_16 rfl rfl ?_
    refine gz_istore_n 17 hC [(3, .int a2), (0, .ref a0), (1, .int a1), (2, .int a2)] dX10_changed_17 rfl (by decide) rfl ?_
    refine gz_iconst 18 hC (1 : Int32) dX10_changed_18 gz_k1 ?_
    refine gz_istore 19 hC [(4, .int (1 : Int32)), (3, .int a2), (0, .ref a0), (1, .int a1), (2, .int a2)] dX10_changed_19 (by decide) rfl ?_
    refine gz_sub [2, 3, 1, 0] [(0, .ref a0), (1, .int a1), (3, .int a2), (4, .int (1 : Int32))] rfl ?_
    refine w_X10_changed_21 hC hX ?_ _ _ _ hF
    intro x26 hF
    refine gz_iload_n 146 hC 0 dX10_changed_146 rfl rfl ?_
    exact gz_iretM 147 hC hX dX10_changed_147 hF
  · skip
    refine gz_aload_n 9 hC 0 dX10_changed_9 rfl rfl ?_
    refine gz_bipush 10 hC (-2 : Int32) dX10_changed_10 gz_bm2 ?_
    refine gz_cvM (st := []) 12 hC hX [.int (-2 : Int32)] Value.int yl_X10_refuse yv_X10_refuse q_1175 ⟨Nat.le_of_ble_eq_true rfl, Nat.le_of_ble_eq_true rfl⟩ ⟨_, rfl⟩ (fun r h => ct_X10_refuse _ _ fu M a0 (-2 : Int32) r h) rfl rfl (Nat.le_of_ble_eq_true rfl) dX10_changed_12 gz_00 hF (fun x2 M3 hF => ?_)
    exact gz_iretM 15 hC hX dX10_changed_15 hF

theorem dX10_bound_0 : decode cX10_bound 0 = .ok (.aload_n 0, 1) := by decide +kernel
theorem dX10_bound_1 : decode cX10_bound 1 = .ok (.iload_n 1, 1) := by decide +kernel
theorem dX10_bound_2 : decode cX10_bound 2 = .ok (.invokevirtual 77, 3) := by decide +kernel
theorem dX10_bound_5 : decode cX10_bound 5 = .ok (.ifCond .ne 10, 3) := by decide +kernel
theorem dX10_bound_8 : decode cX10_bound 8 = .ok (.aload_n 0, 1) := by decide +kernel
theorem dX10_bound_9 : decode cX10_bound 9 = .ok (.bipush (-2), 2) := by decide +kernel
theorem dX10_bound_11 : decode cX10_bound 11 = .ok (.invokevirtual 97, 3) := by decide +kernel
theorem dX10_bound_14 : decode cX10_bound 14 = .ok (.ireturn, 1) := by decide +kernel
theorem dX10_bound_15 : decode cX10_bound 15 = .ok (.iconst 0, 1) := by decide +kernel
theorem dX10_bound_16 : decode cX10_bound 16 = .ok (.istore_n 2, 1) := by decide +kernel
theorem dX10_bound_17 : decode cX10_bound 17 = .ok (.iconst 0, 1) := by decide +kernel
theorem dX10_bound_18 : decode cX10_bound 18 = .ok (.istore_n 3, 1) := by decide +kernel
theorem dX10_bound_19 : decode cX10_bound 19 = .ok (.iload_n 3, 1) := by decide +kernel
theorem dX10_bound_20 : decode cX10_bound 20 = .ok (.aload_n 0, 1) := by decide +kernel
theorem dX10_bound_21 : decode cX10_bound 21 = .ok (.iload_n 1, 1) := by decide +kernel
theorem dX10_bound_22 : decode cX10_bound 22 = .ok (.invokevirtual 81, 3) := by decide +kernel
theorem dX10_bound_25 : decode cX10_bound 25 = .ok (.if_icmp .ge 79, 3) := by decide +kernel
theorem dX10_bound_28 : decode cX10_bound 28 = .ok (.aload_n 0, 1) := by decide +kernel
theorem dX10_bound_29 : decode cX10_bound 29 = .ok (.getfield 45, 3) := by decide +kernel
theorem dX10_bound_32 : decode cX10_bound 32 = .ok (.iload_n 1, 1) := by decide +kernel
theorem dX10_bound_33 : decode cX10_bound 33 = .ok (.aaload, 1) := by decide +kernel
theorem dX10_bound_34 : decode cX10_bound 34 = .ok (.iconst 2, 1) := by decide +kernel
theorem dX10_bound_35 : decode cX10_bound 35 = .ok (.iaload, 1) := by decide +kernel
theorem dX10_bound_36 : decode cX10_bound 36 = .ok (.istore 4, 2) := by decide +kernel
theorem dX10_bound_38 : decode cX10_bound 38 = .ok (.aload_n 0, 1) := by decide +kernel
theorem dX10_bound_39 : decode cX10_bound 39 = .ok (.iload_n 1, 1) := by decide +kernel
theorem dX10_bound_40 : decode cX10_bound 40 = .ok (.iload_n 3, 1) := by decide +kernel
theorem dX10_bound_41 : decode cX10_bound 41 = .ok (.aload_n 0, 1) := by decide +kernel
theorem dX10_bound_42 : decode cX10_bound 42 = .ok (.iload_n 1, 1) := by decide +kernel
theorem dX10_bound_43 : decode cX10_bound 43 = .ok (.invokevirtual 88, 3) := by decide +kernel
theorem dX10_bound_46 : decode cX10_bound 46 = .ok (.invokevirtual 230, 3) := by decide +kernel
theorem dX10_bound_49 : decode cX10_bound 49 = .ok (.istore 5, 2) := by decide +kernel
theorem dX10_bound_51 : decode cX10_bound 51 = .ok (.iload 5, 2) := by decide +kernel
theorem dX10_bound_53 : decode cX10_bound 53 = .ok (.iconst (-1), 1) := by decide +kernel
theorem dX10_bound_54 : decode cX10_bound 54 = .ok (.if_icmp .ne 8, 3) := by decide +kernel
theorem dX10_bound_57 : decode cX10_bound 57 = .ok (.iload 4, 2) := by decide +kernel
theorem dX10_bound_59 : decode cX10_bound 59 = .ok (.goto 12, 3) := by decide +kernel
theorem dX10_bound_62 : decode cX10_bound 62 = .ok (.aload_n 0, 1) := by decide +kernel
theorem dX10_bound_63 : decode cX10_bound 63 = .ok (.iload_n 1, 1) := by decide +kernel
theorem dX10_bound_64 : decode cX10_bound 64 = .ok (.iload 5, 2) := by decide +kernel
theorem dX10_bound_66 : decode cX10_bound 66 = .ok (.iload_n 1, 1) := by decide +kernel
theorem dX10_bound_67 : decode cX10_bound 67 = .ok (.iload_n 3, 1) := by decide +kernel
theorem dX10_bound_68 : decode cX10_bound 68 = .ok (.invokevirtual 121, 3) := by decide +kernel
theorem dX10_bound_71 : decode cX10_bound 71 = .ok (.istore 6, 2) := by decide +kernel
theorem dX10_bound_73 : decode cX10_bound 73 = .ok (.iload_n 2, 1) := by decide +kernel
theorem dX10_bound_74 : decode cX10_bound 74 = .ok (.aload_n 0, 1) := by decide +kernel
theorem dX10_bound_75 : decode cX10_bound 75 = .ok (.iload_n 1, 1) := by decide +kernel
theorem dX10_bound_76 : decode cX10_bound 76 = .ok (.iload_n 3, 1) := by decide +kernel
theorem dX10_bound_77 : decode cX10_bound 77 = .ok (.iconst 3, 1) := by decide +kernel
theorem dX10_bound_78 : decode cX10_bound 78 = .ok (.invokevirtual 114, 3) := by decide +kernel
theorem dX10_bound_81 : decode cX10_bound 81 = .ok (.iload 6, 2) := by decide +kernel
theorem dX10_bound_83 : decode cX10_bound 83 = .ok (.iload 4, 2) := by decide +kernel
theorem dX10_bound_85 : decode cX10_bound 85 = .ok (.if_icmp .ge 8, 3) := by decide +kernel
theorem dX10_bound_88 : decode cX10_bound 88 = .ok (.iload 6, 2) := by decide +kernel
theorem dX10_bound_90 : decode cX10_bound 90 = .ok (.goto 5, 3) := by decide +kernel
theorem dX10_bound_93 : decode cX10_bound 93 = .ok (.iload 4, 2) := by decide +kernel
theorem dX10_bound_95 : decode cX10_bound 95 = .ok (.imul, 1) := by decide +kernel
theorem dX10_bound_96 : decode cX10_bound 96 = .ok (.iadd, 1) := by decide +kernel
theorem dX10_bound_97 : decode cX10_bound 97 = .ok (.istore_n 2, 1) := by decide +kernel
theorem dX10_bound_98 : decode cX10_bound 98 = .ok (.iinc 3 1, 3) := by decide +kernel
theorem dX10_bound_101 : decode cX10_bound 101 = .ok (.goto (-82), 3) := by decide +kernel
theorem dX10_bound_104 : decode cX10_bound 104 = .ok (.iload_n 2, 1) := by decide +kernel
theorem dX10_bound_105 : decode cX10_bound 105 = .ok (.ireturn, 1) := by decide +kernel
def lp_X10_bound_19 (j104 : Int32 → Option (Int32 × gz_M)) (fu : Nat) (M : gz_M) (a0 : Nat) (a1 : Int32) : Nat → Int32 → Int32 → Option (Int32 × gz_M)
  | 0, _, _ => none
  | n19 + 1, x4, x5 =>
    (f_X10_feetOf fu M a0 a1).bind fun x6 =>
    if x6 ≤ x5 then
      j104 x4
    else
      (gz_gR M 10 12 a0).bind fun x7 =>
      (gz_aR M x7 a1).bind fun x8 =>
      (gz_aI M x8 (2 : Int32)).bind fun x9 =>
      (f_X10_all fu M a0 a1).bind fun x10 =>
      (f_X10_ownOf fu M a0 a1 x5 x10).bind fun x11 =>
      gz_jn (fun (x13 : Int32) =>
      (f_X10_of fu M a0 a1 x5 (3 : Int32)).bind fun x14 =>
        gz_jn (fun (x15 : Int32) =>
        lp_X10_bound_19 j104 fu M a0 a1 n19 (x4 + (x14 * x15)) (x5 + (1 : Int32))) fun j95 =>
        if x9 ≤ x13 then
          j95 x9
        else
          j95 x13) fun j71 =>
      if x11 = (-1 : Int32) then
        j71 x9
      else
        (f_X10_badOf fu M a0 a1 x11 a1 x5).bind fun x12 =>
        j71 x12
def f_X10_bound (fu : Nat) (M : gz_M) (a0 : Nat) (a1 : Int32) : Option (Int32 × gz_M) :=
  gz_gd M 10 a0 <|
  (f_X10_isValley fu M a0 a1).bind fun x1 =>
  if x1 = 0 then
    gz_b2 (f_X10_refuse fu M a0 (-2 : Int32)) fun x2 M3 =>
    some (x2, M3)
  else
    lp_X10_bound_19 (fun (x16 : Int32) => some (x16, M)) fu M a0 a1 fu (0 : Int32) (0 : Int32)
set_option maxHeartbeats 4000000 in
theorem w_X10_bound_19 {C : gz_C} {y : Int32 × gz_M} {fu : Nat} {M : gz_M} {a0 : Nat} {a1 : Int32} {j104 : Int32 → Option (Int32 × gz_M)} (hC : gz_ok C cX10_bound RX10 7) (hX : gz_cx C 3 83 0 0 (some .int) (some (.int y.1)) y.2 "bound") (hj104 : ∀ (x16 : Int32), j104 x16 = some y → gz_go C 0 0 M [(2, .int x16)] 104 []) : ∀ (n : Nat) (x4 : Int32) (x5 : Int32), lp_X10_bound_19 j104 fu M a0 a1 n x4 x5 = some y → gz_go C 0 0 M [(0, .ref a0), (1, .int a1), (2, .int x4), (3, .int x5)] 19 [] := by
  intro n
  induction n with
  | zero => intro x4 x5 hF; exact nomatch (show (none : Option (Int32 × gz_M)) = some y from hF)
  | succ n19 ih19 =>
    intro x4 x5 hF
    rw [lp_X10_bound_19.eq_2] at hF
    refine gz_iload_n 19 hC 3 dX10_bound_19 rfl rfl ?_
    refine gz_aload_n 20 hC 0 dX10_bound_20 rfl rfl ?_
    refine gz_iload_n 21 hC 1 dX10_bound_21 rfl rfl ?_
    refine gz_cvP (st := [.int x5]) 22 hC hX [.int a1] Value.int yl_X10_feetOf yv_X10_feetOf q_1221 ⟨Nat.le_of_ble_eq_true rfl, Nat.le_of_ble_eq_true rfl⟩ ⟨_, rfl⟩ (fun r h => ct_X10_feetOf _ _ fu M a0 a1 r h) rfl rfl (Nat.le_of_ble_eq_true rfl) dX10_bound_22 gz_00 hF (fun x6 hF => ?_)
    refine gz_icmp_ge 25 104 hC dX10_bound_25 (by decide) hF (fun hF => ?_) (fun hF => ?_)
    · skip
      refine gz_sub [2] [(2, .int x4)] rfl ?_
      exact hj104 _ hF
    · skip
      refine gz_aload_n 28 hC 0 dX10_bound_28 rfl rfl ?_
      refine gz_getR 29 hC fl_X10_45 fk_10_12 dX10_bound_29 hF (fun x7 hF => ?_)
      refine gz_iload_n 32 hC 1 dX10_bound_32 rfl rfl ?_
      refine gz_aald 33 hC dX10_bound_33 hF (fun x8 hF => ?_)
      refine gz_iconst 34 hC (2 : Int32) dX10_bound_34 gz_k2 ?_
      refine gz_iald 35 hC dX10_bound_35 hF (fun x9 hF => ?_)
      refine gz_istore 36 hC [(4, .int x9), (0, .ref a0), (1, .int a1), (2, .int x4), (3, .int x5)] dX10_bound_36 (by decide) rfl ?_
      refine gz_aload_n 38 hC 1 dX10_bound_38 rfl rfl ?_
      refine gz_iload_n 39 hC 2 dX10_bound_39 rfl rfl ?_
      refine gz_iload_n 40 hC 4 dX10_bound_40 rfl rfl ?_
      refine gz_aload_n 41 hC 1 dX10_bound_41 rfl rfl ?_
      refine gz_iload_n 42 hC 2 dX10_bound_42 rfl rfl ?_
      refine gz_cvP (st := [.int x5, .int a1, .ref a0]) 43 hC hX [.int a1] Value.int yl_X10_all yv_X10_all q_1379 ⟨Nat.le_of_ble_eq_true rfl, Nat.le_of_ble_eq_true rfl⟩ ⟨_, rfl⟩ (fun r h => ct_X10_all _ _ fu M a0 a1 r h) rfl rfl (Nat.le_of_ble_eq_true rfl) dX10_bound_43 gz_00 hF (fun x10 hF => ?_)
      refine gz_cvP (st := []) 46 hC hX [.int a1, .int x5, .int x10] Value.int yl_X10_ownOf yv_X10_ownOf q_1383 ⟨Nat.le_of_ble_eq_true rfl, Nat.le_of_ble_eq_true rfl⟩ ⟨_, rfl⟩ (fun r h => ct_X10_ownOf _ _ fu M a0 a1 x5 x10 r h) rfl rfl (Nat.le_of_ble_eq_true rfl) dX10_bound_46 gz_00 hF (fun x11 hF => ?_)
      refine gz_istore 49 hC [(5, .int x11), (4, .int x9), (0, .ref a0), (1, .int a1), (2, .int x4), (3, .int x5)] dX10_bound_49 (by decide) rfl ?_
      refine gz_iload 51 hC 0 dX10_bound_51 rfl ?_
      refine gz_iconst 53 hC (-1 : Int32) dX10_bound_53 gz_km1 ?_
      refine gz_join (fun (j : Int32 → Option (Int32 × gz_M)) => ∀ (x13 : Int32), j x13 = some y → gz_go C 0 0 M [(0, .ref a0), (1, .int a1), (2, .int x4), (3, .int x5), (4, .int x9)] 71 [.int x13]) hF (fun x13 hF => ?_) (fun j71 hj71 hF => ?_)
      · skip
        refine gz_istore 71 hC [(6, .int x13), (0, .ref a0), (1, .int a1), (2, .int x4), (3, .int x5), (4, .int x9)] dX10_bound_71 (by decide) rfl ?_
        refine gz_iload_n 73 hC 3 dX10_bound_73 rfl rfl ?_
        refine gz_aload_n 74 hC 1 dX10_bound_74 rfl rfl ?_
        refine gz_iload_n 75 hC 2 dX10_bound_75 rfl rfl ?_
        refine gz_iload_n 76 hC 4 dX10_bound_76 rfl rfl ?_
        refine gz_iconst 77 hC (3 : Int32) dX10_bound_77 gz_k3 ?_
        refine gz_cvP (st := [.int x4]) 78 hC hX [.int a1, .int x5, .int (3 : Int32)] Value.int yl_X10_of yv_X10_of q_1241 ⟨Nat.le_of_ble_eq_true rfl, Nat.le_of_ble_eq_true rfl⟩ ⟨_, rfl⟩ (fun r h => ct_X10_of _ _ fu M a0 a1 x5 (3 : Int32) r h) rfl rfl (Nat.le_of_ble_eq_true rfl) dX10_bound_78 gz_00 hF (fun x14 hF => ?_)
        refine gz_iload 81 hC 0 dX10_bound_81 rfl ?_
        refine gz_iload 83 hC 5 dX10_bound_83 rfl ?_
        refine gz_join (fun (j : Int32 → Option (Int32 × gz_M)) => ∀ (x15 : Int32), j x15 = some y → gz_go C 0 0 M [(0, .ref a0), (1, .int a1), (3, .int x5)] 95 [.int x15, .int x14, .int x4]) hF (fun x15 hF => ?_) (fun j95 hj95 hF => ?_)
        · skip
          refine gz_imul 95 hC dX10_bound_95 ?_
          refine gz_iadd 96 hC dX10_bound_96 ?_
          refine gz_istore_n 97 hC [(2, .int (x4 + (x14 * x15))), (0, .ref a0), (1, .int a1), (3, .int x5)] dX10_bound_97 rfl (by decide) rfl ?_
          refine gz_iinc 98 hC (x5 + (1 : Int32)) 3 [(3, .int (x5 + (1 : Int32))), (2, .int (x4 + (x14 * x15))), (0, .ref a0), (1, .int a1)] dX10_bound_98 rfl rfl (by decide) rfl ?_
          refine gz_goto 101 19 hC dX10_bound_101 (by decide) ?_
          refine gz_sub [2, 3, 1, 0] [(0, .ref a0), (1, .int a1), (2, .int (x4 + (x14 * x15))), (3, .int (x5 + (1 : Int32)))] rfl ?_
          exact ih19 _ _ hF
        refine gz_icmp_ge 85 93 hC dX10_bound_85 (by decide) hF (fun hF => ?_) (fun hF => ?_)
        · skip
          refine gz_iload 93 hC 5 dX10_bound_93 rfl ?_
          refine gz_sub [1, 2, 4] [(0, .ref a0), (1, .int a1), (3, .int x5)] rfl ?_
          exact hj95 _ hF
        · skip
          refine gz_iload 88 hC 0 dX10_bound_88 rfl ?_
          refine gz_goto 90 95 hC dX10_bound_90 (by decide) ?_
          refine gz_sub [1, 2, 4] [(0, .ref a0), (1, .int a1), (3, .int x5)] rfl ?_
          exact hj95 _ hF
      refine gz_icmp_ne 54 62 hC dX10_bound_54 (by decide) hF (fun hF => ?_) (fun hF => ?_)
      · skip
        refine gz_aload_n 62 hC 2 dX10_bound_62 rfl rfl ?_
        refine gz_iload_n 63 hC 3 dX10_bound_63 rfl rfl ?_
        refine gz_iload 64 hC 0 dX10_bound_64 rfl ?_
        refine gz_iload_n 66 hC 3 dX10_bound_66 rfl rfl ?_
        refine gz_iload_n 67 hC 5 dX10_bound_67 rfl rfl ?_
        refine gz_cvP (st := []) 68 hC hX [.int a1, .int x11, .int a1, .int x5] Value.int yl_X10_badOf yv_X10_badOf q_1249 ⟨Nat.le_of_ble_eq_true rfl, Nat.le_of_ble_eq_true rfl⟩ ⟨_, rfl⟩ (fun r h => ct_X10_badOf _ _ fu M a0 a1 x11 a1 x5 r h) rfl rfl (Nat.le_of_ble_eq_true rfl) dX10_bound_68 gz_00 hF (fun x12 hF => ?_)
        refine gz_sub [2, 3, 4, 5, 1] [(0, .ref a0), (1, .int a1), (2, .int x4), (3, .int x5), (4, .int x9)] rfl ?_
        exact hj71 _ hF
      · skip
        refine gz_iload 57 hC 1 dX10_bound_57 rfl ?_
        refine gz_goto 59 71 hC dX10_bound_59 (by decide) ?_
        refine gz_sub [2, 3, 4, 5, 1] [(0, .ref a0), (1, .int a1), (2, .int x4), (3, .int x5), (4, .int x9)] rfl ?_
        exact hj71 _ hF
set_option maxHeartbeats 4000000 in
theorem ct_X10_bound (l : Launch) (G : gz_G) (fu : Nat) (M : gz_M) (a0 : Nat) (a1 : Int32) (y : Int32 × gz_M) (hF : f_X10_bound fu M a0 a1 = some y) : gz_ct l yX10_bound cX10_bound 7 (some .int) 3 83 0 0 G [.ref a0, .int a1] M (some (.int y.1)) y.2 := by
  refine gz_ct.of (by decide) (Nat.le_of_ble_eq_true rfl) (fun C hC hX => ?_)
  unfold f_X10_bound at hF
  obtain ⟨-, hF⟩ := gz_gd_some hF
  show gz_go C 0 0 M [(0, .ref a0), (1, .int a1)] 0 []
  refine gz_aload_n 0 hC 0 dX10_bound_0 rfl rfl ?_
  refine gz_iload_n 1 hC 1 dX10_bound_1 rfl rfl ?_
  refine gz_cvP (st := []) 2 hC hX [.int a1] Value.int yl_X10_isValley yv_X10_isValley q_1217 ⟨Nat.le_of_ble_eq_true rfl, Nat.le_of_ble_eq_true rfl⟩ ⟨_, rfl⟩ (fun r h => ct_X10_isValley _ _ fu M a0 a1 r h) rfl rfl (Nat.le_of_ble_eq_true rfl) dX10_bound_2 gz_00 hF (fun x1 hF => ?_)
  refine gz_if_ne 5 15 hC dX10_bound_5 (by decide) hF (fun hF => ?_) (fun hF => ?_)
  · skip
    refine gz_iconst 15 hC (0 : Int32) dX10_bound_15 gz_k0 ?_
    refine gz_istore_n 16 hC [(2, .int (0 : Int32)), (0, .ref a0), (1, .int a1)] dX10_bound_16 rfl (by decide) rfl ?_
    refine gz_iconst 17 hC (0 : Int32) dX10_bound_17 gz_k0 ?_
    refine gz_istore_n 18 hC [(3, .int (0 : Int32)), (2, .int (0 : Int32)), (0, .ref a0), (1, .int a1)] dX10_bound_18 rfl (by decide) rfl ?_
    refine gz_sub [2, 3, 1, 0] [(0, .ref a0), (1, .int a1), (2, .int (0 : Int32)), (3, .int (0 : Int32))] rfl ?_
    refine w_X10_bound_19 hC hX ?_ _ _ _ hF
    intro x16 hF
    refine gz_iload_n 104 hC 0 dX10_bound_104 rfl rfl ?_
    exact gz_iretM 105 hC hX dX10_bound_105 hF
  · skip
    refine gz_aload_n 8 hC 0 dX10_bound_8 rfl rfl ?_
    refine gz_bipush 9 hC (-2 : Int32) dX10_bound_9 gz_bm2 ?_
    refine gz_cvM (st := []) 11 hC hX [.int (-2 : Int32)] Value.int yl_X10_refuse yv_X10_refuse q_1175 ⟨Nat.le_of_ble_eq_true rfl, Nat.le_of_ble_eq_true rfl⟩ ⟨_, rfl⟩ (fun r h => ct_X10_refuse _ _ fu M a0 (-2 : Int32) r h) rfl rfl (Nat.le_of_ble_eq_true rfl) dX10_bound_11 gz_00 hF (fun x2 M3 hF => ?_)
    exact gz_iretM 14 hC hX dX10_bound_14 hF

theorem dX10_worstOf_0 : decode cX10_worstOf 0 = .ok (.iconst 0, 1) := by decide +kernel
theorem dX10_worstOf_1 : decode cX10_worstOf 1 = .ok (.istore_n 3, 1) := by decide +kernel
theorem dX10_worstOf_2 : decode cX10_worstOf 2 = .ok (.iconst 0, 1) := by decide +kernel
theorem dX10_worstOf_3 : decode cX10_worstOf 3 = .ok (.istore 4, 2) := by decide +kernel
theorem dX10_worstOf_5 : decode cX10_worstOf 5 = .ok (.iload 4, 2) := by decide +kernel
theorem dX10_worstOf_7 : decode cX10_worstOf 7 = .ok (.aload_n 0, 1) := by decide +kernel
theorem dX10_worstOf_8 : decode cX10_worstOf 8 = .ok (.iload_n 1, 1) := by decide +kernel
theorem dX10_worstOf_9 : decode cX10_worstOf 9 = .ok (.invokevirtual 81, 3) := by decide +kernel
theorem dX10_worstOf_12 : decode cX10_worstOf 12 = .ok (.if_icmp .ge 52, 3) := by decide +kernel
theorem dX10_worstOf_15 : decode cX10_worstOf 15 = .ok (.aload_n 0, 1) := by decide +kernel
theorem dX10_worstOf_16 : decode cX10_worstOf 16 = .ok (.iload_n 1, 1) := by decide +kernel
theorem dX10_worstOf_17 : decode cX10_worstOf 17 = .ok (.iload 4, 2) := by decide +kernel
theorem dX10_worstOf_19 : decode cX10_worstOf 19 = .ok (.iload_n 2, 1) := by decide +kernel
theorem dX10_worstOf_20 : decode cX10_worstOf 20 = .ok (.invokevirtual 230, 3) := by decide +kernel
theorem dX10_worstOf_23 : decode cX10_worstOf 23 = .ok (.istore 5, 2) := by decide +kernel
theorem dX10_worstOf_25 : decode cX10_worstOf 25 = .ok (.iload 5, 2) := by decide +kernel
theorem dX10_worstOf_27 : decode cX10_worstOf 27 = .ok (.iconst (-1), 1) := by decide +kernel
theorem dX10_worstOf_28 : decode cX10_worstOf 28 = .ok (.if_icmp .ne 5, 3) := by decide +kernel
theorem dX10_worstOf_31 : decode cX10_worstOf 31 = .ok (.iconst (-1), 1) := by decide +kernel
theorem dX10_worstOf_32 : decode cX10_worstOf 32 = .ok (.ireturn, 1) := by decide +kernel
theorem dX10_worstOf_33 : decode cX10_worstOf 33 = .ok (.aload_n 0, 1) := by decide +kernel
theorem dX10_worstOf_34 : decode cX10_worstOf 34 = .ok (.iload_n 1, 1) := by decide +kernel
theorem dX10_worstOf_35 : decode cX10_worstOf 35 = .ok (.iload 5, 2) := by decide +kernel
theorem dX10_worstOf_37 : decode cX10_worstOf 37 = .ok (.iload_n 1, 1) := by decide +kernel
theorem dX10_worstOf_38 : decode cX10_worstOf 38 = .ok (.iload 4, 2) := by decide +kernel
theorem dX10_worstOf_40 : decode cX10_worstOf 40 = .ok (.invokevirtual 121, 3) := by decide +kernel
theorem dX10_worstOf_43 : decode cX10_worstOf 43 = .ok (.istore 6, 2) := by decide +kernel
theorem dX10_worstOf_45 : decode cX10_worstOf 45 = .ok (.iload 6, 2) := by decide +kernel
theorem dX10_worstOf_47 : decode cX10_worstOf 47 = .ok (.iload_n 3, 1) := by decide +kernel
theorem dX10_worstOf_48 : decode cX10_worstOf 48 = .ok (.if_icmp .le 8, 3) := by decide +kernel
theorem dX10_worstOf_51 : decode cX10_worstOf 51 = .ok (.iload 6, 2) := by decide +kernel
theorem dX10_worstOf_53 : decode cX10_worstOf 53 = .ok (.goto 4, 3) := by decide +kernel
theorem dX10_worstOf_56 : decode cX10_worstOf 56 = .ok (.iload_n 3, 1) := by decide +kernel
theorem dX10_worstOf_57 : decode cX10_worstOf 57 = .ok (.istore_n 3, 1) := by decide +kernel
theorem dX10_worstOf_58 : decode cX10_worstOf 58 = .ok (.iinc 4 1, 3) := by decide +kernel
theorem dX10_worstOf_61 : decode cX10_worstOf 61 = .ok (.goto (-56), 3) := by decide +kernel
theorem dX10_worstOf_64 : decode cX10_worstOf 64 = .ok (.iload_n 3, 1) := by decide +kernel
theorem dX10_worstOf_65 : decode cX10_worstOf 65 = .ok (.ireturn, 1) := by decide +kernel
def lp_X10_worstOf_5 (j64 : Int32 → Option (Int32)) (fu : Nat) (M : gz_M) (a0 : Nat) (a1 : Int32) (a2 : Int32) : Nat → Int32 → Int32 → Option (Int32)
  | 0, _, _ => none
  | n5 + 1, x1, x2 =>
    (f_X10_feetOf fu M a0 a1).bind fun x3 =>
    if x3 ≤ x2 then
      j64 x1
    else
      (f_X10_ownOf fu M a0 a1 x2 a2).bind fun x4 =>
      if x4 = (-1 : Int32) then
        some (-1 : Int32)
      else
        (f_X10_badOf fu M a0 a1 x4 a1 x2).bind fun x5 =>
        gz_jn (fun (x6 : Int32) =>
        lp_X10_worstOf_5 j64 fu M a0 a1 a2 n5 x6 (x2 + (1 : Int32))) fun j57 =>
        if x5 ≤ x1 then
          j57 x1
        else
          j57 x5
def f_X10_worstOf (fu : Nat) (M : gz_M) (a0 : Nat) (a1 : Int32) (a2 : Int32) : Option (Int32) :=
  gz_gd M 10 a0 <|
  lp_X10_worstOf_5 (fun (x7 : Int32) => some x7) fu M a0 a1 a2 fu (0 : Int32) (0 : Int32)
set_option maxHeartbeats 4000000 in
theorem w_X10_worstOf_5 {C : gz_C} {y : Int32} {fu : Nat} {M : gz_M} {a0 : Nat} {a1 : Int32} {a2 : Int32} {j64 : Int32 → Option (Int32)} (hC : gz_ok C cX10_worstOf RX10 7) (hX : gz_cx C 3 83 0 0 (some .int) (some (.int y)) M "worstOf") (hj64 : ∀ (x7 : Int32), j64 x7 = some y → gz_go C 0 0 M [(3, .int x7)] 64 []) : ∀ (n : Nat) (x1 : Int32) (x2 : Int32), lp_X10_worstOf_5 j64 fu M a0 a1 a2 n x1 x2 = some y → gz_go C 0 0 M [(0, .ref a0), (1, .int a1), (2, .int a2), (3, .int x1), (4, .int x2)] 5 [] := by
  intro n
  induction n with
  | zero => intro x1 x2 hF; exact nomatch (show (none : Option (Int32)) = some y from hF)
  | succ n5 ih5 =>
    intro x1 x2 hF
    rw [lp_X10_worstOf_5.eq_2] at hF
    refine gz_iload 5 hC 4 dX10_worstOf_5 rfl ?_
    refine gz_aload_n 7 hC 0 dX10_worstOf_7 rfl rfl ?_
    refine gz_iload_n 8 hC 1 dX10_worstOf_8 rfl rfl ?_
    refine gz_cvP (st := [.int x2]) 9 hC hX [.int a1] Value.int yl_X10_feetOf yv_X10_feetOf q_1221 ⟨Nat.le_of_ble_eq_true rfl, Nat.le_of_ble_eq_true rfl⟩ ⟨_, rfl⟩ (fun r h => ct_X10_feetOf _ _ fu M a0 a1 r h) rfl rfl (Nat.le_of_ble_eq_true rfl) dX10_worstOf_9 gz_00 hF (fun x3 hF => ?_)
    refine gz_icmp_ge 12 64 hC dX10_worstOf_12 (by decide) hF (fun hF => ?_) (fun hF => ?_)
    · skip
      refine gz_sub [3] [(3, .int x1)] rfl ?_
      exact hj64 _ hF
    · skip
      refine gz_aload_n 15 hC 0 dX10_worstOf_15 rfl rfl ?_
      refine gz_iload_n 16 hC 1 dX10_worstOf_16 rfl rfl ?_
      refine gz_iload 17 hC 4 dX10_worstOf_17 rfl ?_
      refine gz_iload_n 19 hC 2 dX10_worstOf_19 rfl rfl ?_
      refine gz_cvP (st := []) 20 hC hX [.int a1, .int x2, .int a2] Value.int yl_X10_ownOf yv_X10_ownOf q_1383 ⟨Nat.le_of_ble_eq_true rfl, Nat.le_of_ble_eq_true rfl⟩ ⟨_, rfl⟩ (fun r h => ct_X10_ownOf _ _ fu M a0 a1 x2 a2 r h) rfl rfl (Nat.le_of_ble_eq_true rfl) dX10_worstOf_20 gz_00 hF (fun x4 hF => ?_)
      refine gz_istore 23 hC [(5, .int x4), (0, .ref a0), (1, .int a1), (2, .int a2), (3, .int x1), (4, .int x2)] dX10_worstOf_23 (by decide) rfl ?_
      refine gz_iload 25 hC 0 dX10_worstOf_25 rfl ?_
      refine gz_iconst 27 hC (-1 : Int32) dX10_worstOf_27 gz_km1 ?_
      refine gz_icmp_ne 28 33 hC dX10_worstOf_28 (by decide) hF (fun hF => ?_) (fun hF => ?_)
      · skip
        refine gz_aload_n 33 hC 1 dX10_worstOf_33 rfl rfl ?_
        refine gz_iload_n 34 hC 2 dX10_worstOf_34 rfl rfl ?_
        refine gz_iload 35 hC 0 dX10_worstOf_35 rfl ?_
        refine gz_iload_n 37 hC 2 dX10_worstOf_37 rfl rfl ?_
        refine gz_iload 38 hC 5 dX10_worstOf_38 rfl ?_
        refine gz_cvP (st := []) 40 hC hX [.int a1, .int x4, .int a1, .int x2] Value.int yl_X10_badOf yv_X10_badOf q_1249 ⟨Nat.le_of_ble_eq_true rfl, Nat.le_of_ble_eq_true rfl⟩ ⟨_, rfl⟩ (fun r h => ct_X10_badOf _ _ fu M a0 a1 x4 a1 x2 r h) rfl rfl (Nat.le_of_ble_eq_true rfl) dX10_worstOf_40 gz_00 hF (fun x5 hF => ?_)
        refine gz_istore 43 hC [(6, .int x5), (5, .int x4), (0, .ref a0), (1, .int a1), (2, .int a2), (3, .int x1), (4, .int x2)] dX10_worstOf_43 (by decide) rfl ?_
        refine gz_iload 45 hC 0 dX10_worstOf_45 rfl ?_
        refine gz_iload_n 47 hC 5 dX10_worstOf_47 rfl rfl ?_
        refine gz_join (fun (j : Int32 → Option (Int32)) => ∀ (x6 : Int32), j x6 = some y → gz_go C 0 0 M [(0, .ref a0), (1, .int a1), (2, .int a2), (4, .int x2)] 57 [.int x6]) hF (fun x6 hF => ?_) (fun j57 hj57 hF => ?_)
        · skip
          refine gz_istore_n 57 hC [(3, .int x6), (0, .ref a0), (1, .int a1), (2, .int a2), (4, .int x2)] dX10_worstOf_57 rfl (by decide) rfl ?_
          refine gz_iinc 58 hC (x2 + (1 : Int32)) 4 [(4, .int (x2 + (1 : Int32))), (3, .int x6), (0, .ref a0), (1, .int a1), (2, .int a2)] dX10_worstOf_58 rfl rfl (by decide) rfl ?_
          refine gz_goto 61 5 hC dX10_worstOf_61 (by decide) ?_
          refine gz_sub [2, 3, 4, 1, 0] [(0, .ref a0), (1, .int a1), (2, .int a2), (3, .int x6), (4, .int (x2 + (1 : Int32)))] rfl ?_
          exact ih5 _ _ hF
        refine gz_icmp_le 48 56 hC dX10_worstOf_48 (by decide) hF (fun hF => ?_) (fun hF => ?_)
        · skip
          refine gz_iload_n 56 hC 5 dX10_worstOf_56 rfl rfl ?_
          refine gz_sub [2, 3, 4, 6] [(0, .ref a0), (1, .int a1), (2, .int a2), (4, .int x2)] rfl ?_
          exact hj57 _ hF
        · skip
          refine gz_iload 51 hC 0 dX10_worstOf_51 rfl ?_
          refine gz_goto 53 57 hC dX10_worstOf_53 (by decide) ?_
          refine gz_sub [2, 3, 4, 6] [(0, .ref a0), (1, .int a1), (2, .int a2), (4, .int x2)] rfl ?_
          exact hj57 _ hF
      · skip
        refine gz_iconst 31 hC (-1 : Int32) dX10_worstOf_31 gz_km1 ?_
        exact gz_iretP 32 hC hX dX10_worstOf_32 hF
set_option maxHeartbeats 4000000 in
theorem ct_X10_worstOf (l : Launch) (G : gz_G) (fu : Nat) (M : gz_M) (a0 : Nat) (a1 : Int32) (a2 : Int32) (y : Int32) (hF : f_X10_worstOf fu M a0 a1 a2 = some y) : gz_ct l yX10_worstOf cX10_worstOf 7 (some .int) 3 83 0 0 G [.ref a0, .int a1, .int a2] M (some (.int y)) M := by
  refine gz_ct.of (by decide) (Nat.le_of_ble_eq_true rfl) (fun C hC hX => ?_)
  unfold f_X10_worstOf at hF
  obtain ⟨-, hF⟩ := gz_gd_some hF
  show gz_go C 0 0 M [(0, .ref a0), (1, .int a1), (2, .int a2)] 0 []
  refine gz_iconst 0 hC (0 : Int32) dX10_worstOf_0 gz_k0 ?_
  refine gz_istore_n 1 hC [(3, .int (0 : Int32)), (0, .ref a0), (1, .int a1), (2, .int a2)] dX10_worstOf_1 rfl (by decide) rfl ?_
  refine gz_iconst 2 hC (0 : Int32) dX10_worstOf_2 gz_k0 ?_
  refine gz_istore 3 hC [(4, .int (0 : Int32)), (3, .int (0 : Int32)), (0, .ref a0), (1, .int a1), (2, .int a2)] dX10_worstOf_3 (by decide) rfl ?_
  refine gz_sub [2, 3, 4, 1, 0] [(0, .ref a0), (1, .int a1), (2, .int a2), (3, .int (0 : Int32)), (4, .int (0 : Int32))] rfl ?_
  refine w_X10_worstOf_5 hC hX ?_ _ _ _ hF
  intro x7 hF
  refine gz_iload_n 64 hC 0 dX10_worstOf_64 rfl rfl ?_
  exact gz_iretP 65 hC hX dX10_worstOf_65 hF

theorem dX10_fair_0 : decode cX10_fair 0 = .ok (.aload_n 0, 1) := by decide +kernel
theorem dX10_fair_1 : decode cX10_fair 1 = .ok (.iload_n 1, 1) := by decide +kernel
theorem dX10_fair_2 : decode cX10_fair 2 = .ok (.iload_n 2, 1) := by decide +kernel
theorem dX10_fair_3 : decode cX10_fair 3 = .ok (.bipush 10, 2) := by decide +kernel
theorem dX10_fair_5 : decode cX10_fair 5 = .ok (.invokevirtual 248, 3) := by decide +kernel
theorem dX10_fair_8 : decode cX10_fair 8 = .ok (.ifCond .ne 10, 3) := by decide +kernel
theorem dX10_fair_11 : decode cX10_fair 11 = .ok (.aload_n 0, 1) := by decide +kernel
theorem dX10_fair_12 : decode cX10_fair 12 = .ok (.bipush (-2), 2) := by decide +kernel
theorem dX10_fair_14 : decode cX10_fair 14 = .ok (.invokevirtual 97, 3) := by decide +kernel
theorem dX10_fair_17 : decode cX10_fair 17 = .ok (.ireturn, 1) := by decide +kernel
theorem dX10_fair_18 : decode cX10_fair 18 = .ok (.iconst (-1), 1) := by decide +kernel
theorem dX10_fair_19 : decode cX10_fair 19 = .ok (.istore_n 3, 1) := by decide +kernel
theorem dX10_fair_20 : decode cX10_fair 20 = .ok (.iconst 0, 1) := by decide +kernel
theorem dX10_fair_21 : decode cX10_fair 21 = .ok (.istore 4, 2) := by decide +kernel
theorem dX10_fair_23 : decode cX10_fair 23 = .ok (.iconst 0, 1) := by decide +kernel
theorem dX10_fair_24 : decode cX10_fair 24 = .ok (.istore 5, 2) := by decide +kernel
theorem dX10_fair_26 : decode cX10_fair 26 = .ok (.iconst 0, 1) := by decide +kernel
theorem dX10_fair_27 : decode cX10_fair 27 = .ok (.istore 6, 2) := by decide +kernel
theorem dX10_fair_29 : decode cX10_fair 29 = .ok (.iload 6, 2) := by decide +kernel
theorem dX10_fair_31 : decode cX10_fair 31 = .ok (.aload_n 0, 1) := by decide +kernel
theorem dX10_fair_32 : decode cX10_fair 32 = .ok (.iload_n 1, 1) := by decide +kernel
theorem dX10_fair_33 : decode cX10_fair 33 = .ok (.invokevirtual 88, 3) := by decide +kernel
theorem dX10_fair_36 : decode cX10_fair 36 = .ok (.if_icmp .gt 84, 3) := by decide +kernel
theorem dX10_fair_39 : decode cX10_fair 39 = .ok (.iload 6, 2) := by decide +kernel
theorem dX10_fair_41 : decode cX10_fair 41 = .ok (.invokestatic 245, 3) := by decide +kernel
theorem dX10_fair_44 : decode cX10_fair 44 = .ok (.iload_n 2, 1) := by decide +kernel
theorem dX10_fair_45 : decode cX10_fair 45 = .ok (.if_icmp .gt 13, 3) := by decide +kernel
theorem dX10_fair_48 : decode cX10_fair 48 = .ok (.aload_n 0, 1) := by decide +kernel
theorem dX10_fair_49 : decode cX10_fair 49 = .ok (.iload_n 1, 1) := by decide +kernel
theorem dX10_fair_50 : decode cX10_fair 50 = .ok (.iload 6, 2) := by decide +kernel
theorem dX10_fair_52 : decode cX10_fair 52 = .ok (.invokevirtual 258, 3) := by decide +kernel
theorem dX10_fair_55 : decode cX10_fair 55 = .ok (.goto 4, 3) := by decide +kernel
theorem dX10_fair_58 : decode cX10_fair 58 = .ok (.iconst (-1), 1) := by decide +kernel
theorem dX10_fair_59 : decode cX10_fair 59 = .ok (.istore 7, 2) := by decide +kernel
theorem dX10_fair_61 : decode cX10_fair 61 = .ok (.iload 7, 2) := by decide +kernel
theorem dX10_fair_63 : decode cX10_fair 63 = .ok (.iconst (-1), 1) := by decide +kernel
theorem dX10_fair_64 : decode cX10_fair 64 = .ok (.if_icmp .eq 50, 3) := by decide +kernel
theorem dX10_fair_67 : decode cX10_fair 67 = .ok (.aload_n 0, 1) := by decide +kernel
theorem dX10_fair_68 : decode cX10_fair 68 = .ok (.iload_n 1, 1) := by decide +kernel
theorem dX10_fair_69 : decode cX10_fair 69 = .ok (.iload 6, 2) := by decide +kernel
theorem dX10_fair_71 : decode cX10_fair 71 = .ok (.iconst (-1), 1) := by decide +kernel
theorem dX10_fair_72 : decode cX10_fair 72 = .ok (.invokevirtual 242, 3) := by decide +kernel
theorem dX10_fair_75 : decode cX10_fair 75 = .ok (.istore 8, 2) := by decide +kernel
theorem dX10_fair_77 : decode cX10_fair 77 = .ok (.iload_n 3, 1) := by decide +kernel
theorem dX10_fair_78 : decode cX10_fair 78 = .ok (.iconst (-1), 1) := by decide +kernel
theorem dX10_fair_79 : decode cX10_fair 79 = .ok (.if_icmp .eq 24, 3) := by decide +kernel
theorem dX10_fair_82 : decode cX10_fair 82 = .ok (.iload 7, 2) := by decide +kernel
theorem dX10_fair_84 : decode cX10_fair 84 = .ok (.iload 4, 2) := by decide +kernel
theorem dX10_fair_86 : decode cX10_fair 86 = .ok (.if_icmp .lt 17, 3) := by decide +kernel
theorem dX10_fair_89 : decode cX10_fair 89 = .ok (.iload 7, 2) := by decide +kernel
theorem dX10_fair_91 : decode cX10_fair 91 = .ok (.iload 4, 2) := by decide +kernel
theorem dX10_fair_93 : decode cX10_fair 93 = .ok (.if_icmp .ne 21, 3) := by decide +kernel
theorem dX10_fair_96 : decode cX10_fair 96 = .ok (.iload 8, 2) := by decide +kernel
theorem dX10_fair_98 : decode cX10_fair 98 = .ok (.iload 5, 2) := by decide +kernel
theorem dX10_fair_100 : decode cX10_fair 100 = .ok (.if_icmp .ge 14, 3) := by decide +kernel
theorem dX10_fair_103 : decode cX10_fair 103 = .ok (.iload 6, 2) := by decide +kernel
theorem dX10_fair_105 : decode cX10_fair 105 = .ok (.istore_n 3, 1) := by decide +kernel
theorem dX10_fair_106 : decode cX10_fair 106 = .ok (.iload 7, 2) := by decide +kernel
theorem dX10_fair_108 : decode cX10_fair 108 = .ok (.istore 4, 2) := by decide +kernel
theorem dX10_fair_110 : decode cX10_fair 110 = .ok (.iload 8, 2) := by decide +kernel
theorem dX10_fair_112 : decode cX10_fair 112 = .ok (.istore 5, 2) := by decide +kernel
theorem dX10_fair_114 : decode cX10_fair 114 = .ok (.iinc 6 1, 3) := by decide +kernel
theorem dX10_fair_117 : decode cX10_fair 117 = .ok (.goto (-88), 3) := by decide +kernel
theorem dX10_fair_120 : decode cX10_fair 120 = .ok (.iload_n 3, 1) := by decide +kernel
theorem dX10_fair_121 : decode cX10_fair 121 = .ok (.ireturn, 1) := by decide +kernel
def lp_X10_fair_29 (j120 : Int32 → Option (Int32 × gz_M)) (fu : Nat) (M : gz_M) (a0 : Nat) (a1 : Int32) (a2 : Int32) : Nat → Int32 → Int32 → Int32 → Int32 → Option (Int32 × gz_M)
  | 0, _, _, _, _ => none
  | n29 + 1, x4, x5, x6, x7 =>
    (f_X10_all fu M a0 a1).bind fun x8 =>
    if x8 < x7 then
      j120 x4
    else
      (f_X10_bits fu M x7).bind fun x9 =>
      gz_jn (fun (x11 : Int32) =>
      gz_jn (fun (x13 : Int32) (x14 : Int32) (x15 : Int32) =>
        lp_X10_fair_29 j120 fu M a0 a1 a2 n29 x13 x14 x15 (x7 + (1 : Int32))) fun j114 =>
        if x11 = (-1 : Int32) then
          j114 x4 x5 x6
        else
          (f_X10_totalOf fu M a0 a1 x7 (-1 : Int32)).bind fun x12 =>
          gz_jn (j114 x7 x11 x12) fun j103 =>
          if x4 = (-1 : Int32) then
            j103
          else
            if x11 < x5 then
              j103
            else
              if x11 = x5 then
                if x6 ≤ x12 then
                  j114 x4 x5 x6
                else
                  j103
              else
                j114 x4 x5 x6) fun j59 =>
      if a2 < x9 then
        j59 (-1 : Int32)
      else
        (f_X10_worstOf fu M a0 a1 x7).bind fun x10 =>
        j59 x10
def f_X10_fair (fu : Nat) (M : gz_M) (a0 : Nat) (a1 : Int32) (a2 : Int32) : Option (Int32 × gz_M) :=
  gz_gd M 10 a0 <|
  (f_X10_isMany fu M a0 a1 a2 (10 : Int32)).bind fun x1 =>
  if x1 = 0 then
    gz_b2 (f_X10_refuse fu M a0 (-2 : Int32)) fun x2 M3 =>
    some (x2, M3)
  else
    lp_X10_fair_29 (fun (x16 : Int32) => some (x16, M)) fu M a0 a1 a2 fu (-1 : Int32) (0 : Int32) (0 : Int32) (0 : Int32)
set_option maxHeartbeats 4000000 in
theorem w_X10_fair_29 {C : gz_C} {y : Int32 × gz_M} {fu : Nat} {M : gz_M} {a0 : Nat} {a1 : Int32} {a2 : Int32} {j120 : Int32 → Option (Int32 × gz_M)} (hC : gz_ok C cX10_fair RX10 9) (hX : gz_cx C 5 132 0 0 (some .int) (some (.int y.1)) y.2 "fair") (hj120 : ∀ (x16 : Int32), j120 x16 = some y → gz_go C 0 0 M [(3, .int x16)] 120 []) : ∀ (n : Nat) (x4 : Int32) (x5 : Int32) (x6 : Int32) (x7 : Int32), lp_X10_fair_29 j120 fu M a0 a1 a2 n x4 x5 x6 x7 = some y → gz_go C 0 0 M [(0, .ref a0), (1, .int a1), (2, .int a2), (3, .int x4), (4, .int x5), (5, .int x6), (6, .int x7)] 29 [] := by
  intro n
  induction n with
  | zero => intro x4 x5 x6 x7 hF; exact nomatch (show (none : Option (Int32 × gz_M)) = some y from hF)
  | succ n29 ih29 =>
    intro x4 x5 x6 x7 hF
    rw [lp_X10_fair_29.eq_2] at hF
    refine gz_iload 29 hC 6 dX10_fair_29 rfl ?_
    refine gz_aload_n 31 hC 0 dX10_fair_31 rfl rfl ?_
    refine gz_iload_n 32 hC 1 dX10_fair_32 rfl rfl ?_
    refine gz_cvP (st := [.int x7]) 33 hC hX [.int a1] Value.int yl_X10_all yv_X10_all q_1379 ⟨Nat.le_of_ble_eq_true rfl, Nat.le_of_ble_eq_true rfl⟩ ⟨_, rfl⟩ (fun r h => ct_X10_all _ _ fu M a0 a1 r h) rfl rfl (Nat.le_of_ble_eq_true rfl) dX10_fair_33 gz_00 hF (fun x8 hF => ?_)
    refine gz_icmp_gt 36 120 hC dX10_fair_36 (by decide) hF (fun hF => ?_) (fun hF => ?_)
    · skip
      refine gz_sub [3] [(3, .int x4)] rfl ?_
      exact hj120 _ hF
    · skip
      refine gz_iload 39 hC 6 dX10_fair_39 rfl ?_
      refine gz_csP (st := []) 41 hC hX [.int x7] Value.int yl_X10_bits yv_X10_bits q_1423 ⟨Nat.le_of_ble_eq_true rfl, Nat.le_of_ble_eq_true rfl⟩ (fun r h => ct_X10_bits _ _ fu M x7 r h) rfl rfl (Nat.le_of_ble_eq_true rfl) dX10_fair_41 gz_00 hF (fun x9 hF => ?_)
      refine gz_iload_n 44 hC 2 dX10_fair_44 rfl rfl ?_
      refine gz_join (fun (j : Int32 → Option (Int32 × gz_M)) => ∀ (x11 : Int32), j x11 = some y → gz_go C 0 0 M [(0, .ref a0), (1, .int a1), (2, .int a2), (3, .int x4), (4, .int x5), (5, .int x6), (6, .int x7)] 59 [.int x11]) hF (fun x11 hF => ?_) (fun j59 hj59 hF => ?_)
      · skip
        refine gz_istore 59 hC [(7, .int x11), (0, .ref a0), (1, .int a1), (2, .int a2), (3, .int x4), (4, .int x5), (5, .int x6), (6, .int x7)] dX10_fair_59 (by decide) rfl ?_
        refine gz_iload 61 hC 0 dX10_fair_61 rfl ?_
        refine gz_iconst 63 hC (-1 : Int32) dX10_fair_63 gz_km1 ?_
        refine gz_join (fun (j : Int32 → Int32 → Int32 → Option (Int32 × gz_M)) => ∀ (x13 : Int32) (x14 : Int32) (x15 : Int32), j x13 x14 x15 = some y → gz_go C 0 0 M [(0, .ref a0), (1, .int a1), (2, .int a2), (3, .int x13), (4, .int x14), (5, .int x15), (6, .int x7)] 114 []) hF (fun x13 x14 x15 hF => ?_) (fun j114 hj114 hF => ?_)
        · skip
          refine gz_iinc 114 hC (x7 + (1 : Int32)) 6 [(6, .int (x7 + (1 : Int32))), (0, .ref a0), (1, .int a1), (2, .int a2), (3, .int x13), (4, .int x14), (5, .int x15)] dX10_fair_114 rfl rfl (by decide) rfl ?_
          refine gz_goto 117 29 hC dX10_fair_117 (by decide) ?_
          refine gz_sub [1, 2, 3, 4, 5, 6, 0] [(0, .ref a0), (1, .int a1), (2, .int a2), (3, .int x13), (4, .int x14), (5, .int x15), (6, .int (x7 + (1 : Int32)))] rfl ?_
          exact ih29 _ _ _ _ hF
        refine gz_icmp_eq 64 114 hC dX10_fair_64 (by decide) hF (fun hF => ?_) (fun hF => ?_)
        · skip
          refine gz_sub [1, 2, 3, 4, 5, 6, 7] [(0, .ref a0), (1, .int a1), (2, .int a2), (3, .int x4), (4, .int x5), (5, .int x6), (6, .int x7)] rfl ?_
          exact hj114 _ _ _ hF
        · skip
          refine gz_aload_n 67 hC 1 dX10_fair_67 rfl rfl ?_
          refine gz_iload_n 68 hC 2 dX10_fair_68 rfl rfl ?_
          refine gz_iload 69 hC 7 dX10_fair_69 rfl ?_
          refine gz_iconst 71 hC (-1 : Int32) dX10_fair_71 gz_km1 ?_
          refine gz_cvP (st := []) 72 hC hX [.int a1, .int x7, .int (-1 : Int32)] Value.int yl_X10_totalOf yv_X10_totalOf q_1391 ⟨Nat.le_of_ble_eq_true rfl, Nat.le_of_ble_eq_true rfl⟩ ⟨_, rfl⟩ (fun r h => ct_X10_totalOf _ _ fu M a0 a1 x7 (-1 : Int32) r h) rfl rfl (Nat.le_of_ble_eq_true rfl) dX10_fair_72 gz_00 hF (fun x12 hF => ?_)
          refine gz_istore 75 hC [(8, .int x12), (7, .int x11), (0, .ref a0), (1, .int a1), (2, .int a2), (3, .int x4), (4, .int x5), (5, .int x6), (6, .int x7)] dX10_fair_75 (by decide) rfl ?_
          refine gz_iload_n 77 hC 5 dX10_fair_77 rfl rfl ?_
          refine gz_iconst 78 hC (-1 : Int32) dX10_fair_78 gz_km1 ?_
          refine gz_join (fun (j : Option (Int32 × gz_M)) => j = some y → gz_go C 0 0 M [(0, .ref a0), (1, .int a1), (2, .int a2), (6, .int x7), (7, .int x11), (8, .int x12)] 103 []) hF (fun hF => ?_) (fun j103 hj103 hF => ?_)
          · skip
            refine gz_iload 103 hC 3 dX10_fair_103 rfl ?_
            refine gz_istore_n 105 hC [(3, .int x7), (0, .ref a0), (1, .int a1), (2, .int a2), (6, .int x7), (7, .int x11), (8, .int x12)] dX10_fair_105 rfl (by decide) rfl ?_
            refine gz_iload 106 hC 5 dX10_fair_106 rfl ?_
            refine gz_istore 108 hC [(4, .int x11), (3, .int x7), (0, .ref a0), (1, .int a1), (2, .int a2), (6, .int x7), (7, .int x11), (8, .int x12)] dX10_fair_108 (by decide) rfl ?_
            refine gz_iload 110 hC 7 dX10_fair_110 rfl ?_
            refine gz_istore 112 hC [(5, .int x12), (4, .int x11), (3, .int x7), (0, .ref a0), (1, .int a1), (2, .int a2), (6, .int x7), (7, .int x11), (8, .int x12)] dX10_fair_112 (by decide) rfl ?_
            refine gz_sub [3, 4, 5, 2, 1, 0, 6] [(0, .ref a0), (1, .int a1), (2, .int a2), (3, .int x7), (4, .int x11), (5, .int x12), (6, .int x7)] rfl ?_
            exact hj114 _ _ _ hF
          refine gz_icmp_eq 79 103 hC dX10_fair_79 (by decide) hF (fun hF => ?_) (fun hF => ?_)
          · skip
            refine gz_sub [2, 3, 4, 8, 1, 0] [(0, .ref a0), (1, .int a1), (2, .int a2), (6, .int x7), (7, .int x11), (8, .int x12)] rfl ?_
            exact hj103 hF
          · skip
            refine gz_iload 82 hC 1 dX10_fair_82 rfl ?_
            refine gz_iload 84 hC 6 dX10_fair_84 rfl ?_
            refine gz_icmp_lt 86 103 hC dX10_fair_86 (by decide) hF (fun hF => ?_) (fun hF => ?_)
            · skip
              refine gz_sub [2, 3, 4, 8, 1, 0] [(0, .ref a0), (1, .int a1), (2, .int a2), (6, .int x7), (7, .int x11), (8, .int x12)] rfl ?_
              exact hj103 hF
            · skip
              refine gz_iload 89 hC 1 dX10_fair_89 rfl ?_
              refine gz_iload 91 hC 6 dX10_fair_91 rfl ?_
              refine gz_icmp_ne 93 114 hC dX10_fair_93 (by decide) hF (fun hF => ?_) (fun hF => ?_)
              · skip
                refine gz_sub [2, 3, 4, 5, 6, 7, 8] [(0, .ref a0), (1, .int a1), (2, .int a2), (3, .int x4), (4, .int x5), (5, .int x6), (6, .int x7)] rfl ?_
                exact hj114 _ _ _ hF
              · skip
                refine gz_iload 96 hC 0 dX10_fair_96 rfl ?_
                refine gz_iload 98 hC 7 dX10_fair_98 rfl ?_
                refine gz_icmp_ge 100 114 hC dX10_fair_100 (by decide) hF (fun hF => ?_) (fun hF => ?_)
                · skip
                  refine gz_sub [2, 3, 4, 5, 6, 7, 8] [(0, .ref a0), (1, .int a1), (2, .int a2), (3, .int x4), (4, .int x5), (5, .int x6), (6, .int x7)] rfl ?_
                  exact hj114 _ _ _ hF
                · skip
                  refine gz_sub [2, 3, 4, 8, 1, 0] [(0, .ref a0), (1, .int a1), (2, .int a2), (6, .int x7), (7, .int x11), (8, .int x12)] rfl ?_
                  exact hj103 hF
      refine gz_icmp_gt 45 58 hC dX10_fair_45 (by decide) hF (fun hF => ?_) (fun hF => ?_)
      · skip
        refine gz_iconst 58 hC (-1 : Int32) dX10_fair_58 gz_km1 ?_
        exact hj59 _ hF
      · skip
        refine gz_aload_n 48 hC 0 dX10_fair_48 rfl rfl ?_
        refine gz_iload_n 49 hC 1 dX10_fair_49 rfl rfl ?_
        refine gz_iload 50 hC 6 dX10_fair_50 rfl ?_
        refine gz_cvP (st := []) 52 hC hX [.int a1, .int x7] Value.int yl_X10_worstOf yv_X10_worstOf q_1450 ⟨Nat.le_of_ble_eq_true rfl, Nat.le_of_ble_eq_true rfl⟩ ⟨_, rfl⟩ (fun r h => ct_X10_worstOf _ _ fu M a0 a1 x7 r h) rfl rfl (Nat.le_of_ble_eq_true rfl) dX10_fair_52 gz_00 hF (fun x10 hF => ?_)
        refine gz_goto 55 59 hC dX10_fair_55 (by decide) ?_
        exact hj59 _ hF
set_option maxHeartbeats 4000000 in
theorem ct_X10_fair (l : Launch) (G : gz_G) (fu : Nat) (M : gz_M) (a0 : Nat) (a1 : Int32) (a2 : Int32) (y : Int32 × gz_M) (hF : f_X10_fair fu M a0 a1 a2 = some y) : gz_ct l yX10_fair cX10_fair 9 (some .int) 5 132 0 0 G [.ref a0, .int a1, .int a2] M (some (.int y.1)) y.2 := by
  refine gz_ct.of (by decide) (Nat.le_of_ble_eq_true rfl) (fun C hC hX => ?_)
  unfold f_X10_fair at hF
  obtain ⟨-, hF⟩ := gz_gd_some hF
  show gz_go C 0 0 M [(0, .ref a0), (1, .int a1), (2, .int a2)] 0 []
  refine gz_aload_n 0 hC 0 dX10_fair_0 rfl rfl ?_
  refine gz_iload_n 1 hC 1 dX10_fair_1 rfl rfl ?_
  refine gz_iload_n 2 hC 2 dX10_fair_2 rfl rfl ?_
  refine gz_bipush 3 hC (10 : Int32) dX10_fair_3 gz_b10 ?_
  refine gz_cvP (st := []) 5 hC hX [.int a1, .int a2, .int (10 : Int32)] Value.int yl_X10_isMany yv_X10_isMany q_1415 ⟨Nat.le_of_ble_eq_true rfl, Nat.le_of_ble_eq_true rfl⟩ ⟨_, rfl⟩ (fun r h => ct_X10_isMany _ _ fu M a0 a1 a2 (10 : Int32) r h) rfl rfl (Nat.le_of_ble_eq_true rfl) dX10_fair_5 gz_00 hF (fun x1 hF => ?_)
  refine gz_if_ne 8 18 hC dX10_fair_8 (by decide) hF (fun hF => ?_) (fun hF => ?_)
  · skip
    refine gz_iconst 18 hC (-1 : Int32) dX10_fair_18 gz_km1 ?_
    refine gz_istore_n 19 hC [(3, .int (-1 : Int32)), (0, .ref a0), (1, .int a1), (2, .int a2)] dX10_fair_19 rfl (by decide) rfl ?_
    refine gz_iconst 20 hC (0 : Int32) dX10_fair_20 gz_k0 ?_
    refine gz_istore 21 hC [(4, .int (0 : Int32)), (3, .int (-1 : Int32)), (0, .ref a0), (1, .int a1), (2, .int a2)] dX10_fair_21 (by decide) rfl ?_
    refine gz_iconst 23 hC (0 : Int32) dX10_fair_23 gz_k0 ?_
    refine gz_istore 24 hC [(5, .int (0 : Int32)), (4, .int (0 : Int32)), (3, .int (-1 : Int32)), (0, .ref a0), (1, .int a1), (2, .int a2)] dX10_fair_24 (by decide) rfl ?_
    refine gz_iconst 26 hC (0 : Int32) dX10_fair_26 gz_k0 ?_
    refine gz_istore 27 hC [(6, .int (0 : Int32)), (5, .int (0 : Int32)), (4, .int (0 : Int32)), (3, .int (-1 : Int32)), (0, .ref a0), (1, .int a1), (2, .int a2)] dX10_fair_27 (by decide) rfl ?_
    refine gz_sub [4, 5, 6, 3, 2, 1, 0] [(0, .ref a0), (1, .int a1), (2, .int a2), (3, .int (-1 : Int32)), (4, .int (0 : Int32)), (5, .int (0 : Int32)), (6, .int (0 : Int32))] rfl ?_
    refine w_X10_fair_29 hC hX ?_ _ _ _ _ _ hF
    intro x16 hF
    refine gz_iload_n 120 hC 0 dX10_fair_120 rfl rfl ?_
    exact gz_iretM 121 hC hX dX10_fair_121 hF
  · skip
    refine gz_aload_n 11 hC 0 dX10_fair_11 rfl rfl ?_
    refine gz_bipush 12 hC (-2 : Int32) dX10_fair_12 gz_bm2 ?_
    refine gz_cvM (st := []) 14 hC hX [.int (-2 : Int32)] Value.int yl_X10_refuse yv_X10_refuse q_1175 ⟨Nat.le_of_ble_eq_true rfl, Nat.le_of_ble_eq_true rfl⟩ ⟨_, rfl⟩ (fun r h => ct_X10_refuse _ _ fu M a0 (-2 : Int32) r h) rfl rfl (Nat.le_of_ble_eq_true rfl) dX10_fair_14 gz_00 hF (fun x2 M3 hF => ?_)
    exact gz_iretM 17 hC hX dX10_fair_17 hF

theorem dX10_outTimes_0 : decode cX10_outTimes 0 = .ok (.iconst 0, 1) := by decide +kernel
theorem dX10_outTimes_1 : decode cX10_outTimes 1 = .ok (.istore_n 3, 1) := by decide +kernel
theorem dX10_outTimes_2 : decode cX10_outTimes 2 = .ok (.iconst 0, 1) := by decide +kernel
theorem dX10_outTimes_3 : decode cX10_outTimes 3 = .ok (.istore 4, 2) := by decide +kernel
theorem dX10_outTimes_5 : decode cX10_outTimes 5 = .ok (.iload 4, 2) := by decide +kernel
theorem dX10_outTimes_7 : decode cX10_outTimes 7 = .ok (.aload_n 0, 1) := by decide +kernel
theorem dX10_outTimes_8 : decode cX10_outTimes 8 = .ok (.iload_n 1, 1) := by decide +kernel
theorem dX10_outTimes_9 : decode cX10_outTimes 9 = .ok (.invokevirtual 81, 3) := by decide +kernel
theorem dX10_outTimes_12 : decode cX10_outTimes 12 = .ok (.if_icmp .ge 36, 3) := by decide +kernel
theorem dX10_outTimes_15 : decode cX10_outTimes 15 = .ok (.iload_n 3, 1) := by decide +kernel
theorem dX10_outTimes_16 : decode cX10_outTimes 16 = .ok (.aload_n 0, 1) := by decide +kernel
theorem dX10_outTimes_17 : decode cX10_outTimes 17 = .ok (.iload_n 1, 1) := by decide +kernel
theorem dX10_outTimes_18 : decode cX10_outTimes 18 = .ok (.iload 4, 2) := by decide +kernel
theorem dX10_outTimes_20 : decode cX10_outTimes 20 = .ok (.iload_n 2, 1) := by decide +kernel
theorem dX10_outTimes_21 : decode cX10_outTimes 21 = .ok (.invokevirtual 230, 3) := by decide +kernel
theorem dX10_outTimes_24 : decode cX10_outTimes 24 = .ok (.iconst (-1), 1) := by decide +kernel
theorem dX10_outTimes_25 : decode cX10_outTimes 25 = .ok (.if_icmp .ne 14, 3) := by decide +kernel
theorem dX10_outTimes_28 : decode cX10_outTimes 28 = .ok (.aload_n 0, 1) := by decide +kernel
theorem dX10_outTimes_29 : decode cX10_outTimes 29 = .ok (.iload_n 1, 1) := by decide +kernel
theorem dX10_outTimes_30 : decode cX10_outTimes 30 = .ok (.iload 4, 2) := by decide +kernel
theorem dX10_outTimes_32 : decode cX10_outTimes 32 = .ok (.iconst 3, 1) := by decide +kernel
theorem dX10_outTimes_33 : decode cX10_outTimes 33 = .ok (.invokevirtual 114, 3) := by decide +kernel
theorem dX10_outTimes_36 : decode cX10_outTimes 36 = .ok (.goto 4, 3) := by decide +kernel
theorem dX10_outTimes_39 : decode cX10_outTimes 39 = .ok (.iconst 0, 1) := by decide +kernel
theorem dX10_outTimes_40 : decode cX10_outTimes 40 = .ok (.iadd, 1) := by decide +kernel
theorem dX10_outTimes_41 : decode cX10_outTimes 41 = .ok (.istore_n 3, 1) := by decide +kernel
theorem dX10_outTimes_42 : decode cX10_outTimes 42 = .ok (.iinc 4 1, 3) := by decide +kernel
theorem dX10_outTimes_45 : decode cX10_outTimes 45 = .ok (.goto (-40), 3) := by decide +kernel
theorem dX10_outTimes_48 : decode cX10_outTimes 48 = .ok (.iload_n 3, 1) := by decide +kernel
theorem dX10_outTimes_49 : decode cX10_outTimes 49 = .ok (.ireturn, 1) := by decide +kernel
def lp_X10_outTimes_5 (j48 : Int32 → Option (Int32)) (fu : Nat) (M : gz_M) (a0 : Nat) (a1 : Int32) (a2 : Int32) : Nat → Int32 → Int32 → Option (Int32)
  | 0, _, _ => none
  | n5 + 1, x1, x2 =>
    (f_X10_feetOf fu M a0 a1).bind fun x3 =>
    if x3 ≤ x2 then
      j48 x1
    else
      (f_X10_ownOf fu M a0 a1 x2 a2).bind fun x4 =>
      gz_jn (fun (x6 : Int32) =>
      lp_X10_outTimes_5 j48 fu M a0 a1 a2 n5 (x1 + x6) (x2 + (1 : Int32))) fun j40 =>
      if x4 = (-1 : Int32) then
        (f_X10_of fu M a0 a1 x2 (3 : Int32)).bind fun x5 =>
        j40 x5
      else
        j40 (0 : Int32)
def f_X10_outTimes (fu : Nat) (M : gz_M) (a0 : Nat) (a1 : Int32) (a2 : Int32) : Option (Int32) :=
  gz_gd M 10 a0 <|
  lp_X10_outTimes_5 (fun (x7 : Int32) => some x7) fu M a0 a1 a2 fu (0 : Int32) (0 : Int32)
set_option maxHeartbeats 4000000 in
theorem w_X10_outTimes_5 {C : gz_C} {y : Int32} {fu : Nat} {M : gz_M} {a0 : Nat} {a1 : Int32} {a2 : Int32} {j48 : Int32 → Option (Int32)} (hC : gz_ok C cX10_outTimes RX10 5) (hX : gz_cx C 3 83 0 0 (some .int) (some (.int y)) M "outTimes") (hj48 : ∀ (x7 : Int32), j48 x7 = some y → gz_go C 0 0 M [(3, .int x7)] 48 []) : ∀ (n : Nat) (x1 : Int32) (x2 : Int32), lp_X10_outTimes_5 j48 fu M a0 a1 a2 n x1 x2 = some y → gz_go C 0 0 M [(0, .ref a0), (1, .int a1), (2, .int a2), (3, .int x1), (4, .int x2)] 5 [] := by
  intro n
  induction n with
  | zero => intro x1 x2 hF; exact nomatch (show (none : Option (Int32)) = some y from hF)
  | succ n5 ih5 =>
    intro x1 x2 hF
    rw [lp_X10_outTimes_5.eq_2] at hF
    refine gz_iload 5 hC 4 dX10_outTimes_5 rfl ?_
    refine gz_aload_n 7 hC 0 dX10_outTimes_7 rfl rfl ?_
    refine gz_iload_n 8 hC 1 dX10_outTimes_8 rfl rfl ?_
    refine gz_cvP (st := [.int x2]) 9 hC hX [.int a1] Value.int yl_X10_feetOf yv_X10_feetOf q_1221 ⟨Nat.le_of_ble_eq_true rfl, Nat.le_of_ble_eq_true rfl⟩ ⟨_, rfl⟩ (fun r h => ct_X10_feetOf _ _ fu M a0 a1 r h) rfl rfl (Nat.le_of_ble_eq_true rfl) dX10_outTimes_9 gz_00 hF (fun x3 hF => ?_)
    refine gz_icmp_ge 12 48 hC dX10_outTimes_12 (by decide) hF (fun hF => ?_) (fun hF => ?_)
    · skip
      refine gz_sub [3] [(3, .int x1)] rfl ?_
      exact hj48 _ hF
    · skip
      refine gz_iload_n 15 hC 3 dX10_outTimes_15 rfl rfl ?_
      refine gz_aload_n 16 hC 0 dX10_outTimes_16 rfl rfl ?_
      refine gz_iload_n 17 hC 1 dX10_outTimes_17 rfl rfl ?_
      refine gz_iload 18 hC 4 dX10_outTimes_18 rfl ?_
      refine gz_iload_n 20 hC 2 dX10_outTimes_20 rfl rfl ?_
      refine gz_cvP (st := [.int x1]) 21 hC hX [.int a1, .int x2, .int a2] Value.int yl_X10_ownOf yv_X10_ownOf q_1383 ⟨Nat.le_of_ble_eq_true rfl, Nat.le_of_ble_eq_true rfl⟩ ⟨_, rfl⟩ (fun r h => ct_X10_ownOf _ _ fu M a0 a1 x2 a2 r h) rfl rfl (Nat.le_of_ble_eq_true rfl) dX10_outTimes_21 gz_00 hF (fun x4 hF => ?_)
      refine gz_iconst 24 hC (-1 : Int32) dX10_outTimes_24 gz_km1 ?_
      refine gz_join (fun (j : Int32 → Option (Int32)) => ∀ (x6 : Int32), j x6 = some y → gz_go C 0 0 M [(0, .ref a0), (1, .int a1), (2, .int a2), (4, .int x2)] 40 [.int x6, .int x1]) hF (fun x6 hF => ?_) (fun j40 hj40 hF => ?_)
      · skip
        refine gz_iadd 40 hC dX10_outTimes_40 ?_
        refine gz_istore_n 41 hC [(3, .int (x1 + x6)), (0, .ref a0), (1, .int a1), (2, .int a2), (4, .int x2)] dX10_outTimes_41 rfl (by decide) rfl ?_
        refine gz_iinc 42 hC (x2 + (1 : Int32)) 4 [(4, .int (x2 + (1 : Int32))), (3, .int (x1 + x6)), (0, .ref a0), (1, .int a1), (2, .int a2)] dX10_outTimes_42 rfl rfl (by decide) rfl ?_
        refine gz_goto 45 5 hC dX10_outTimes_45 (by decide) ?_
        refine gz_sub [2, 3, 4, 1, 0] [(0, .ref a0), (1, .int a1), (2, .int a2), (3, .int (x1 + x6)), (4, .int (x2 + (1 : Int32)))] rfl ?_
        exact ih5 _ _ hF
      refine gz_icmp_ne 25 39 hC dX10_outTimes_25 (by decide) hF (fun hF => ?_) (fun hF => ?_)
      · skip
        refine gz_iconst 39 hC (0 : Int32) dX10_outTimes_39 gz_k0 ?_
        refine gz_sub [0, 1, 2, 4] [(0, .ref a0), (1, .int a1), (2, .int a2), (4, .int x2)] rfl ?_
        exact hj40 _ hF
      · skip
        refine gz_aload_n 28 hC 0 dX10_outTimes_28 rfl rfl ?_
        refine gz_iload_n 29 hC 1 dX10_outTimes_29 rfl rfl ?_
        refine gz_iload 30 hC 4 dX10_outTimes_30 rfl ?_
        refine gz_iconst 32 hC (3 : Int32) dX10_outTimes_32 gz_k3 ?_
        refine gz_cvP (st := [.int x1]) 33 hC hX [.int a1, .int x2, .int (3 : Int32)] Value.int yl_X10_of yv_X10_of q_1241 ⟨Nat.le_of_ble_eq_true rfl, Nat.le_of_ble_eq_true rfl⟩ ⟨_, rfl⟩ (fun r h => ct_X10_of _ _ fu M a0 a1 x2 (3 : Int32) r h) rfl rfl (Nat.le_of_ble_eq_true rfl) dX10_outTimes_33 gz_00 hF (fun x5 hF => ?_)
        refine gz_goto 36 40 hC dX10_outTimes_36 (by decide) ?_
        refine gz_sub [0, 1, 2, 4] [(0, .ref a0), (1, .int a1), (2, .int a2), (4, .int x2)] rfl ?_
        exact hj40 _ hF
set_option maxHeartbeats 4000000 in
theorem ct_X10_outTimes (l : Launch) (G : gz_G) (fu : Nat) (M : gz_M) (a0 : Nat) (a1 : Int32) (a2 : Int32) (y : Int32) (hF : f_X10_outTimes fu M a0 a1 a2 = some y) : gz_ct l yX10_outTimes cX10_outTimes 5 (some .int) 3 83 0 0 G [.ref a0, .int a1, .int a2] M (some (.int y)) M := by
  refine gz_ct.of (by decide) (Nat.le_of_ble_eq_true rfl) (fun C hC hX => ?_)
  unfold f_X10_outTimes at hF
  obtain ⟨-, hF⟩ := gz_gd_some hF
  show gz_go C 0 0 M [(0, .ref a0), (1, .int a1), (2, .int a2)] 0 []
  refine gz_iconst 0 hC (0 : Int32) dX10_outTimes_0 gz_k0 ?_
  refine gz_istore_n 1 hC [(3, .int (0 : Int32)), (0, .ref a0), (1, .int a1), (2, .int a2)] dX10_outTimes_1 rfl (by decide) rfl ?_
  refine gz_iconst 2 hC (0 : Int32) dX10_outTimes_2 gz_k0 ?_
  refine gz_istore 3 hC [(4, .int (0 : Int32)), (3, .int (0 : Int32)), (0, .ref a0), (1, .int a1), (2, .int a2)] dX10_outTimes_3 (by decide) rfl ?_
  refine gz_sub [2, 3, 4, 1, 0] [(0, .ref a0), (1, .int a1), (2, .int a2), (3, .int (0 : Int32)), (4, .int (0 : Int32))] rfl ?_
  refine w_X10_outTimes_5 hC hX ?_ _ _ _ hF
  intro x7 hF
  refine gz_iload_n 48 hC 0 dX10_outTimes_48 rfl rfl ?_
  exact gz_iretP 49 hC hX dX10_outTimes_49 hF

theorem dX10_shod_0 : decode cX10_shod 0 = .ok (.aload_n 0, 1) := by decide +kernel
theorem dX10_shod_1 : decode cX10_shod 1 = .ok (.iload_n 1, 1) := by decide +kernel
theorem dX10_shod_2 : decode cX10_shod 2 = .ok (.iload_n 2, 1) := by decide +kernel
theorem dX10_shod_3 : decode cX10_shod 3 = .ok (.bipush 10, 2) := by decide +kernel
theorem dX10_shod_5 : decode cX10_shod 5 = .ok (.invokevirtual 248, 3) := by decide +kernel
theorem dX10_shod_8 : decode cX10_shod 8 = .ok (.ifCond .ne 10, 3) := by decide +kernel
theorem dX10_shod_11 : decode cX10_shod 11 = .ok (.aload_n 0, 1) := by decide +kernel
theorem dX10_shod_12 : decode cX10_shod 12 = .ok (.bipush (-2), 2) := by decide +kernel
theorem dX10_shod_14 : decode cX10_shod 14 = .ok (.invokevirtual 97, 3) := by decide +kernel
theorem dX10_shod_17 : decode cX10_shod 17 = .ok (.ireturn, 1) := by decide +kernel
theorem dX10_shod_18 : decode cX10_shod 18 = .ok (.iconst (-1), 1) := by decide +kernel
theorem dX10_shod_19 : decode cX10_shod 19 = .ok (.istore_n 3, 1) := by decide +kernel
theorem dX10_shod_20 : decode cX10_shod 20 = .ok (.iconst 0, 1) := by decide +kernel
theorem dX10_shod_21 : decode cX10_shod 21 = .ok (.istore 4, 2) := by decide +kernel
theorem dX10_shod_23 : decode cX10_shod 23 = .ok (.iconst 0, 1) := by decide +kernel
theorem dX10_shod_24 : decode cX10_shod 24 = .ok (.istore 5, 2) := by decide +kernel
theorem dX10_shod_26 : decode cX10_shod 26 = .ok (.iconst 0, 1) := by decide +kernel
theorem dX10_shod_27 : decode cX10_shod 27 = .ok (.istore 6, 2) := by decide +kernel
theorem dX10_shod_29 : decode cX10_shod 29 = .ok (.iload 6, 2) := by decide +kernel
theorem dX10_shod_31 : decode cX10_shod 31 = .ok (.aload_n 0, 1) := by decide +kernel
theorem dX10_shod_32 : decode cX10_shod 32 = .ok (.iload_n 1, 1) := by decide +kernel
theorem dX10_shod_33 : decode cX10_shod 33 = .ok (.invokevirtual 88, 3) := by decide +kernel
theorem dX10_shod_36 : decode cX10_shod 36 = .ok (.if_icmp .gt 74, 3) := by decide +kernel
theorem dX10_shod_39 : decode cX10_shod 39 = .ok (.iload 6, 2) := by decide +kernel
theorem dX10_shod_41 : decode cX10_shod 41 = .ok (.invokestatic 245, 3) := by decide +kernel
theorem dX10_shod_44 : decode cX10_shod 44 = .ok (.iload_n 2, 1) := by decide +kernel
theorem dX10_shod_45 : decode cX10_shod 45 = .ok (.if_icmp .gt 59, 3) := by decide +kernel
theorem dX10_shod_48 : decode cX10_shod 48 = .ok (.aload_n 0, 1) := by decide +kernel
theorem dX10_shod_49 : decode cX10_shod 49 = .ok (.iload_n 1, 1) := by decide +kernel
theorem dX10_shod_50 : decode cX10_shod 50 = .ok (.iload 6, 2) := by decide +kernel
theorem dX10_shod_52 : decode cX10_shod 52 = .ok (.invokevirtual 261, 3) := by decide +kernel
theorem dX10_shod_55 : decode cX10_shod 55 = .ok (.istore 7, 2) := by decide +kernel
theorem dX10_shod_57 : decode cX10_shod 57 = .ok (.aload_n 0, 1) := by decide +kernel
theorem dX10_shod_58 : decode cX10_shod 58 = .ok (.iload_n 1, 1) := by decide +kernel
theorem dX10_shod_59 : decode cX10_shod 59 = .ok (.iload 6, 2) := by decide +kernel
theorem dX10_shod_61 : decode cX10_shod 61 = .ok (.iconst (-1), 1) := by decide +kernel
theorem dX10_shod_62 : decode cX10_shod 62 = .ok (.invokevirtual 242, 3) := by decide +kernel
theorem dX10_shod_65 : decode cX10_shod 65 = .ok (.istore 8, 2) := by decide +kernel
theorem dX10_shod_67 : decode cX10_shod 67 = .ok (.iload_n 3, 1) := by decide +kernel
theorem dX10_shod_68 : decode cX10_shod 68 = .ok (.iconst (-1), 1) := by decide +kernel
theorem dX10_shod_69 : decode cX10_shod 69 = .ok (.if_icmp .eq 24, 3) := by decide +kernel
theorem dX10_shod_72 : decode cX10_shod 72 = .ok (.iload 7, 2) := by decide +kernel
theorem dX10_shod_74 : decode cX10_shod 74 = .ok (.iload 4, 2) := by decide +kernel
theorem dX10_shod_76 : decode cX10_shod 76 = .ok (.if_icmp .lt 17, 3) := by decide +kernel
theorem dX10_shod_79 : decode cX10_shod 79 = .ok (.iload 7, 2) := by decide +kernel
theorem dX10_shod_81 : decode cX10_shod 81 = .ok (.iload 4, 2) := by decide +kernel
theorem dX10_shod_83 : decode cX10_shod 83 = .ok (.if_icmp .ne 21, 3) := by decide +kernel
theorem dX10_shod_86 : decode cX10_shod 86 = .ok (.iload 8, 2) := by decide +kernel
theorem dX10_shod_88 : decode cX10_shod 88 = .ok (.iload 5, 2) := by decide +kernel
theorem dX10_shod_90 : decode cX10_shod 90 = .ok (.if_icmp .ge 14, 3) := by decide +kernel
theorem dX10_shod_93 : decode cX10_shod 93 = .ok (.iload 6, 2) := by decide +kernel
theorem dX10_shod_95 : decode cX10_shod 95 = .ok (.istore_n 3, 1) := by decide +kernel
theorem dX10_shod_96 : decode cX10_shod 96 = .ok (.iload 7, 2) := by decide +kernel
theorem dX10_shod_98 : decode cX10_shod 98 = .ok (.istore 4, 2) := by decide +kernel
theorem dX10_shod_100 : decode cX10_shod 100 = .ok (.iload 8, 2) := by decide +kernel
theorem dX10_shod_102 : decode cX10_shod 102 = .ok (.istore 5, 2) := by decide +kernel
theorem dX10_shod_104 : decode cX10_shod 104 = .ok (.iinc 6 1, 3) := by decide +kernel
theorem dX10_shod_107 : decode cX10_shod 107 = .ok (.goto (-78), 3) := by decide +kernel
theorem dX10_shod_110 : decode cX10_shod 110 = .ok (.iload_n 3, 1) := by decide +kernel
theorem dX10_shod_111 : decode cX10_shod 111 = .ok (.ireturn, 1) := by decide +kernel
def lp_X10_shod_29 (j110 : Int32 → Option (Int32 × gz_M)) (fu : Nat) (M : gz_M) (a0 : Nat) (a1 : Int32) (a2 : Int32) : Nat → Int32 → Int32 → Int32 → Int32 → Option (Int32 × gz_M)
  | 0, _, _, _, _ => none
  | n29 + 1, x4, x5, x6, x7 =>
    (f_X10_all fu M a0 a1).bind fun x8 =>
    if x8 < x7 then
      j110 x4
    else
      (f_X10_bits fu M x7).bind fun x9 =>
      gz_jn (fun (x12 : Int32) (x13 : Int32) (x14 : Int32) =>
      lp_X10_shod_29 j110 fu M a0 a1 a2 n29 x12 x13 x14 (x7 + (1 : Int32))) fun j104 =>
      if a2 < x9 then
        j104 x4 x5 x6
      else
        (f_X10_outTimes fu M a0 a1 x7).bind fun x10 =>
        (f_X10_totalOf fu M a0 a1 x7 (-1 : Int32)).bind fun x11 =>
        gz_jn (j104 x7 x10 x11) fun j93 =>
        if x4 = (-1 : Int32) then
          j93
        else
          if x10 < x5 then
            j93
          else
            if x10 = x5 then
              if x6 ≤ x11 then
                j104 x4 x5 x6
              else
                j93
            else
              j104 x4 x5 x6
def f_X10_shod (fu : Nat) (M : gz_M) (a0 : Nat) (a1 : Int32) (a2 : Int32) : Option (Int32 × gz_M) :=
  gz_gd M 10 a0 <|
  (f_X10_isMany fu M a0 a1 a2 (10 : Int32)).bind fun x1 =>
  if x1 = 0 then
    gz_b2 (f_X10_refuse fu M a0 (-2 : Int32)) fun x2 M3 =>
    some (x2, M3)
  else
    lp_X10_shod_29 (fun (x15 : Int32) => some (x15, M)) fu M a0 a1 a2 fu (-1 : Int32) (0 : Int32) (0 : Int32) (0 : Int32)
set_option maxHeartbeats 4000000 in
theorem w_X10_shod_29 {C : gz_C} {y : Int32 × gz_M} {fu : Nat} {M : gz_M} {a0 : Nat} {a1 : Int32} {a2 : Int32} {j110 : Int32 → Option (Int32 × gz_M)} (hC : gz_ok C cX10_shod RX10 9) (hX : gz_cx C 5 132 0 0 (some .int) (some (.int y.1)) y.2 "shod") (hj110 : ∀ (x15 : Int32), j110 x15 = some y → gz_go C 0 0 M [(3, .int x15)] 110 []) : ∀ (n : Nat) (x4 : Int32) (x5 : Int32) (x6 : Int32) (x7 : Int32), lp_X10_shod_29 j110 fu M a0 a1 a2 n x4 x5 x6 x7 = some y → gz_go C 0 0 M [(0, .ref a0), (1, .int a1), (2, .int a2), (3, .int x4), (4, .int x5), (5, .int x6), (6, .int x7)] 29 [] := by
  intro n
  induction n with
  | zero => intro x4 x5 x6 x7 hF; exact nomatch (show (none : Option (Int32 × gz_M)) = some y from hF)
  | succ n29 ih29 =>
    intro x4 x5 x6 x7 hF
    rw [lp_X10_shod_29.eq_2] at hF
    refine gz_iload 29 hC 6 dX10_shod_29 rfl ?_
    refine gz_aload_n 31 hC 0 dX10_shod_31 rfl rfl ?_
    refine gz_iload_n 32 hC 1 dX10_shod_32 rfl rfl ?_
    refine gz_cvP (st := [.int x7]) 33 hC hX [.int a1] Value.int yl_X10_all yv_X10_all q_1379 ⟨Nat.le_of_ble_eq_true rfl, Nat.le_of_ble_eq_true rfl⟩ ⟨_, rfl⟩ (fun r h => ct_X10_all _ _ fu M a0 a1 r h) rfl rfl (Nat.le_of_ble_eq_true rfl) dX10_shod_33 gz_00 hF (fun x8 hF => ?_)
    refine gz_icmp_gt 36 110 hC dX10_shod_36 (by decide) hF (fun hF => ?_) (fun hF => ?_)
    · skip
      refine gz_sub [3] [(3, .int x4)] rfl ?_
      exact hj110 _ hF
    · skip
      refine gz_iload 39 hC 6 dX10_shod_39 rfl ?_
      refine gz_csP (st := []) 41 hC hX [.int x7] Value.int yl_X10_bits yv_X10_bits q_1423 ⟨Nat.le_of_ble_eq_true rfl, Nat.le_of_ble_eq_true rfl⟩ (fun r h => ct_X10_bits _ _ fu M x7 r h) rfl rfl (Nat.le_of_ble_eq_true rfl) dX10_shod_41 gz_00 hF (fun x9 hF => ?_)
      refine gz_iload_n 44 hC 2 dX10_shod_44 rfl rfl ?_
      refine gz_join (fun (j : Int32 → Int32 → Int32 → Option (Int32 × gz_M)) => ∀ (x12 : Int32) (x13 : Int32) (x14 : Int32), j x12 x13 x14 = some y → gz_go C 0 0 M [(0, .ref a0), (1, .int a1), (2, .int a2), (3, .int x12), (4, .int x13), (5, .int x14), (6, .int x7)] 104 []) hF (fun x12 x13 x14 hF => ?_) (fun j104 hj104 hF => ?_)
      · skip
        refine gz_iinc 104 hC (x7 + (1 : Int32)) 6 [(6, .int (x7 + (1 : Int32))), (0, .ref a0), (1, .int a1), (2, .int a2), (3, .int x12), (4, .int x13), (5, .int x14)] dX10_shod_104 rfl rfl (by decide) rfl ?_
        refine gz_goto 107 29 hC dX10_shod_107 (by decide) ?_
        refine gz_sub [1, 2, 3, 4, 5, 6, 0] [(0, .ref a0), (1, .int a1), (2, .int a2), (3, .int x12), (4, .int x13), (5, .int x14), (6, .int (x7 + (1 : Int32)))] rfl ?_
        exact ih29 _ _ _ _ hF
      refine gz_icmp_gt 45 104 hC dX10_shod_45 (by decide) hF (fun hF => ?_) (fun hF => ?_)
      · skip
        exact hj104 _ _ _ hF
      · skip
        refine gz_aload_n 48 hC 0 dX10_shod_48 rfl rfl ?_
        refine gz_iload_n 49 hC 1 dX10_shod_49 rfl rfl ?_
        refine gz_iload 50 hC 6 dX10_shod_50 rfl ?_
        refine gz_cvP (st := []) 52 hC hX [.int a1, .int x7] Value.int yl_X10_outTimes yv_X10_outTimes q_1458 ⟨Nat.le_of_ble_eq_true rfl, Nat.le_of_ble_eq_true rfl⟩ ⟨_, rfl⟩ (fun r h => ct_X10_outTimes _ _ fu M a0 a1 x7 r h) rfl rfl (Nat.le_of_ble_eq_true rfl) dX10_shod_52 gz_00 hF (fun x10 hF => ?_)
        refine gz_istore 55 hC [(7, .int x10), (0, .ref a0), (1, .int a1), (2, .int a2), (3, .int x4), (4, .int x5), (5, .int x6), (6, .int x7)] dX10_shod_55 (by decide) rfl ?_
        refine gz_aload_n 57 hC 1 dX10_shod_57 rfl rfl ?_
        refine gz_iload_n 58 hC 2 dX10_shod_58 rfl rfl ?_
        refine gz_iload 59 hC 7 dX10_shod_59 rfl ?_
        refine gz_iconst 61 hC (-1 : Int32) dX10_shod_61 gz_km1 ?_
        refine gz_cvP (st := []) 62 hC hX [.int a1, .int x7, .int (-1 : Int32)] Value.int yl_X10_totalOf yv_X10_totalOf q_1391 ⟨Nat.le_of_ble_eq_true rfl, Nat.le_of_ble_eq_true rfl⟩ ⟨_, rfl⟩ (fun r h => ct_X10_totalOf _ _ fu M a0 a1 x7 (-1 : Int32) r h) rfl rfl (Nat.le_of_ble_eq_true rfl) dX10_shod_62 gz_00 hF (fun x11 hF => ?_)
        refine gz_istore 65 hC [(8, .int x11), (7, .int x10), (0, .ref a0), (1, .int a1), (2, .int a2), (3, .int x4), (4, .int x5), (5, .int x6), (6, .int x7)] dX10_shod_65 (by decide) rfl ?_
        refine gz_iload_n 67 hC 5 dX10_shod_67 rfl rfl ?_
        refine gz_iconst 68 hC (-1 : Int32) dX10_shod_68 gz_km1 ?_
        refine gz_join (fun (j : Option (Int32 × gz_M)) => j = some y → gz_go C 0 0 M [(0, .ref a0), (1, .int a1), (2, .int a2), (6, .int x7), (7, .int x10), (8, .int x11)] 93 []) hF (fun hF => ?_) (fun j93 hj93 hF => ?_)
        · skip
          refine gz_iload 93 hC 3 dX10_shod_93 rfl ?_
          refine gz_istore_n 95 hC [(3, .int x7), (0, .ref a0), (1, .int a1), (2, .int a2), (6, .int x7), (7, .int x10), (8, .int x11)] dX10_shod_95 rfl (by decide) rfl ?_
          refine gz_iload 96 hC 5 dX10_shod_96 rfl ?_
          refine gz_istore 98 hC [(4, .int x10), (3, .int x7), (0, .ref a0), (1, .int a1), (2, .int a2), (6, .int x7), (7, .int x10), (8, .int x11)] dX10_shod_98 (by decide) rfl ?_
          refine gz_iload 100 hC 7 dX10_shod_100 rfl ?_
          refine gz_istore 102 hC [(5, .int x11), (4, .int x10), (3, .int x7), (0, .ref a0), (1, .int a1), (2, .int a2), (6, .int x7), (7, .int x10), (8, .int x11)] dX10_shod_102 (by decide) rfl ?_
          refine gz_sub [3, 4, 5, 2, 1, 0, 6] [(0, .ref a0), (1, .int a1), (2, .int a2), (3, .int x7), (4, .int x10), (5, .int x11), (6, .int x7)] rfl ?_
          exact hj104 _ _ _ hF
        refine gz_icmp_eq 69 93 hC dX10_shod_69 (by decide) hF (fun hF => ?_) (fun hF => ?_)
        · skip
          refine gz_sub [2, 3, 4, 8, 1, 0] [(0, .ref a0), (1, .int a1), (2, .int a2), (6, .int x7), (7, .int x10), (8, .int x11)] rfl ?_
          exact hj93 hF
        · skip
          refine gz_iload 72 hC 1 dX10_shod_72 rfl ?_
          refine gz_iload 74 hC 6 dX10_shod_74 rfl ?_
          refine gz_icmp_lt 76 93 hC dX10_shod_76 (by decide) hF (fun hF => ?_) (fun hF => ?_)
          · skip
            refine gz_sub [2, 3, 4, 8, 1, 0] [(0, .ref a0), (1, .int a1), (2, .int a2), (6, .int x7), (7, .int x10), (8, .int x11)] rfl ?_
            exact hj93 hF
          · skip
            refine gz_iload 79 hC 1 dX10_shod_79 rfl ?_
            refine gz_iload 81 hC 6 dX10_shod_81 rfl ?_
            refine gz_icmp_ne 83 104 hC dX10_shod_83 (by decide) hF (fun hF => ?_) (fun hF => ?_)
            · skip
              refine gz_sub [2, 3, 4, 5, 6, 7, 8] [(0, .ref a0), (1, .int a1), (2, .int a2), (3, .int x4), (4, .int x5), (5, .int x6), (6, .int x7)] rfl ?_
              exact hj104 _ _ _ hF
            · skip
              refine gz_iload 86 hC 0 dX10_shod_86 rfl ?_
              refine gz_iload 88 hC 7 dX10_shod_88 rfl ?_
              refine gz_icmp_ge 90 104 hC dX10_shod_90 (by decide) hF (fun hF => ?_) (fun hF => ?_)
              · skip
                refine gz_sub [2, 3, 4, 5, 6, 7, 8] [(0, .ref a0), (1, .int a1), (2, .int a2), (3, .int x4), (4, .int x5), (5, .int x6), (6, .int x7)] rfl ?_
                exact hj104 _ _ _ hF
              · skip
                refine gz_sub [2, 3, 4, 8, 1, 0] [(0, .ref a0), (1, .int a1), (2, .int a2), (6, .int x7), (7, .int x10), (8, .int x11)] rfl ?_
                exact hj93 hF
set_option maxHeartbeats 4000000 in
theorem ct_X10_shod (l : Launch) (G : gz_G) (fu : Nat) (M : gz_M) (a0 : Nat) (a1 : Int32) (a2 : Int32) (y : Int32 × gz_M) (hF : f_X10_shod fu M a0 a1 a2 = some y) : gz_ct l yX10_shod cX10_shod 9 (some .int) 5 132 0 0 G [.ref a0, .int a1, .int a2] M (some (.int y.1)) y.2 := by
  refine gz_ct.of (by decide) (Nat.le_of_ble_eq_true rfl) (fun C hC hX => ?_)
  unfold f_X10_shod at hF
  obtain ⟨-, hF⟩ := gz_gd_some hF
  show gz_go C 0 0 M [(0, .ref a0), (1, .int a1), (2, .int a2)] 0 []
  refine gz_aload_n 0 hC 0 dX10_shod_0 rfl rfl ?_
  refine gz_iload_n 1 hC 1 dX10_shod_1 rfl rfl ?_
  refine gz_iload_n 2 hC 2 dX10_shod_2 rfl rfl ?_
  refine gz_bipush 3 hC (10 : Int32) dX10_shod_3 gz_b10 ?_
  refine gz_cvP (st := []) 5 hC hX [.int a1, .int a2, .int (10 : Int32)] Value.int yl_X10_isMany yv_X10_isMany q_1415 ⟨Nat.le_of_ble_eq_true rfl, Nat.le_of_ble_eq_true rfl⟩ ⟨_, rfl⟩ (fun r h => ct_X10_isMany _ _ fu M a0 a1 a2 (10 : Int32) r h) rfl rfl (Nat.le_of_ble_eq_true rfl) dX10_shod_5 gz_00 hF (fun x1 hF => ?_)
  refine gz_if_ne 8 18 hC dX10_shod_8 (by decide) hF (fun hF => ?_) (fun hF => ?_)
  · skip
    refine gz_iconst 18 hC (-1 : Int32) dX10_shod_18 gz_km1 ?_
    refine gz_istore_n 19 hC [(3, .int (-1 : Int32)), (0, .ref a0), (1, .int a1), (2, .int a2)] dX10_shod_19 rfl (by decide) rfl ?_
    refine gz_iconst 20 hC (0 : Int32) dX10_shod_20 gz_k0 ?_
    refine gz_istore 21 hC [(4, .int (0 : Int32)), (3, .int (-1 : Int32)), (0, .ref a0), (1, .int a1), (2, .int a2)] dX10_shod_21 (by decide) rfl ?_
    refine gz_iconst 23 hC (0 : Int32) dX10_shod_23 gz_k0 ?_
    refine gz_istore 24 hC [(5, .int (0 : Int32)), (4, .int (0 : Int32)), (3, .int (-1 : Int32)), (0, .ref a0), (1, .int a1), (2, .int a2)] dX10_shod_24 (by decide) rfl ?_
    refine gz_iconst 26 hC (0 : Int32) dX10_shod_26 gz_k0 ?_
    refine gz_istore 27 hC [(6, .int (0 : Int32)), (5, .int (0 : Int32)), (4, .int (0 : Int32)), (3, .int (-1 : Int32)), (0, .ref a0), (1, .int a1), (2, .int a2)] dX10_shod_27 (by decide) rfl ?_
    refine gz_sub [4, 5, 6, 3, 2, 1, 0] [(0, .ref a0), (1, .int a1), (2, .int a2), (3, .int (-1 : Int32)), (4, .int (0 : Int32)), (5, .int (0 : Int32)), (6, .int (0 : Int32))] rfl ?_
    refine w_X10_shod_29 hC hX ?_ _ _ _ _ _ hF
    intro x15 hF
    refine gz_iload_n 110 hC 0 dX10_shod_110 rfl rfl ?_
    exact gz_iretM 111 hC hX dX10_shod_111 hF
  · skip
    refine gz_aload_n 11 hC 0 dX10_shod_11 rfl rfl ?_
    refine gz_bipush 12 hC (-2 : Int32) dX10_shod_12 gz_bm2 ?_
    refine gz_cvM (st := []) 14 hC hX [.int (-2 : Int32)] Value.int yl_X10_refuse yv_X10_refuse q_1175 ⟨Nat.le_of_ble_eq_true rfl, Nat.le_of_ble_eq_true rfl⟩ ⟨_, rfl⟩ (fun r h => ct_X10_refuse _ _ fu M a0 (-2 : Int32) r h) rfl rfl (Nat.le_of_ble_eq_true rfl) dX10_shod_14 gz_00 hF (fun x2 M3 hF => ?_)
    exact gz_iretM 17 hC hX dX10_shod_17 hF

theorem dX10_measures_0 : decode cX10_measures 0 = .ok (.iconst 0, 1) := by decide +kernel
theorem dX10_measures_1 : decode cX10_measures 1 = .ok (.istore 4, 2) := by decide +kernel
theorem dX10_measures_3 : decode cX10_measures 3 = .ok (.iconst 0, 1) := by decide +kernel
theorem dX10_measures_4 : decode cX10_measures 4 = .ok (.istore 5, 2) := by decide +kernel
theorem dX10_measures_6 : decode cX10_measures 6 = .ok (.iload 5, 2) := by decide +kernel
theorem dX10_measures_8 : decode cX10_measures 8 = .ok (.bipush 30, 2) := by decide +kernel
theorem dX10_measures_10 : decode cX10_measures 10 = .ok (.if_icmp .gt 68, 3) := by decide +kernel
theorem dX10_measures_13 : decode cX10_measures 13 = .ok (.iconst 0, 1) := by decide +kernel
theorem dX10_measures_14 : decode cX10_measures 14 = .ok (.istore 6, 2) := by decide +kernel
theorem dX10_measures_16 : decode cX10_measures 16 = .ok (.iconst 0, 1) := by decide +kernel
theorem dX10_measures_17 : decode cX10_measures 17 = .ok (.istore 7, 2) := by decide +kernel
theorem dX10_measures_19 : decode cX10_measures 19 = .ok (.iload 7, 2) := by decide +kernel
theorem dX10_measures_21 : decode cX10_measures 21 = .ok (.aload_n 0, 1) := by decide +kernel
theorem dX10_measures_22 : decode cX10_measures 22 = .ok (.iload_n 1, 1) := by decide +kernel
theorem dX10_measures_23 : decode cX10_measures 23 = .ok (.invokevirtual 81, 3) := by decide +kernel
theorem dX10_measures_26 : decode cX10_measures 26 = .ok (.if_icmp .ge 32, 3) := by decide +kernel
theorem dX10_measures_29 : decode cX10_measures 29 = .ok (.iload 6, 2) := by decide +kernel
theorem dX10_measures_31 : decode cX10_measures 31 = .ok (.aload_n 0, 1) := by decide +kernel
theorem dX10_measures_32 : decode cX10_measures 32 = .ok (.iload_n 1, 1) := by decide +kernel
theorem dX10_measures_33 : decode cX10_measures 33 = .ok (.iload 7, 2) := by decide +kernel
theorem dX10_measures_35 : decode cX10_measures 35 = .ok (.iload_n 2, 1) := by decide +kernel
theorem dX10_measures_36 : decode cX10_measures 36 = .ok (.invokevirtual 114, 3) := by decide +kernel
theorem dX10_measures_39 : decode cX10_measures 39 = .ok (.iload 5, 2) := by decide +kernel
theorem dX10_measures_41 : decode cX10_measures 41 = .ok (.if_icmp .ne 7, 3) := by decide +kernel
theorem dX10_measures_44 : decode cX10_measures 44 = .ok (.iconst 1, 1) := by decide +kernel
theorem dX10_measures_45 : decode cX10_measures 45 = .ok (.goto 4, 3) := by decide +kernel
theorem dX10_measures_48 : decode cX10_measures 48 = .ok (.iconst 0, 1) := by decide +kernel
theorem dX10_measures_49 : decode cX10_measures 49 = .ok (.ior, 1) := by decide +kernel
theorem dX10_measures_50 : decode cX10_measures 50 = .ok (.istore 6, 2) := by decide +kernel
theorem dX10_measures_52 : decode cX10_measures 52 = .ok (.iinc 7 1, 3) := by decide +kernel
theorem dX10_measures_55 : decode cX10_measures 55 = .ok (.goto (-36), 3) := by decide +kernel
theorem dX10_measures_58 : decode cX10_measures 58 = .ok (.iload 6, 2) := by decide +kernel
theorem dX10_measures_60 : decode cX10_measures 60 = .ok (.ifCond .eq 12, 3) := by decide +kernel
theorem dX10_measures_63 : decode cX10_measures 63 = .ok (.aload_n 3, 1) := by decide +kernel
theorem dX10_measures_64 : decode cX10_measures 64 = .ok (.iload 4, 2) := by decide +kernel
theorem dX10_measures_66 : decode cX10_measures 66 = .ok (.iinc 4 1, 3) := by decide +kernel
theorem dX10_measures_69 : decode cX10_measures 69 = .ok (.iload 5, 2) := by decide +kernel
theorem dX10_measures_71 : decode cX10_measures 71 = .ok (.iastore, 1) := by decide +kernel
theorem dX10_measures_72 : decode cX10_measures 72 = .ok (.iinc 5 1, 3) := by decide +kernel
theorem dX10_measures_75 : decode cX10_measures 75 = .ok (.goto (-69), 3) := by decide +kernel
theorem dX10_measures_78 : decode cX10_measures 78 = .ok (.iload 4, 2) := by decide +kernel
theorem dX10_measures_80 : decode cX10_measures 80 = .ok (.ireturn, 1) := by decide +kernel
def lp_X10_measures_19 (j58 : Int32 → Option (Int32 × gz_M)) (fu : Nat) (M3 : gz_M) (a0 : Nat) (a1 : Int32) (a2 : Int32) (x2 : Int32) : Nat → Int32 → Int32 → Option (Int32 × gz_M)
  | 0, _, _ => none
  | n19 + 1, x4, x5 =>
    (f_X10_feetOf fu M3 a0 a1).bind fun x6 =>
    if x6 ≤ x5 then
      j58 x4
    else
      (f_X10_of fu M3 a0 a1 x5 a2).bind fun x7 =>
      gz_jn (fun (x8 : Int32) =>
      lp_X10_measures_19 j58 fu M3 a0 a1 a2 x2 n19 (x4 ||| x8) (x5 + (1 : Int32))) fun j49 =>
      if x7 = x2 then
        j49 (1 : Int32)
      else
        j49 (0 : Int32)
def lp_X10_measures_6 (j78 : Int32 → gz_M → Option (Int32 × gz_M)) (fu : Nat) (a0 : Nat) (a1 : Int32) (a2 : Int32) (a3 : Nat) : Nat → Int32 → Int32 → gz_M → Option (Int32 × gz_M)
  | 0, _, _, _ => none
  | n6 + 1, x1, x2, M3 =>
    if (30 : Int32) < x2 then
      j78 x1 M3
    else
      lp_X10_measures_19 (fun (x9 : Int32) => gz_jn (fun (x11 : Int32) (M12 : gz_M) =>
        lp_X10_measures_6 j78 fu a0 a1 a2 a3 n6 x11 (x2 + (1 : Int32)) M12) fun j72 =>
        if x9 = 0 then
          j72 x1 M3
        else
          (gz_tI M3 a3 x1 x2).bind fun M10 =>
          j72 (x1 + (1 : Int32)) M10) fu M3 a0 a1 a2 x2 fu (0 : Int32) (0 : Int32)
def f_X10_measures (fu : Nat) (M : gz_M) (a0 : Nat) (a1 : Int32) (a2 : Int32) (a3 : Nat) : Option (Int32 × gz_M) :=
  gz_gd M 10 a0 <|
  lp_X10_measures_6 (fun (x13 : Int32) (M14 : gz_M) => some (x13, M14)) fu a0 a1 a2 a3 fu (0 : Int32) (0 : Int32) M
set_option maxHeartbeats 4000000 in
theorem w_X10_measures_19 {C : gz_C} {y : Int32 × gz_M} {fu : Nat} {M3 : gz_M} {a0 : Nat} {a1 : Int32} {a2 : Int32} {x2 : Int32} {a3 : Nat} {x1 : Int32} {j58 : Int32 → Option (Int32 × gz_M)} (hC : gz_ok C cX10_measures RX10 8) (hX : gz_cx C 1 23 0 0 (some .int) (some (.int y.1)) y.2 "measures") (hj58 : ∀ (x9 : Int32), j58 x9 = some y → gz_go C 0 0 M3 [(0, .ref a0), (1, .int a1), (2, .int a2), (3, .ref a3), (4, .int x1), (5, .int x2), (6, .int x9)] 58 []) : ∀ (n : Nat) (x4 : Int32) (x5 : Int32), lp_X10_measures_19 j58 fu M3 a0 a1 a2 x2 n x4 x5 = some y → gz_go C 0 0 M3 [(0, .ref a0), (1, .int a1), (2, .int a2), (3, .ref a3), (4, .int x1), (5, .int x2), (6, .int x4), (7, .int x5)] 19 [] := by
  intro n
  induction n with
  | zero => intro x4 x5 hF; exact nomatch (show (none : Option (Int32 × gz_M)) = some y from hF)
  | succ n19 ih19 =>
    intro x4 x5 hF
    rw [lp_X10_measures_19.eq_2] at hF
    refine gz_iload 19 hC 7 dX10_measures_19 rfl ?_
    refine gz_aload_n 21 hC 0 dX10_measures_21 rfl rfl ?_
    refine gz_iload_n 22 hC 1 dX10_measures_22 rfl rfl ?_
    refine gz_cvP (st := [.int x5]) 23 hC hX [.int a1] Value.int yl_X10_feetOf yv_X10_feetOf q_1221 ⟨Nat.le_of_ble_eq_true rfl, Nat.le_of_ble_eq_true rfl⟩ ⟨_, rfl⟩ (fun r h => ct_X10_feetOf _ _ fu M3 a0 a1 r h) rfl rfl (Nat.le_of_ble_eq_true rfl) dX10_measures_23 gz_00 hF (fun x6 hF => ?_)
    refine gz_icmp_ge 26 58 hC dX10_measures_26 (by decide) hF (fun hF => ?_) (fun hF => ?_)
    · skip
      refine gz_sub [0, 1, 2, 3, 4, 5, 6] [(0, .ref a0), (1, .int a1), (2, .int a2), (3, .ref a3), (4, .int x1), (5, .int x2), (6, .int x4)] rfl ?_
      exact hj58 _ hF
    · skip
      refine gz_iload 29 hC 6 dX10_measures_29 rfl ?_
      refine gz_aload_n 31 hC 0 dX10_measures_31 rfl rfl ?_
      refine gz_iload_n 32 hC 1 dX10_measures_32 rfl rfl ?_
      refine gz_iload 33 hC 7 dX10_measures_33 rfl ?_
      refine gz_iload_n 35 hC 2 dX10_measures_35 rfl rfl ?_
      refine gz_cvP (st := [.int x4]) 36 hC hX [.int a1, .int x5, .int a2] Value.int yl_X10_of yv_X10_of q_1241 ⟨Nat.le_of_ble_eq_true rfl, Nat.le_of_ble_eq_true rfl⟩ ⟨_, rfl⟩ (fun r h => ct_X10_of _ _ fu M3 a0 a1 x5 a2 r h) rfl rfl (Nat.le_of_ble_eq_true rfl) dX10_measures_36 gz_00 hF (fun x7 hF => ?_)
      refine gz_iload 39 hC 5 dX10_measures_39 rfl ?_
      refine gz_join (fun (j : Int32 → Option (Int32 × gz_M)) => ∀ (x8 : Int32), j x8 = some y → gz_go C 0 0 M3 [(0, .ref a0), (1, .int a1), (2, .int a2), (3, .ref a3), (4, .int x1), (5, .int x2), (7, .int x5)] 49 [.int x8, .int x4]) hF (fun x8 hF => ?_) (fun j49 hj49 hF => ?_)
      · skip
        refine gz_ior 49 hC dX10_measures_49 ?_
        refine gz_istore 50 hC [(6, .int (x4 ||| x8)), (0, .ref a0), (1, .int a1), (2, .int a2), (3, .ref a3), (4, .int x1), (5, .int x2), (7, .int x5)] dX10_measures_50 (by decide) rfl ?_
        refine gz_iinc 52 hC (x5 + (1 : Int32)) 7 [(7, .int (x5 + (1 : Int32))), (6, .int (x4 ||| x8)), (0, .ref a0), (1, .int a1), (2, .int a2), (3, .ref a3), (4, .int x1), (5, .int x2)] dX10_measures_52 rfl rfl (by decide) rfl ?_
        refine gz_goto 55 19 hC dX10_measures_55 (by decide) ?_
        refine gz_sub [2, 3, 4, 5, 6, 7, 1, 0] [(0, .ref a0), (1, .int a1), (2, .int a2), (3, .ref a3), (4, .int x1), (5, .int x2), (6, .int (x4 ||| x8)), (7, .int (x5 + (1 : Int32)))] rfl ?_
        exact ih19 _ _ hF
      refine gz_icmp_ne 41 48 hC dX10_measures_41 (by decide) hF (fun hF => ?_) (fun hF => ?_)
      · skip
        refine gz_iconst 48 hC (0 : Int32) dX10_measures_48 gz_k0 ?_
        refine gz_sub [0, 1, 2, 3, 4, 5, 7] [(0, .ref a0), (1, .int a1), (2, .int a2), (3, .ref a3), (4, .int x1), (5, .int x2), (7, .int x5)] rfl ?_
        exact hj49 _ hF
      · skip
        refine gz_iconst 44 hC (1 : Int32) dX10_measures_44 gz_k1 ?_
        refine gz_goto 45 49 hC dX10_measures_45 (by decide) ?_
        refine gz_sub [0, 1, 2, 3, 4, 5, 7] [(0, .ref a0), (1, .int a1), (2, .int a2), (3, .ref a3), (4, .int x1), (5, .int x2), (7, .int x5)] rfl ?_
        exact hj49 _ hF
set_option maxHeartbeats 4000000 in
theorem w_X10_measures_6 {C : gz_C} {y : Int32 × gz_M} {fu : Nat} {a0 : Nat} {a1 : Int32} {a2 : Int32} {a3 : Nat} {j78 : Int32 → gz_M → Option (Int32 × gz_M)} (hC : gz_ok C cX10_measures RX10 8) (hX : gz_cx C 1 23 0 0 (some .int) (some (.int y.1)) y.2 "measures") (hj78 : ∀ (x13 : Int32) (M14 : gz_M), j78 x13 M14 = some y → gz_go C 0 0 M14 [(4, .int x13)] 78 []) : ∀ (n : Nat) (x1 : Int32) (x2 : Int32) (M3 : gz_M), lp_X10_measures_6 j78 fu a0 a1 a2 a3 n x1 x2 M3 = some y → gz_go C 0 0 M3 [(0, .ref a0), (1, .int a1), (2, .int a2), (3, .ref a3), (4, .int x1), (5, .int x2)] 6 [] := by
  intro n
  induction n with
  | zero => intro x1 x2 M3 hF; exact nomatch (show (none : Option (Int32 × gz_M)) = some y from hF)
  | succ n6 ih6 =>
    intro x1 x2 M3 hF
    rw [lp_X10_measures_6.eq_2] at hF
    refine gz_iload 6 hC 5 dX10_measures_6 rfl ?_
    refine gz_bipush 8 hC (30 : Int32) dX10_measures_8 gz_b30 ?_
    refine gz_icmp_gt 10 78 hC dX10_measures_10 (by decide) hF (fun hF => ?_) (fun hF => ?_)
    · skip
      refine gz_sub [4] [(4, .int x1)] rfl ?_
      exact hj78 _ _ hF
    · skip
      refine gz_iconst 13 hC (0 : Int32) dX10_measures_13 gz_k0 ?_
      refine gz_istore 14 hC [(6, .int (0 : Int32)), (0, .ref a0), (1, .int a1), (2, .int a2), (3, .ref a3), (4, .int x1), (5, .int x2)] dX10_measures_14 (by decide) rfl ?_
      refine gz_iconst 16 hC (0 : Int32) dX10_measures_16 gz_k0 ?_
      refine gz_istore 17 hC [(7, .int (0 : Int32)), (6, .int (0 : Int32)), (0, .ref a0), (1, .int a1), (2, .int a2), (3, .ref a3), (4, .int x1), (5, .int x2)] dX10_measures_17 (by decide) rfl ?_
      refine gz_sub [2, 3, 4, 5, 6, 7, 1, 0] [(0, .ref a0), (1, .int a1), (2, .int a2), (3, .ref a3), (4, .int x1), (5, .int x2), (6, .int (0 : Int32)), (7, .int (0 : Int32))] rfl ?_
      refine w_X10_measures_19 hC hX ?_ _ _ _ hF
      intro x9 hF
      refine gz_iload 58 hC 6 dX10_measures_58 rfl ?_
      refine gz_join (fun (j : Int32 → gz_M → Option (Int32 × gz_M)) => ∀ (x11 : Int32) (M12 : gz_M), j x11 M12 = some y → gz_go C 0 0 M12 [(0, .ref a0), (1, .int a1), (2, .int a2), (3, .ref a3), (4, .int x11), (5, .int x2)] 72 []) hF (fun x11 M12 hF => ?_) (fun j72 hj72 hF => ?_)
      · skip
        refine gz_iinc 72 hC (x2 + (1 : Int32)) 5 [(5, .int (x2 + (1 : Int32))), (0, .ref a0), (1, .int a1), (2, .int a2), (3, .ref a3), (4, .int x11)] dX10_measures_72 rfl rfl (by decide) rfl ?_
        refine gz_goto 75 6 hC dX10_measures_75 (by decide) ?_
        refine gz_sub [1, 2, 3, 4, 5, 0] [(0, .ref a0), (1, .int a1), (2, .int a2), (3, .ref a3), (4, .int x11), (5, .int (x2 + (1 : Int32)))] rfl ?_
        exact ih6 _ _ _ hF
      refine gz_if_eq 60 72 hC dX10_measures_60 (by decide) hF (fun hF => ?_) (fun hF => ?_)
      · skip
        refine gz_sub [0, 1, 2, 3, 4, 5] [(0, .ref a0), (1, .int a1), (2, .int a2), (3, .ref a3), (4, .int x1), (5, .int x2)] rfl ?_
        exact hj72 _ _ hF
      · skip
        refine gz_aload_n 63 hC 3 dX10_measures_63 rfl rfl ?_
        refine gz_iload 64 hC 4 dX10_measures_64 rfl ?_
        refine gz_iinc 66 hC (x1 + (1 : Int32)) 4 [(4, .int (x1 + (1 : Int32))), (0, .ref a0), (1, .int a1), (2, .int a2), (3, .ref a3), (5, .int x2), (6, .int x9)] dX10_measures_66 rfl rfl (by decide) rfl ?_
        refine gz_iload 69 hC 5 dX10_measures_69 rfl ?_
        refine gz_iast 71 hC dX10_measures_71 hF (fun M10 hF => ?_)
        refine gz_sub [1, 2, 3, 4, 0, 5] [(0, .ref a0), (1, .int a1), (2, .int a2), (3, .ref a3), (4, .int (x1 + (1 : Int32))), (5, .int x2)] rfl ?_
        exact hj72 _ _ hF
set_option maxHeartbeats 4000000 in
theorem ct_X10_measures (l : Launch) (G : gz_G) (fu : Nat) (M : gz_M) (a0 : Nat) (a1 : Int32) (a2 : Int32) (a3 : Nat) (y : Int32 × gz_M) (hF : f_X10_measures fu M a0 a1 a2 a3 = some y) : gz_ct l yX10_measures cX10_measures 8 (some .int) 1 23 0 0 G [.ref a0, .int a1, .int a2, .ref a3] M (some (.int y.1)) y.2 := by
  refine gz_ct.of (by decide) (Nat.le_of_ble_eq_true rfl) (fun C hC hX => ?_)
  unfold f_X10_measures at hF
  obtain ⟨-, hF⟩ := gz_gd_some hF
  show gz_go C 0 0 M [(0, .ref a0), (1, .int a1), (2, .int a2), (3, .ref a3)] 0 []
  refine gz_iconst 0 hC (0 : Int32) dX10_measures_0 gz_k0 ?_
  refine gz_istore 1 hC [(4, .int (0 : Int32)), (0, .ref a0), (1, .int a1), (2, .int a2), (3, .ref a3)] dX10_measures_1 (by decide) rfl ?_
  refine gz_iconst 3 hC (0 : Int32) dX10_measures_3 gz_k0 ?_
  refine gz_istore 4 hC [(5, .int (0 : Int32)), (4, .int (0 : Int32)), (0, .ref a0), (1, .int a1), (2, .int a2), (3, .ref a3)] dX10_measures_4 (by decide) rfl ?_
  refine gz_sub [2, 3, 4, 5, 1, 0] [(0, .ref a0), (1, .int a1), (2, .int a2), (3, .ref a3), (4, .int (0 : Int32)), (5, .int (0 : Int32))] rfl ?_
  refine w_X10_measures_6 hC hX ?_ _ _ _ _ hF
  intro x13 M14 hF
  refine gz_iload 78 hC 0 dX10_measures_78 rfl ?_
  exact gz_iretM 80 hC hX dX10_measures_80 hF

theorem dX10_lineSum_0 : decode cX10_lineSum 0 = .ok (.iconst 0, 1) := by decide +kernel
theorem dX10_lineSum_1 : decode cX10_lineSum 1 = .ok (.istore 4, 2) := by decide +kernel
theorem dX10_lineSum_3 : decode cX10_lineSum 3 = .ok (.iconst 0, 1) := by decide +kernel
theorem dX10_lineSum_4 : decode cX10_lineSum 4 = .ok (.istore 5, 2) := by decide +kernel
theorem dX10_lineSum_6 : decode cX10_lineSum 6 = .ok (.iload 5, 2) := by decide +kernel
theorem dX10_lineSum_8 : decode cX10_lineSum 8 = .ok (.aload_n 0, 1) := by decide +kernel
theorem dX10_lineSum_9 : decode cX10_lineSum 9 = .ok (.iload_n 1, 1) := by decide +kernel
theorem dX10_lineSum_10 : decode cX10_lineSum 10 = .ok (.invokevirtual 81, 3) := by decide +kernel
theorem dX10_lineSum_13 : decode cX10_lineSum 13 = .ok (.if_icmp .ge 86, 3) := by decide +kernel
theorem dX10_lineSum_16 : decode cX10_lineSum 16 = .ok (.iconst 0, 1) := by decide +kernel
theorem dX10_lineSum_17 : decode cX10_lineSum 17 = .ok (.istore 6, 2) := by decide +kernel
theorem dX10_lineSum_19 : decode cX10_lineSum 19 = .ok (.iload_n 3, 1) := by decide +kernel
theorem dX10_lineSum_20 : decode cX10_lineSum 20 = .ok (.iload 6, 2) := by decide +kernel
theorem dX10_lineSum_22 : decode cX10_lineSum 22 = .ok (.ishr, 1) := by decide +kernel
theorem dX10_lineSum_23 : decode cX10_lineSum 23 = .ok (.iconst 1, 1) := by decide +kernel
theorem dX10_lineSum_24 : decode cX10_lineSum 24 = .ok (.iand, 1) := by decide +kernel
theorem dX10_lineSum_25 : decode cX10_lineSum 25 = .ok (.ifCond .eq 21, 3) := by decide +kernel
theorem dX10_lineSum_28 : decode cX10_lineSum 28 = .ok (.aload_n 0, 1) := by decide +kernel
theorem dX10_lineSum_29 : decode cX10_lineSum 29 = .ok (.getfield 61, 3) := by decide +kernel
theorem dX10_lineSum_32 : decode cX10_lineSum 32 = .ok (.iload 6, 2) := by decide +kernel
theorem dX10_lineSum_34 : decode cX10_lineSum 34 = .ok (.iaload, 1) := by decide +kernel
theorem dX10_lineSum_35 : decode cX10_lineSum 35 = .ok (.aload_n 0, 1) := by decide +kernel
theorem dX10_lineSum_36 : decode cX10_lineSum 36 = .ok (.iload_n 1, 1) := by decide +kernel
theorem dX10_lineSum_37 : decode cX10_lineSum 37 = .ok (.iload 5, 2) := by decide +kernel
theorem dX10_lineSum_39 : decode cX10_lineSum 39 = .ok (.iload_n 2, 1) := by decide +kernel
theorem dX10_lineSum_40 : decode cX10_lineSum 40 = .ok (.invokevirtual 114, 3) := by decide +kernel
theorem dX10_lineSum_43 : decode cX10_lineSum 43 = .ok (.if_icmp .ge 9, 3) := by decide +kernel
theorem dX10_lineSum_46 : decode cX10_lineSum 46 = .ok (.iinc 6 1, 3) := by decide +kernel
theorem dX10_lineSum_49 : decode cX10_lineSum 49 = .ok (.goto (-30), 3) := by decide +kernel
theorem dX10_lineSum_52 : decode cX10_lineSum 52 = .ok (.iload 4, 2) := by decide +kernel
theorem dX10_lineSum_54 : decode cX10_lineSum 54 = .ok (.aload_n 0, 1) := by decide +kernel
theorem dX10_lineSum_55 : decode cX10_lineSum 55 = .ok (.iload_n 1, 1) := by decide +kernel
theorem dX10_lineSum_56 : decode cX10_lineSum 56 = .ok (.iload 5, 2) := by decide +kernel
theorem dX10_lineSum_58 : decode cX10_lineSum 58 = .ok (.iconst 3, 1) := by decide +kernel
theorem dX10_lineSum_59 : decode cX10_lineSum 59 = .ok (.invokevirtual 114, 3) := by decide +kernel
theorem dX10_lineSum_62 : decode cX10_lineSum 62 = .ok (.aload_n 0, 1) := by decide +kernel
theorem dX10_lineSum_63 : decode cX10_lineSum 63 = .ok (.getfield 45, 3) := by decide +kernel
theorem dX10_lineSum_66 : decode cX10_lineSum 66 = .ok (.iload_n 1, 1) := by decide +kernel
theorem dX10_lineSum_67 : decode cX10_lineSum 67 = .ok (.aaload, 1) := by decide +kernel
theorem dX10_lineSum_68 : decode cX10_lineSum 68 = .ok (.iconst 4, 1) := by decide +kernel
theorem dX10_lineSum_69 : decode cX10_lineSum 69 = .ok (.iload_n 2, 1) := by decide +kernel
theorem dX10_lineSum_70 : decode cX10_lineSum 70 = .ok (.iadd, 1) := by decide +kernel
theorem dX10_lineSum_71 : decode cX10_lineSum 71 = .ok (.iaload, 1) := by decide +kernel
theorem dX10_lineSum_72 : decode cX10_lineSum 72 = .ok (.imul, 1) := by decide +kernel
theorem dX10_lineSum_73 : decode cX10_lineSum 73 = .ok (.aload_n 0, 1) := by decide +kernel
theorem dX10_lineSum_74 : decode cX10_lineSum 74 = .ok (.getfield 61, 3) := by decide +kernel
theorem dX10_lineSum_77 : decode cX10_lineSum 77 = .ok (.iload 6, 2) := by decide +kernel
theorem dX10_lineSum_79 : decode cX10_lineSum 79 = .ok (.iaload, 1) := by decide +kernel
theorem dX10_lineSum_80 : decode cX10_lineSum 80 = .ok (.aload_n 0, 1) := by decide +kernel
theorem dX10_lineSum_81 : decode cX10_lineSum 81 = .ok (.iload_n 1, 1) := by decide +kernel
theorem dX10_lineSum_82 : decode cX10_lineSum 82 = .ok (.iload 5, 2) := by decide +kernel
theorem dX10_lineSum_84 : decode cX10_lineSum 84 = .ok (.iload_n 2, 1) := by decide +kernel
theorem dX10_lineSum_85 : decode cX10_lineSum 85 = .ok (.invokevirtual 114, 3) := by decide +kernel
theorem dX10_lineSum_88 : decode cX10_lineSum 88 = .ok (.isub, 1) := by decide +kernel
theorem dX10_lineSum_89 : decode cX10_lineSum 89 = .ok (.imul, 1) := by decide +kernel
theorem dX10_lineSum_90 : decode cX10_lineSum 90 = .ok (.iadd, 1) := by decide +kernel
theorem dX10_lineSum_91 : decode cX10_lineSum 91 = .ok (.istore 4, 2) := by decide +kernel
theorem dX10_lineSum_93 : decode cX10_lineSum 93 = .ok (.iinc 5 1, 3) := by decide +kernel
theorem dX10_lineSum_96 : decode cX10_lineSum 96 = .ok (.goto (-90), 3) := by decide +kernel
theorem dX10_lineSum_99 : decode cX10_lineSum 99 = .ok (.iload 4, 2) := by decide +kernel
theorem dX10_lineSum_101 : decode cX10_lineSum 101 = .ok (.ireturn, 1) := by decide +kernel
def lp_X10_lineSum_19 (j52 : Int32 → Option (Int32)) (fu : Nat) (M : gz_M) (a0 : Nat) (a1 : Int32) (a2 : Int32) (a3 : Int32) (x2 : Int32) : Nat → Int32 → Option (Int32)
  | 0, _ => none
  | n19 + 1, x4 =>
    gz_jn (lp_X10_lineSum_19 j52 fu M a0 a1 a2 a3 x2 n19 (x4 + (1 : Int32))) fun j46 =>
    if ((a3 >>> (x4 &&& 31)) &&& (1 : Int32)) = 0 then
      j46
    else
      (gz_gR M 10 27 a0).bind fun x5 =>
      (gz_aI M x5 x4).bind fun x6 =>
      (f_X10_of fu M a0 a1 x2 a2).bind fun x7 =>
      if x7 ≤ x6 then
        j52 x4
      else
        j46
def lp_X10_lineSum_6 (j99 : Int32 → Option (Int32)) (fu : Nat) (M : gz_M) (a0 : Nat) (a1 : Int32) (a2 : Int32) (a3 : Int32) : Nat → Int32 → Int32 → Option (Int32)
  | 0, _, _ => none
  | n6 + 1, x1, x2 =>
    (f_X10_feetOf fu M a0 a1).bind fun x3 =>
    if x3 ≤ x2 then
      j99 x1
    else
      lp_X10_lineSum_19 (fun (x8 : Int32) => (f_X10_of fu M a0 a1 x2 (3 : Int32)).bind fun x9 =>
        (gz_gR M 10 12 a0).bind fun x10 =>
        (gz_aR M x10 a1).bind fun x11 =>
        (gz_aI M x11 ((4 : Int32) + a2)).bind fun x12 =>
        (gz_gR M 10 27 a0).bind fun x13 =>
        (gz_aI M x13 x8).bind fun x14 =>
        (f_X10_of fu M a0 a1 x2 a2).bind fun x15 =>
        lp_X10_lineSum_6 j99 fu M a0 a1 a2 a3 n6 (x1 + ((x9 * x12) * (x14 - x15))) (x2 + (1 : Int32))) fu M a0 a1 a2 a3 x2 fu (0 : Int32)
def f_X10_lineSum (fu : Nat) (M : gz_M) (a0 : Nat) (a1 : Int32) (a2 : Int32) (a3 : Int32) : Option (Int32) :=
  gz_gd M 10 a0 <|
  lp_X10_lineSum_6 (fun (x16 : Int32) => some x16) fu M a0 a1 a2 a3 fu (0 : Int32) (0 : Int32)
set_option maxHeartbeats 4000000 in
theorem w_X10_lineSum_19 {C : gz_C} {y : Int32} {fu : Nat} {M : gz_M} {a0 : Nat} {a1 : Int32} {a2 : Int32} {a3 : Int32} {x2 : Int32} {x1 : Int32} {j52 : Int32 → Option (Int32)} (hC : gz_ok C cX10_lineSum RX10 7) (hX : gz_cx C 1 23 0 0 (some .int) (some (.int y)) M "lineSum") (hj52 : ∀ (x8 : Int32), j52 x8 = some y → gz_go C 0 0 M [(0, .ref a0), (1, .int a1), (2, .int a2), (3, .int a3), (4, .int x1), (5, .int x2), (6, .int x8)] 52 []) : ∀ (n : Nat) (x4 : Int32), lp_X10_lineSum_19 j52 fu M a0 a1 a2 a3 x2 n x4 = some y → gz_go C 0 0 M [(0, .ref a0), (1, .int a1), (2, .int a2), (3, .int a3), (4, .int x1), (5, .int x2), (6, .int x4)] 19 [] := by
  intro n
  induction n with
  | zero => intro x4 hF; exact nomatch (show (none : Option (Int32)) = some y from hF)
  | succ n19 ih19 =>
    intro x4 hF
    rw [lp_X10_lineSum_19.eq_2] at hF
    refine gz_iload_n 19 hC 3 dX10_lineSum_19 rfl rfl ?_
    refine gz_iload 20 hC 6 dX10_lineSum_20 rfl ?_
    refine gz_ishr 22 hC dX10_lineSum_22 ?_
    refine gz_iconst 23 hC (1 : Int32) dX10_lineSum_23 gz_k1 ?_
    refine gz_iand 24 hC dX10_lineSum_24 ?_
    refine gz_join (fun (j : Option (Int32)) => j = some y → gz_go C 0 0 M [(0, .ref a0), (1, .int a1), (2, .int a2), (3, .int a3), (4, .int x1), (5, .int x2), (6, .int x4)] 46 []) hF (fun hF => ?_) (fun j46 hj46 hF => ?_)
    · skip
      refine gz_iinc 46 hC (x4 + (1 : Int32)) 6 [(6, .int (x4 + (1 : Int32))), (0, .ref a0), (1, .int a1), (2, .int a2), (3, .int a3), (4, .int x1), (5, .int x2)] dX10_lineSum_46 rfl rfl (by decide) rfl ?_
      refine gz_goto 49 19 hC dX10_lineSum_49 (by decide) ?_
      refine gz_sub [1, 2, 3, 4, 5, 6, 0] [(0, .ref a0), (1, .int a1), (2, .int a2), (3, .int a3), (4, .int x1), (5, .int x2), (6, .int (x4 + (1 : Int32)))] rfl ?_
      exact ih19 _ hF
    refine gz_if_eq 25 46 hC dX10_lineSum_25 (by decide) hF (fun hF => ?_) (fun hF => ?_)
    · skip
      exact hj46 hF
    · skip
      refine gz_aload_n 28 hC 0 dX10_lineSum_28 rfl rfl ?_
      refine gz_getR 29 hC fl_X10_61 fk_10_27 dX10_lineSum_29 hF (fun x5 hF => ?_)
      refine gz_iload 32 hC 6 dX10_lineSum_32 rfl ?_
      refine gz_iald 34 hC dX10_lineSum_34 hF (fun x6 hF => ?_)
      refine gz_aload_n 35 hC 0 dX10_lineSum_35 rfl rfl ?_
      refine gz_iload_n 36 hC 1 dX10_lineSum_36 rfl rfl ?_
      refine gz_iload 37 hC 5 dX10_lineSum_37 rfl ?_
      refine gz_iload_n 39 hC 2 dX10_lineSum_39 rfl rfl ?_
      refine gz_cvP (st := [.int x6]) 40 hC hX [.int a1, .int x2, .int a2] Value.int yl_X10_of yv_X10_of q_1241 ⟨Nat.le_of_ble_eq_true rfl, Nat.le_of_ble_eq_true rfl⟩ ⟨_, rfl⟩ (fun r h => ct_X10_of _ _ fu M a0 a1 x2 a2 r h) rfl rfl (Nat.le_of_ble_eq_true rfl) dX10_lineSum_40 gz_00 hF (fun x7 hF => ?_)
      refine gz_icmp_ge 43 52 hC dX10_lineSum_43 (by decide) hF (fun hF => ?_) (fun hF => ?_)
      · skip
        exact hj52 _ hF
      · skip
        exact hj46 hF
set_option maxHeartbeats 4000000 in
theorem w_X10_lineSum_6 {C : gz_C} {y : Int32} {fu : Nat} {M : gz_M} {a0 : Nat} {a1 : Int32} {a2 : Int32} {a3 : Int32} {j99 : Int32 → Option (Int32)} (hC : gz_ok C cX10_lineSum RX10 7) (hX : gz_cx C 1 23 0 0 (some .int) (some (.int y)) M "lineSum") (hj99 : ∀ (x16 : Int32), j99 x16 = some y → gz_go C 0 0 M [(4, .int x16)] 99 []) : ∀ (n : Nat) (x1 : Int32) (x2 : Int32), lp_X10_lineSum_6 j99 fu M a0 a1 a2 a3 n x1 x2 = some y → gz_go C 0 0 M [(0, .ref a0), (1, .int a1), (2, .int a2), (3, .int a3), (4, .int x1), (5, .int x2)] 6 [] := by
  intro n
  induction n with
  | zero => intro x1 x2 hF; exact nomatch (show (none : Option (Int32)) = some y from hF)
  | succ n6 ih6 =>
    intro x1 x2 hF
    rw [lp_X10_lineSum_6.eq_2] at hF
    refine gz_iload 6 hC 5 dX10_lineSum_6 rfl ?_
    refine gz_aload_n 8 hC 0 dX10_lineSum_8 rfl rfl ?_
    refine gz_iload_n 9 hC 1 dX10_lineSum_9 rfl rfl ?_
    refine gz_cvP (st := [.int x2]) 10 hC hX [.int a1] Value.int yl_X10_feetOf yv_X10_feetOf q_1221 ⟨Nat.le_of_ble_eq_true rfl, Nat.le_of_ble_eq_true rfl⟩ ⟨_, rfl⟩ (fun r h => ct_X10_feetOf _ _ fu M a0 a1 r h) rfl rfl (Nat.le_of_ble_eq_true rfl) dX10_lineSum_10 gz_00 hF (fun x3 hF => ?_)
    refine gz_icmp_ge 13 99 hC dX10_lineSum_13 (by decide) hF (fun hF => ?_) (fun hF => ?_)
    · skip
      refine gz_sub [4] [(4, .int x1)] rfl ?_
      exact hj99 _ hF
    · skip
      refine gz_iconst 16 hC (0 : Int32) dX10_lineSum_16 gz_k0 ?_
      refine gz_istore 17 hC [(6, .int (0 : Int32)), (0, .ref a0), (1, .int a1), (2, .int a2), (3, .int a3), (4, .int x1), (5, .int x2)] dX10_lineSum_17 (by decide) rfl ?_
      refine gz_sub [1, 2, 3, 4, 5, 6, 0] [(0, .ref a0), (1, .int a1), (2, .int a2), (3, .int a3), (4, .int x1), (5, .int x2), (6, .int (0 : Int32))] rfl ?_
      refine w_X10_lineSum_19 hC hX ?_ _ _ hF
      intro x8 hF
      refine gz_iload 52 hC 4 dX10_lineSum_52 rfl ?_
      refine gz_aload_n 54 hC 0 dX10_lineSum_54 rfl rfl ?_
      refine gz_iload_n 55 hC 1 dX10_lineSum_55 rfl rfl ?_
      refine gz_iload 56 hC 5 dX10_lineSum_56 rfl ?_
      refine gz_iconst 58 hC (3 : Int32) dX10_lineSum_58 gz_k3 ?_
      refine gz_cvP (st := [.int x1]) 59 hC hX [.int a1, .int x2, .int (3 : Int32)] Value.int yl_X10_of yv_X10_of q_1241 ⟨Nat.le_of_ble_eq_true rfl, Nat.le_of_ble_eq_true rfl⟩ ⟨_, rfl⟩ (fun r h => ct_X10_of _ _ fu M a0 a1 x2 (3 : Int32) r h) rfl rfl (Nat.le_of_ble_eq_true rfl) dX10_lineSum_59 gz_00 hF (fun x9 hF => ?_)
      refine gz_aload_n 62 hC 0 dX10_lineSum_62 rfl rfl ?_
      refine gz_getR 63 hC fl_X10_45 fk_10_12 dX10_lineSum_63 hF (fun x10 hF => ?_)
      refine gz_iload_n 66 hC 1 dX10_lineSum_66 rfl rfl ?_
      refine gz_aald 67 hC dX10_lineSum_67 hF (fun x11 hF => ?_)
      refine gz_iconst 68 hC (4 : Int32) dX10_lineSum_68 gz_k4 ?_
      refine gz_iload_n 69 hC 2 dX10_lineSum_69 rfl rfl ?_
      refine gz_iadd 70 hC dX10_lineSum_70 ?_
      refine gz_iald 71 hC dX10_lineSum_71 hF (fun x12 hF => ?_)
      refine gz_imul 72 hC dX10_lineSum_72 ?_
      refine gz_aload_n 73 hC 0 dX10_lineSum_73 rfl rfl ?_
      refine gz_getR 74 hC fl_X10_61 fk_10_27 dX10_lineSum_74 hF (fun x13 hF => ?_)
      refine gz_iload 77 hC 6 dX10_lineSum_77 rfl ?_
      refine gz_iald 79 hC dX10_lineSum_79 hF (fun x14 hF => ?_)
      refine gz_aload_n 80 hC 0 dX10_lineSum_80 rfl rfl ?_
      refine gz_iload_n 81 hC 1 dX10_lineSum_81 rfl rfl ?_
      refine gz_iload 82 hC 5 dX10_lineSum_82 rfl ?_
      refine gz_iload_n 84 hC 2 dX10_lineSum_84 rfl rfl ?_
      refine gz_cvP (st := [.int x14, .int (x9 * x12), .int x1]) 85 hC hX [.int a1, .int x2, .int a2] Value.int yl_X10_of yv_X10_of q_1241 ⟨Nat.le_of_ble_eq_true rfl, Nat.le_of_ble_eq_true rfl⟩ ⟨_, rfl⟩ (fun r h => ct_X10_of _ _ fu M a0 a1 x2 a2 r h) rfl rfl (Nat.le_of_ble_eq_true rfl) dX10_lineSum_85 gz_00 hF (fun x15 hF => ?_)
      refine gz_isub 88 hC dX10_lineSum_88 ?_
      refine gz_imul 89 hC dX10_lineSum_89 ?_
      refine gz_iadd 90 hC dX10_lineSum_90 ?_
      refine gz_istore 91 hC [(4, .int (x1 + ((x9 * x12) * (x14 - x15)))), (0, .ref a0), (1, .int a1), (2, .int a2), (3, .int a3), (5, .int x2), (6, .int x8)] dX10_lineSum_91 (by decide) rfl ?_
      refine gz_iinc 93 hC (x2 + (1 : Int32)) 5 [(5, .int (x2 + (1 : Int32))), (4, .int (x1 + ((x9 * x12) * (x14 - x15)))), (0, .ref a0), (1, .int a1), (2, .int a2), (3, .int a3), (6, .int x8)] dX10_lineSum_93 rfl rfl (by decide) rfl ?_
      refine gz_goto 96 6 hC dX10_lineSum_96 (by decide) ?_
      refine gz_sub [2, 3, 4, 5, 1, 0] [(0, .ref a0), (1, .int a1), (2, .int a2), (3, .int a3), (4, .int (x1 + ((x9 * x12) * (x14 - x15)))), (5, .int (x2 + (1 : Int32)))] rfl ?_
      exact ih6 _ _ hF
set_option maxHeartbeats 4000000 in
theorem ct_X10_lineSum (l : Launch) (G : gz_G) (fu : Nat) (M : gz_M) (a0 : Nat) (a1 : Int32) (a2 : Int32) (a3 : Int32) (y : Int32) (hF : f_X10_lineSum fu M a0 a1 a2 a3 = some y) : gz_ct l yX10_lineSum cX10_lineSum 7 (some .int) 1 23 0 0 G [.ref a0, .int a1, .int a2, .int a3] M (some (.int y)) M := by
  refine gz_ct.of (by decide) (Nat.le_of_ble_eq_true rfl) (fun C hC hX => ?_)
  unfold f_X10_lineSum at hF
  obtain ⟨-, hF⟩ := gz_gd_some hF
  show gz_go C 0 0 M [(0, .ref a0), (1, .int a1), (2, .int a2), (3, .int a3)] 0 []
  refine gz_iconst 0 hC (0 : Int32) dX10_lineSum_0 gz_k0 ?_
  refine gz_istore 1 hC [(4, .int (0 : Int32)), (0, .ref a0), (1, .int a1), (2, .int a2), (3, .int a3)] dX10_lineSum_1 (by decide) rfl ?_
  refine gz_iconst 3 hC (0 : Int32) dX10_lineSum_3 gz_k0 ?_
  refine gz_istore 4 hC [(5, .int (0 : Int32)), (4, .int (0 : Int32)), (0, .ref a0), (1, .int a1), (2, .int a2), (3, .int a3)] dX10_lineSum_4 (by decide) rfl ?_
  refine gz_sub [2, 3, 4, 5, 1, 0] [(0, .ref a0), (1, .int a1), (2, .int a2), (3, .int a3), (4, .int (0 : Int32)), (5, .int (0 : Int32))] rfl ?_
  refine w_X10_lineSum_6 hC hX ?_ _ _ _ hF
  intro x16 hF
  refine gz_iload 99 hC 0 dX10_lineSum_99 rfl ?_
  exact gz_iretP 101 hC hX dX10_lineSum_101 hF

theorem dX10_isLess_0 : decode cX10_isLess 0 = .ok (.iconst 0, 1) := by decide +kernel
theorem dX10_isLess_1 : decode cX10_isLess 1 = .ok (.istore 4, 2) := by decide +kernel
theorem dX10_isLess_3 : decode cX10_isLess 3 = .ok (.iload 4, 2) := by decide +kernel
theorem dX10_isLess_5 : decode cX10_isLess 5 = .ok (.iload_n 3, 1) := by decide +kernel
theorem dX10_isLess_6 : decode cX10_isLess 6 = .ok (.if_icmp .ge 40, 3) := by decide +kernel
theorem dX10_isLess_9 : decode cX10_isLess 9 = .ok (.iload_n 1, 1) := by decide +kernel
theorem dX10_isLess_10 : decode cX10_isLess 10 = .ok (.iload 4, 2) := by decide +kernel
theorem dX10_isLess_12 : decode cX10_isLess 12 = .ok (.ishr, 1) := by decide +kernel
theorem dX10_isLess_13 : decode cX10_isLess 13 = .ok (.iconst 1, 1) := by decide +kernel
theorem dX10_isLess_14 : decode cX10_isLess 14 = .ok (.iand, 1) := by decide +kernel
theorem dX10_isLess_15 : decode cX10_isLess 15 = .ok (.istore 5, 2) := by decide +kernel
theorem dX10_isLess_17 : decode cX10_isLess 17 = .ok (.iload 5, 2) := by decide +kernel
theorem dX10_isLess_19 : decode cX10_isLess 19 = .ok (.iload_n 2, 1) := by decide +kernel
theorem dX10_isLess_20 : decode cX10_isLess 20 = .ok (.iload 4, 2) := by decide +kernel
theorem dX10_isLess_22 : decode cX10_isLess 22 = .ok (.ishr, 1) := by decide +kernel
theorem dX10_isLess_23 : decode cX10_isLess 23 = .ok (.iconst 1, 1) := by decide +kernel
theorem dX10_isLess_24 : decode cX10_isLess 24 = .ok (.iand, 1) := by decide +kernel
theorem dX10_isLess_25 : decode cX10_isLess 25 = .ok (.if_icmp .eq 15, 3) := by decide +kernel
theorem dX10_isLess_28 : decode cX10_isLess 28 = .ok (.iload 5, 2) := by decide +kernel
theorem dX10_isLess_30 : decode cX10_isLess 30 = .ok (.iconst 1, 1) := by decide +kernel
theorem dX10_isLess_31 : decode cX10_isLess 31 = .ok (.if_icmp .ne 7, 3) := by decide +kernel
theorem dX10_isLess_34 : decode cX10_isLess 34 = .ok (.iconst 1, 1) := by decide +kernel
theorem dX10_isLess_35 : decode cX10_isLess 35 = .ok (.goto 4, 3) := by decide +kernel
theorem dX10_isLess_38 : decode cX10_isLess 38 = .ok (.iconst 0, 1) := by decide +kernel
theorem dX10_isLess_39 : decode cX10_isLess 39 = .ok (.ireturn, 1) := by decide +kernel
theorem dX10_isLess_40 : decode cX10_isLess 40 = .ok (.iinc 4 1, 3) := by decide +kernel
theorem dX10_isLess_43 : decode cX10_isLess 43 = .ok (.goto (-40), 3) := by decide +kernel
theorem dX10_isLess_46 : decode cX10_isLess 46 = .ok (.iconst 0, 1) := by decide +kernel
theorem dX10_isLess_47 : decode cX10_isLess 47 = .ok (.ireturn, 1) := by decide +kernel
def lp_X10_isLess_3 (j46 : Option (Int32)) (a1 : Int32) (a2 : Int32) (a3 : Int32) : Nat → Int32 → Option (Int32)
  | 0, _ => none
  | n3 + 1, x1 =>
    if a3 ≤ x1 then
      j46
    else
      if ((a1 >>> (x1 &&& 31)) &&& (1 : Int32)) = ((a2 >>> (x1 &&& 31)) &&& (1 : Int32)) then
        lp_X10_isLess_3 j46 a1 a2 a3 n3 (x1 + (1 : Int32))
      else
        gz_jn (fun (x2 : Int32) =>
        gz_z x2 (some x2)) fun j39 =>
        if ((a1 >>> (x1 &&& 31)) &&& (1 : Int32)) = (1 : Int32) then
          j39 (1 : Int32)
        else
          j39 (0 : Int32)
def f_X10_isLess (fu : Nat) (M : gz_M) (a0 : Nat) (a1 : Int32) (a2 : Int32) (a3 : Int32) : Option (Int32) :=
  gz_gd M 10 a0 <|
  lp_X10_isLess_3 (gz_z (0 : Int32) (some (0 : Int32))) a1 a2 a3 fu (0 : Int32)
set_option maxHeartbeats 4000000 in
theorem w_X10_isLess_3 {C : gz_C} {y : Int32} {a1 : Int32} {a2 : Int32} {a3 : Int32} {M : gz_M} {j46 : Option (Int32)} (hC : gz_ok C cX10_isLess RX10 6) (hX : gz_cx C 0 0 0 0 (some .boolean) (some (.int y)) M "isLess") (hj46 : j46 = some y → gz_go C 0 0 M [] 46 []) : ∀ (n : Nat) (x1 : Int32), lp_X10_isLess_3 j46 a1 a2 a3 n x1 = some y → gz_go C 0 0 M [(1, .int a1), (2, .int a2), (3, .int a3), (4, .int x1)] 3 [] := by
  intro n
  induction n with
  | zero => intro x1 hF; exact nomatch (show (none : Option (Int32)) = some y from hF)
  | succ n3 ih3 =>
    intro x1 hF
    rw [lp_X10_isLess_3.eq_2] at hF
    refine gz_iload 3 hC 3 dX10_isLess_3 rfl ?_
    refine gz_iload_n 5 hC 2 dX10_isLess_5 rfl rfl ?_
    refine gz_icmp_ge 6 46 hC dX10_isLess_6 (by decide) hF (fun hF => ?_) (fun hF => ?_)
    · skip
      refine gz_sub [] [] rfl ?_
      exact hj46 hF
    · skip
      refine gz_iload_n 9 hC 0 dX10_isLess_9 rfl rfl ?_
      refine gz_iload 10 hC 3 dX10_isLess_10 rfl ?_
      refine gz_ishr 12 hC dX10_isLess_12 ?_
      refine gz_iconst 13 hC (1 : Int32) dX10_isLess_13 gz_k1 ?_
      refine gz_iand 14 hC dX10_isLess_14 ?_
      refine gz_istore 15 hC [(5, .int ((a1 >>> (x1 &&& 31)) &&& (1 : Int32))), (1, .int a1), (2, .int a2), (3, .int a3), (4, .int x1)] dX10_isLess_15 (by decide) rfl ?_
      refine gz_iload 17 hC 0 dX10_isLess_17 rfl ?_
      refine gz_iload_n 19 hC 2 dX10_isLess_19 rfl rfl ?_
      refine gz_iload 20 hC 4 dX10_isLess_20 rfl ?_
      refine gz_ishr 22 hC dX10_isLess_22 ?_
      refine gz_iconst 23 hC (1 : Int32) dX10_isLess_23 gz_k1 ?_
      refine gz_iand 24 hC dX10_isLess_24 ?_
      refine gz_icmp_eq 25 40 hC dX10_isLess_25 (by decide) hF (fun hF => ?_) (fun hF => ?_)
      · skip
        refine gz_iinc 40 hC (x1 + (1 : Int32)) 4 [(4, .int (x1 + (1 : Int32))), (5, .int ((a1 >>> (x1 &&& 31)) &&& (1 : Int32))), (1, .int a1), (2, .int a2), (3, .int a3)] dX10_isLess_40 rfl rfl (by decide) rfl ?_
        refine gz_goto 43 3 hC dX10_isLess_43 (by decide) ?_
        refine gz_sub [2, 3, 4, 0] [(1, .int a1), (2, .int a2), (3, .int a3), (4, .int (x1 + (1 : Int32)))] rfl ?_
        exact ih3 _ hF
      · skip
        refine gz_iload 28 hC 0 dX10_isLess_28 rfl ?_
        refine gz_iconst 30 hC (1 : Int32) dX10_isLess_30 gz_k1 ?_
        refine gz_join (fun (j : Int32 → Option (Int32)) => ∀ (x2 : Int32), j x2 = some y → gz_go C 0 0 M [] 39 [.int x2]) hF (fun x2 hF => ?_) (fun j39 hj39 hF => ?_)
        · skip
          exact gz_zretP 39 hC hX dX10_isLess_39 hF
        refine gz_icmp_ne 31 38 hC dX10_isLess_31 (by decide) hF (fun hF => ?_) (fun hF => ?_)
        · skip
          refine gz_iconst 38 hC (0 : Int32) dX10_isLess_38 gz_k0 ?_
          refine gz_sub [] [] rfl ?_
          exact hj39 _ hF
        · skip
          refine gz_iconst 34 hC (1 : Int32) dX10_isLess_34 gz_k1 ?_
          refine gz_goto 35 39 hC dX10_isLess_35 (by decide) ?_
          refine gz_sub [] [] rfl ?_
          exact hj39 _ hF
set_option maxHeartbeats 4000000 in
theorem ct_X10_isLess (l : Launch) (G : gz_G) (fu : Nat) (M : gz_M) (a0 : Nat) (a1 : Int32) (a2 : Int32) (a3 : Int32) (y : Int32) (hF : f_X10_isLess fu M a0 a1 a2 a3 = some y) : gz_ct l yX10_isLess cX10_isLess 6 (some .boolean) 0 0 0 0 G [.ref a0, .int a1, .int a2, .int a3] M (some (.int y)) M := by
  refine gz_ct.of (by decide) (Nat.le_of_ble_eq_true rfl) (fun C hC hX => ?_)
  unfold f_X10_isLess at hF
  obtain ⟨-, hF⟩ := gz_gd_some hF
  show gz_go C 0 0 M [(0, .ref a0), (1, .int a1), (2, .int a2), (3, .int a3)] 0 []
  refine gz_iconst 0 hC (0 : Int32) dX10_isLess_0 gz_k0 ?_
  refine gz_istore 1 hC [(4, .int (0 : Int32)), (0, .ref a0), (1, .int a1), (2, .int a2), (3, .int a3)] dX10_isLess_1 (by decide) rfl ?_
  refine gz_sub [2, 3, 4, 0] [(1, .int a1), (2, .int a2), (3, .int a3), (4, .int (0 : Int32))] rfl ?_
  refine w_X10_isLess_3 hC hX ?_ _ _ hF
  intro hF
  refine gz_iconst 46 hC (0 : Int32) dX10_isLess_46 gz_k0 ?_
  exact gz_zretP 47 hC hX dX10_isLess_47 hF

theorem dX10_line_0 : decode cX10_line 0 = .ok (.aload_n 0, 1) := by decide +kernel
theorem dX10_line_1 : decode cX10_line 1 = .ok (.iload_n 1, 1) := by decide +kernel
theorem dX10_line_2 : decode cX10_line 2 = .ok (.invokevirtual 77, 3) := by decide +kernel
theorem dX10_line_5 : decode cX10_line 5 = .ok (.ifCond .eq 40, 3) := by decide +kernel
theorem dX10_line_8 : decode cX10_line 8 = .ok (.iload_n 2, 1) := by decide +kernel
theorem dX10_line_9 : decode cX10_line 9 = .ok (.i2l, 1) := by decide +kernel
theorem dX10_line_10 : decode cX10_line 10 = .ok (.lconst 0, 1) := by decide +kernel
theorem dX10_line_11 : decode cX10_line 11 = .ok (.ldc2_w 264, 3) := by decide +kernel
theorem dX10_line_14 : decode cX10_line 14 = .ok (.invokestatic 73, 3) := by decide +kernel
theorem dX10_line_17 : decode cX10_line 17 = .ok (.ifCond .eq 28, 3) := by decide +kernel
theorem dX10_line_20 : decode cX10_line 20 = .ok (.iload_n 3, 1) := by decide +kernel
theorem dX10_line_21 : decode cX10_line 21 = .ok (.i2l, 1) := by decide +kernel
theorem dX10_line_22 : decode cX10_line 22 = .ok (.lconst 1, 1) := by decide +kernel
theorem dX10_line_23 : decode cX10_line 23 = .ok (.ldc2_w 266, 3) := by decide +kernel
theorem dX10_line_26 : decode cX10_line 26 = .ok (.invokestatic 73, 3) := by decide +kernel
theorem dX10_line_29 : decode cX10_line 29 = .ok (.ifCond .eq 16, 3) := by decide +kernel
theorem dX10_line_32 : decode cX10_line 32 = .ok (.iload 4, 2) := by decide +kernel
theorem dX10_line_34 : decode cX10_line 34 = .ok (.ifCond .lt 11, 3) := by decide +kernel
theorem dX10_line_37 : decode cX10_line 37 = .ok (.aload_n 0, 1) := by decide +kernel
theorem dX10_line_38 : decode cX10_line 38 = .ok (.iload_n 1, 1) := by decide +kernel
theorem dX10_line_39 : decode cX10_line 39 = .ok (.invokevirtual 81, 3) := by decide +kernel
theorem dX10_line_42 : decode cX10_line 42 = .ok (.ifCond .ne 10, 3) := by decide +kernel
theorem dX10_line_45 : decode cX10_line 45 = .ok (.aload_n 0, 1) := by decide +kernel
theorem dX10_line_46 : decode cX10_line 46 = .ok (.bipush (-2), 2) := by decide +kernel
theorem dX10_line_48 : decode cX10_line 48 = .ok (.invokevirtual 97, 3) := by decide +kernel
theorem dX10_line_51 : decode cX10_line 51 = .ok (.ireturn, 1) := by decide +kernel
theorem dX10_line_52 : decode cX10_line 52 = .ok (.aload_n 0, 1) := by decide +kernel
theorem dX10_line_53 : decode cX10_line 53 = .ok (.iload_n 1, 1) := by decide +kernel
theorem dX10_line_54 : decode cX10_line 54 = .ok (.iload_n 2, 1) := by decide +kernel
theorem dX10_line_55 : decode cX10_line 55 = .ok (.aload_n 0, 1) := by decide +kernel
theorem dX10_line_56 : decode cX10_line 56 = .ok (.getfield 61, 3) := by decide +kernel
theorem dX10_line_59 : decode cX10_line 59 = .ok (.invokevirtual 268, 3) := by decide +kernel
theorem dX10_line_62 : decode cX10_line 62 = .ok (.istore 5, 2) := by decide +kernel
theorem dX10_line_64 : decode cX10_line 64 = .ok (.iconst (-1), 1) := by decide +kernel
theorem dX10_line_65 : decode cX10_line 65 = .ok (.istore 6, 2) := by decide +kernel
theorem dX10_line_67 : decode cX10_line 67 = .ok (.iconst 0, 1) := by decide +kernel
theorem dX10_line_68 : decode cX10_line 68 = .ok (.istore 7, 2) := by decide +kernel
theorem dX10_line_70 : decode cX10_line 70 = .ok (.iconst 1, 1) := by decide +kernel
theorem dX10_line_71 : decode cX10_line 71 = .ok (.iload 5, 2) := by decide +kernel
theorem dX10_line_73 : decode cX10_line 73 = .ok (.iconst 1, 1) := by decide +kernel
theorem dX10_line_74 : decode cX10_line 74 = .ok (.isub, 1) := by decide +kernel
theorem dX10_line_75 : decode cX10_line 75 = .ok (.ishl, 1) := by decide +kernel
theorem dX10_line_76 : decode cX10_line 76 = .ok (.istore 8, 2) := by decide +kernel
theorem dX10_line_78 : decode cX10_line 78 = .ok (.iload 8, 2) := by decide +kernel
theorem dX10_line_80 : decode cX10_line 80 = .ok (.iconst 1, 1) := by decide +kernel
theorem dX10_line_81 : decode cX10_line 81 = .ok (.iload 5, 2) := by decide +kernel
theorem dX10_line_83 : decode cX10_line 83 = .ok (.ishl, 1) := by decide +kernel
theorem dX10_line_84 : decode cX10_line 84 = .ok (.if_icmp .ge 125, 3) := by decide +kernel
theorem dX10_line_87 : decode cX10_line 87 = .ok (.iload 8, 2) := by decide +kernel
theorem dX10_line_89 : decode cX10_line 89 = .ok (.invokestatic 245, 3) := by decide +kernel
theorem dX10_line_92 : decode cX10_line 92 = .ok (.iload_n 3, 1) := by decide +kernel
theorem dX10_line_93 : decode cX10_line 93 = .ok (.if_icmp .gt 110, 3) := by decide +kernel
theorem dX10_line_96 : decode cX10_line 96 = .ok (.aload_n 0, 1) := by decide +kernel
theorem dX10_line_97 : decode cX10_line 97 = .ok (.iload_n 1, 1) := by decide +kernel
theorem dX10_line_98 : decode cX10_line 98 = .ok (.iload_n 2, 1) := by decide +kernel
theorem dX10_line_99 : decode cX10_line 99 = .ok (.iload 8, 2) := by decide +kernel
theorem dX10_line_101 : decode cX10_line 101 = .ok (.invokevirtual 272, 3) := by decide +kernel
theorem dX10_line_104 : decode cX10_line 104 = .ok (.istore 9, 2) := by decide +kernel
theorem dX10_line_106 : decode cX10_line 106 = .ok (.iload 6, 2) := by decide +kernel
theorem dX10_line_108 : decode cX10_line 108 = .ok (.iconst (-1), 1) := by decide +kernel
theorem dX10_line_109 : decode cX10_line 109 = .ok (.if_icmp .eq 14, 3) := by decide +kernel
theorem dX10_line_112 : decode cX10_line 112 = .ok (.iload 9, 2) := by decide +kernel
theorem dX10_line_114 : decode cX10_line 114 = .ok (.iload 7, 2) := by decide +kernel
theorem dX10_line_116 : decode cX10_line 116 = .ok (.if_icmp .ne 7, 3) := by decide +kernel
theorem dX10_line_119 : decode cX10_line 119 = .ok (.iconst 1, 1) := by decide +kernel
theorem dX10_line_120 : decode cX10_line 120 = .ok (.goto 4, 3) := by decide +kernel
theorem dX10_line_123 : decode cX10_line 123 = .ok (.iconst 0, 1) := by decide +kernel
theorem dX10_line_124 : decode cX10_line 124 = .ok (.istore 10, 2) := by decide +kernel
theorem dX10_line_126 : decode cX10_line 126 = .ok (.iload 10, 2) := by decide +kernel
theorem dX10_line_128 : decode cX10_line 128 = .ok (.ifCond .eq 46, 3) := by decide +kernel
theorem dX10_line_131 : decode cX10_line 131 = .ok (.iload 8, 2) := by decide +kernel
theorem dX10_line_133 : decode cX10_line 133 = .ok (.invokestatic 245, 3) := by decide +kernel
theorem dX10_line_136 : decode cX10_line 136 = .ok (.iload 6, 2) := by decide +kernel
theorem dX10_line_138 : decode cX10_line 138 = .ok (.invokestatic 245, 3) := by decide +kernel
theorem dX10_line_141 : decode cX10_line 141 = .ok (.if_icmp .lt 29, 3) := by decide +kernel
theorem dX10_line_144 : decode cX10_line 144 = .ok (.iload 8, 2) := by decide +kernel
theorem dX10_line_146 : decode cX10_line 146 = .ok (.invokestatic 245, 3) := by decide +kernel
theorem dX10_line_149 : decode cX10_line 149 = .ok (.iload 6, 2) := by decide +kernel
theorem dX10_line_151 : decode cX10_line 151 = .ok (.invokestatic 245, 3) := by decide +kernel
theorem dX10_line_154 : decode cX10_line 154 = .ok (.if_icmp .ne 20, 3) := by decide +kernel
theorem dX10_line_157 : decode cX10_line 157 = .ok (.aload_n 0, 1) := by decide +kernel
theorem dX10_line_158 : decode cX10_line 158 = .ok (.iload 8, 2) := by decide +kernel
theorem dX10_line_160 : decode cX10_line 160 = .ok (.iload 6, 2) := by decide +kernel
theorem dX10_line_162 : decode cX10_line 162 = .ok (.iload 5, 2) := by decide +kernel
theorem dX10_line_164 : decode cX10_line 164 = .ok (.invokevirtual 275, 3) := by decide +kernel
theorem dX10_line_167 : decode cX10_line 167 = .ok (.ifCond .eq 7, 3) := by decide +kernel
theorem dX10_line_170 : decode cX10_line 170 = .ok (.iconst 1, 1) := by decide +kernel
theorem dX10_line_171 : decode cX10_line 171 = .ok (.goto 4, 3) := by decide +kernel
theorem dX10_line_174 : decode cX10_line 174 = .ok (.iconst 0, 1) := by decide +kernel
theorem dX10_line_175 : decode cX10_line 175 = .ok (.istore 11, 2) := by decide +kernel
theorem dX10_line_177 : decode cX10_line 177 = .ok (.iload 6, 2) := by decide +kernel
theorem dX10_line_179 : decode cX10_line 179 = .ok (.iconst (-1), 1) := by decide +kernel
theorem dX10_line_180 : decode cX10_line 180 = .ok (.if_icmp .eq 15, 3) := by decide +kernel
theorem dX10_line_183 : decode cX10_line 183 = .ok (.iload 9, 2) := by decide +kernel
theorem dX10_line_185 : decode cX10_line 185 = .ok (.iload 7, 2) := by decide +kernel
theorem dX10_line_187 : decode cX10_line 187 = .ok (.if_icmp .lt 8, 3) := by decide +kernel
theorem dX10_line_190 : decode cX10_line 190 = .ok (.iload 11, 2) := by decide +kernel
theorem dX10_line_192 : decode cX10_line 192 = .ok (.ifCond .eq 11, 3) := by decide +kernel
theorem dX10_line_195 : decode cX10_line 195 = .ok (.iload 8, 2) := by decide +kernel
theorem dX10_line_197 : decode cX10_line 197 = .ok (.istore 6, 2) := by decide +kernel
theorem dX10_line_199 : decode cX10_line 199 = .ok (.iload 9, 2) := by decide +kernel
theorem dX10_line_201 : decode cX10_line 201 = .ok (.istore 7, 2) := by decide +kernel
theorem dX10_line_203 : decode cX10_line 203 = .ok (.iinc 8 1, 3) := by decide +kernel
theorem dX10_line_206 : decode cX10_line 206 = .ok (.goto (-128), 3) := by decide +kernel
theorem dX10_line_209 : decode cX10_line 209 = .ok (.iload 4, 2) := by decide +kernel
theorem dX10_line_211 : decode cX10_line 211 = .ok (.iconst 2, 1) := by decide +kernel
theorem dX10_line_212 : decode cX10_line 212 = .ok (.if_icmp .ge 19, 3) := by decide +kernel
theorem dX10_line_215 : decode cX10_line 215 = .ok (.iload 4, 2) := by decide +kernel
theorem dX10_line_217 : decode cX10_line 217 = .ok (.ifCond .ne 8, 3) := by decide +kernel
theorem dX10_line_220 : decode cX10_line 220 = .ok (.iload 7, 2) := by decide +kernel
theorem dX10_line_222 : decode cX10_line 222 = .ok (.goto 8, 3) := by decide +kernel
theorem dX10_line_225 : decode cX10_line 225 = .ok (.iload 6, 2) := by decide +kernel
theorem dX10_line_227 : decode cX10_line 227 = .ok (.invokestatic 245, 3) := by decide +kernel
theorem dX10_line_230 : decode cX10_line 230 = .ok (.ireturn, 1) := by decide +kernel
theorem dX10_line_231 : decode cX10_line 231 = .ok (.iload 4, 2) := by decide +kernel
theorem dX10_line_233 : decode cX10_line 233 = .ok (.bipush 10, 2) := by decide +kernel
theorem dX10_line_235 : decode cX10_line 235 = .ok (.isub, 1) := by decide +kernel
theorem dX10_line_236 : decode cX10_line 236 = .ok (.istore 8, 2) := by decide +kernel
theorem dX10_line_238 : decode cX10_line 238 = .ok (.iconst 0, 1) := by decide +kernel
theorem dX10_line_239 : decode cX10_line 239 = .ok (.istore 9, 2) := by decide +kernel
theorem dX10_line_241 : decode cX10_line 241 = .ok (.iload 9, 2) := by decide +kernel
theorem dX10_line_243 : decode cX10_line 243 = .ok (.iload 5, 2) := by decide +kernel
theorem dX10_line_245 : decode cX10_line 245 = .ok (.if_icmp .ge 42, 3) := by decide +kernel
theorem dX10_line_248 : decode cX10_line 248 = .ok (.iload 4, 2) := by decide +kernel
theorem dX10_line_250 : decode cX10_line 250 = .ok (.bipush 10, 2) := by decide +kernel
theorem dX10_line_252 : decode cX10_line 252 = .ok (.if_icmp .lt 35, 3) := by decide +kernel
theorem dX10_line_255 : decode cX10_line 255 = .ok (.iload 6, 2) := by decide +kernel
theorem dX10_line_257 : decode cX10_line 257 = .ok (.iload 9, 2) := by decide +kernel
theorem dX10_line_259 : decode cX10_line 259 = .ok (.ishr, 1) := by decide +kernel
theorem dX10_line_260 : decode cX10_line 260 = .ok (.iconst 1, 1) := by decide +kernel
theorem dX10_line_261 : decode cX10_line 261 = .ok (.iand, 1) := by decide +kernel
theorem dX10_line_262 : decode cX10_line 262 = .ok (.ifCond .eq 19, 3) := by decide +kernel
theorem dX10_line_265 : decode cX10_line 265 = .ok (.iload 8, 2) := by decide +kernel
theorem dX10_line_267 : decode cX10_line 267 = .ok (.ifCond .ne 11, 3) := by decide +kernel
theorem dX10_line_270 : decode cX10_line 270 = .ok (.aload_n 0, 1) := by decide +kernel
theorem dX10_line_271 : decode cX10_line 271 = .ok (.getfield 61, 3) := by decide +kernel
theorem dX10_line_274 : decode cX10_line 274 = .ok (.iload 9, 2) := by decide +kernel
theorem dX10_line_276 : decode cX10_line 276 = .ok (.iaload, 1) := by decide +kernel
theorem dX10_line_277 : decode cX10_line 277 = .ok (.ireturn, 1) := by decide +kernel
theorem dX10_line_278 : decode cX10_line 278 = .ok (.iinc 8 (-1), 3) := by decide +kernel
theorem dX10_line_281 : decode cX10_line 281 = .ok (.iinc 9 1, 3) := by decide +kernel
theorem dX10_line_284 : decode cX10_line 284 = .ok (.goto (-43), 3) := by decide +kernel
theorem dX10_line_287 : decode cX10_line 287 = .ok (.aload_n 0, 1) := by decide +kernel
theorem dX10_line_288 : decode cX10_line 288 = .ok (.bipush (-2), 2) := by decide +kernel
theorem dX10_line_290 : decode cX10_line 290 = .ok (.invokevirtual 97, 3) := by decide +kernel
theorem dX10_line_293 : decode cX10_line 293 = .ok (.ireturn, 1) := by decide +kernel
def lp_X10_line_78 (j209 : Int32 → Int32 → Option (Int32 × gz_M)) (fu : Nat) (M7 : gz_M) (a0 : Nat) (a1 : Int32) (a2 : Int32) (a3 : Int32) (x6 : Int32) : Nat → Int32 → Int32 → Int32 → Option (Int32 × gz_M)
  | 0, _, _, _ => none
  | n78 + 1, x8, x9, x10 =>
    if ((1 : Int32) <<< (x6 &&& 31)) ≤ x10 then
      j209 x8 x9
    else
      (f_X10_bits fu M7 x10).bind fun x11 =>
      gz_jn (fun (x20 : Int32) (x21 : Int32) =>
      lp_X10_line_78 j209 fu M7 a0 a1 a2 a3 x6 n78 x20 x21 (x10 + (1 : Int32))) fun j203 =>
      if a3 < x11 then
        j203 x8 x9
      else
        (f_X10_lineSum fu M7 a0 a1 a2 x10).bind fun x12 =>
        gz_jn (fun (x13 : Int32) =>
        gz_jn (fun (x19 : Int32) =>
          gz_jn (j203 x10 x12) fun j195 =>
            if x8 = (-1 : Int32) then
              j195
            else
              if x12 < x9 then
                j195
              else
                if x19 = 0 then
                  j203 x8 x9
                else
                  j195) fun j175 =>
          gz_jn (j175 (0 : Int32)) fun j174 =>
          if x13 = 0 then
            j174
          else
            (f_X10_bits fu M7 x10).bind fun x14 =>
            (f_X10_bits fu M7 x8).bind fun x15 =>
            gz_jn (j175 (1 : Int32)) fun j170 =>
            if x14 < x15 then
              j170
            else
              (f_X10_bits fu M7 x10).bind fun x16 =>
              (f_X10_bits fu M7 x8).bind fun x17 =>
              if x16 = x17 then
                (f_X10_isLess fu M7 a0 x10 x8 x6).bind fun x18 =>
                if x18 = 0 then
                  j174
                else
                  j170
              else
                j174) fun j124 =>
        gz_jn (j124 (0 : Int32)) fun j123 =>
        if x8 = (-1 : Int32) then
          j123
        else
          if x12 = x9 then
            j124 (1 : Int32)
          else
            j123
def lp_X10_line_241 (j287 : Option (Int32 × gz_M)) (M7 : gz_M) (a0 : Nat) (a4 : Int32) (x6 : Int32) (x22 : Int32) : Nat → Int32 → Int32 → Option (Int32 × gz_M)
  | 0, _, _ => none
  | n241 + 1, x26, x27 =>
    if x6 ≤ x27 then
      j287
    else
      if a4 < (10 : Int32) then
        j287
      else
        gz_jn (fun (x30 : Int32) =>
        lp_X10_line_241 j287 M7 a0 a4 x6 x22 n241 x30 (x27 + (1 : Int32))) fun j281 =>
        if ((x22 >>> (x27 &&& 31)) &&& (1 : Int32)) = 0 then
          j281 x26
        else
          if x26 = 0 then
            (gz_gR M7 10 27 a0).bind fun x28 =>
            (gz_aI M7 x28 x27).bind fun x29 =>
            some (x29, M7)
          else
            j281 (x26 + (-1 : Int32))
def f_X10_line (fu : Nat) (M : gz_M) (a0 : Nat) (a1 : Int32) (a2 : Int32) (a3 : Int32) (a4 : Int32) : Option (Int32 × gz_M) :=
  gz_gd M 10 a0 <|
  (f_X10_isValley fu M a0 a1).bind fun x1 =>
  gz_jn (gz_b2 (f_X10_refuse fu M a0 (-2 : Int32)) fun x33 M34 =>
    some (x33, M34)) fun j45 =>
  if x1 = 0 then
    j45
  else
    (f_X10_in fu M (a2).toInt64 (0 : Int64) (2 : Int64)).bind fun x2 =>
    if x2 = 0 then
      j45
    else
      (f_X10_in fu M (a3).toInt64 (1 : Int64) (6 : Int64)).bind fun x3 =>
      if x3 = 0 then
        j45
      else
        if a4 < 0 then
          j45
        else
          (f_X10_feetOf fu M a0 a1).bind fun x4 =>
          if x4 = 0 then
            j45
          else
            (gz_gR M 10 27 a0).bind fun x5 =>
            gz_b2 (f_X10_measures fu M a0 a1 a2 x5) fun x6 M7 =>
            lp_X10_line_78 (fun (x22 : Int32) (x23 : Int32) => if (2 : Int32) ≤ a4 then
                lp_X10_line_241 (gz_b2 (f_X10_refuse fu M7 a0 (-2 : Int32)) fun x31 M32 =>
                  some (x31, M32)) M7 a0 a4 x6 x22 fu (a4 - (10 : Int32)) (0 : Int32)
              else
                gz_jn (fun (x25 : Int32) =>
                some (x25, M7)) fun j230 =>
                if a4 = 0 then
                  j230 x23
                else
                  (f_X10_bits fu M7 x22).bind fun x24 =>
                  j230 x24) fu M7 a0 a1 a2 a3 x6 fu (-1 : Int32) (0 : Int32) ((1 : Int32) <<< ((x6 - (1 : Int32)) &&& 31))
set_option maxHeartbeats 4000000 in
theorem w_X10_line_78 {C : gz_C} {y : Int32 × gz_M} {fu : Nat} {M7 : gz_M} {a0 : Nat} {a1 : Int32} {a2 : Int32} {a3 : Int32} {x6 : Int32} {a4 : Int32} {j209 : Int32 → Int32 → Option (Int32 × gz_M)} (hC : gz_ok C cX10_line RX10 12) (hX : gz_cx C 2 50 0 0 (some .int) (some (.int y.1)) y.2 "line") (hj209 : ∀ (x22 : Int32) (x23 : Int32), j209 x22 x23 = some y → gz_go C 0 0 M7 [(0, .ref a0), (4, .int a4), (5, .int x6), (6, .int x22), (7, .int x23)] 209 []) : ∀ (n : Nat) (x8 : Int32) (x9 : Int32) (x10 : Int32), lp_X10_line_78 j209 fu M7 a0 a1 a2 a3 x6 n x8 x9 x10 = some y → gz_go C 0 0 M7 [(0, .ref a0), (1, .int a1), (2, .int a2), (3, .int a3), (4, .int a4), (5, .int x6), (6, .int x8), (7, .int x9), (8, .int x10)] 78 [] := by
  intro n
  induction n with
  | zero => intro x8 x9 x10 hF; exact nomatch (show (none : Option (Int32 × gz_M)) = some y from hF)
  | succ n78 ih78 =>
    intro x8 x9 x10 hF
    rw [lp_X10_line_78.eq_2] at hF
    refine gz_iload 78 hC 8 dX10_line_78 rfl ?_
    refine gz_iconst 80 hC (1 : Int32) dX10_line_80 gz_k1 ?_
    refine gz_iload 81 hC 5 dX10_line_81 rfl ?_
    refine gz_ishl 83 hC dX10_line_83 ?_
    refine gz_icmp_ge 84 209 hC dX10_line_84 (by decide) hF (fun hF => ?_) (fun hF => ?_)
    · skip
      refine gz_sub [0, 4, 5, 6, 7] [(0, .ref a0), (4, .int a4), (5, .int x6), (6, .int x8), (7, .int x9)] rfl ?_
      exact hj209 _ _ hF
    · skip
      refine gz_iload 87 hC 8 dX10_line_87 rfl ?_
      refine gz_csP (st := []) 89 hC hX [.int x10] Value.int yl_X10_bits yv_X10_bits q_1423 ⟨Nat.le_of_ble_eq_true rfl, Nat.le_of_ble_eq_true rfl⟩ (fun r h => ct_X10_bits _ _ fu M7 x10 r h) rfl rfl (Nat.le_of_ble_eq_true rfl) dX10_line_89 gz_00 hF (fun x11 hF => ?_)
      refine gz_iload_n 92 hC 3 dX10_line_92 rfl rfl ?_
      refine gz_join (fun (j : Int32 → Int32 → Option (Int32 × gz_M)) => ∀ (x20 : Int32) (x21 : Int32), j x20 x21 = some y → gz_go C 0 0 M7 [(0, .ref a0), (1, .int a1), (2, .int a2), (3, .int a3), (4, .int a4), (5, .int x6), (6, .int x20), (7, .int x21), (8, .int x10)] 203 []) hF (fun x20 x21 hF => ?_) (fun j203 hj203 hF => ?_)
      · skip
        refine gz_iinc 203 hC (x10 + (1 : Int32)) 8 [(8, .int (x10 + (1 : Int32))), (0, .ref a0), (1, .int a1), (2, .int a2), (3, .int a3), (4, .int a4), (5, .int x6), (6, .int x20), (7, .int x21)] dX10_line_203 rfl rfl (by decide) rfl ?_
        refine gz_goto 206 78 hC dX10_line_206 (by decide) ?_
        refine gz_sub [1, 2, 3, 4, 5, 6, 7, 8, 0] [(0, .ref a0), (1, .int a1), (2, .int a2), (3, .int a3), (4, .int a4), (5, .int x6), (6, .int x20), (7, .int x21), (8, .int (x10 + (1 : Int32)))] rfl ?_
        exact ih78 _ _ _ hF
      refine gz_icmp_gt 93 203 hC dX10_line_93 (by decide) hF (fun hF => ?_) (fun hF => ?_)
      · skip
        exact hj203 _ _ hF
      · skip
        refine gz_aload_n 96 hC 0 dX10_line_96 rfl rfl ?_
        refine gz_iload_n 97 hC 1 dX10_line_97 rfl rfl ?_
        refine gz_iload_n 98 hC 2 dX10_line_98 rfl rfl ?_
        refine gz_iload 99 hC 8 dX10_line_99 rfl ?_
        refine gz_cvP (st := []) 101 hC hX [.int a1, .int a2, .int x10] Value.int yl_X10_lineSum yv_X10_lineSum q_1472 ⟨Nat.le_of_ble_eq_true rfl, Nat.le_of_ble_eq_true rfl⟩ ⟨_, rfl⟩ (fun r h => ct_X10_lineSum _ _ fu M7 a0 a1 a2 x10 r h) rfl rfl (Nat.le_of_ble_eq_true rfl) dX10_line_101 gz_00 hF (fun x12 hF => ?_)
        refine gz_istore 104 hC [(9, .int x12), (0, .ref a0), (1, .int a1), (2, .int a2), (3, .int a3), (4, .int a4), (5, .int x6), (6, .int x8), (7, .int x9), (8, .int x10)] dX10_line_104 (by decide) rfl ?_
        refine gz_iload 106 hC 7 dX10_line_106 rfl ?_
        refine gz_iconst 108 hC (-1 : Int32) dX10_line_108 gz_km1 ?_
        refine gz_join (fun (j : Int32 → Option (Int32 × gz_M)) => ∀ (x13 : Int32), j x13 = some y → gz_go C 0 0 M7 [(0, .ref a0), (1, .int a1), (2, .int a2), (3, .int a3), (4, .int a4), (5, .int x6), (6, .int x8), (7, .int x9), (8, .int x10), (9, .int x12)] 124 [.int x13]) hF (fun x13 hF => ?_) (fun j124 hj124 hF => ?_)
        · skip
          refine gz_istore 124 hC [(10, .int x13), (0, .ref a0), (1, .int a1), (2, .int a2), (3, .int a3), (4, .int a4), (5, .int x6), (6, .int x8), (7, .int x9), (8, .int x10), (9, .int x12)] dX10_line_124 (by decide) rfl ?_
          refine gz_iload 126 hC 0 dX10_line_126 rfl ?_
          refine gz_join (fun (j : Int32 → Option (Int32 × gz_M)) => ∀ (x19 : Int32), j x19 = some y → gz_go C 0 0 M7 [(0, .ref a0), (1, .int a1), (2, .int a2), (3, .int a3), (4, .int a4), (5, .int x6), (6, .int x8), (7, .int x9), (8, .int x10), (9, .int x12)] 175 [.int x19]) hF (fun x19 hF => ?_) (fun j175 hj175 hF => ?_)
          · skip
            refine gz_istore 175 hC [(11, .int x19), (0, .ref a0), (1, .int a1), (2, .int a2), (3, .int a3), (4, .int a4), (5, .int x6), (6, .int x8), (7, .int x9), (8, .int x10), (9, .int x12)] dX10_line_175 (by decide) rfl ?_
            refine gz_iload 177 hC 7 dX10_line_177 rfl ?_
            refine gz_iconst 179 hC (-1 : Int32) dX10_line_179 gz_km1 ?_
            refine gz_join (fun (j : Option (Int32 × gz_M)) => j = some y → gz_go C 0 0 M7 [(0, .ref a0), (1, .int a1), (2, .int a2), (3, .int a3), (4, .int a4), (5, .int x6), (8, .int x10), (9, .int x12)] 195 []) hF (fun hF => ?_) (fun j195 hj195 hF => ?_)
            · skip
              refine gz_iload 195 hC 6 dX10_line_195 rfl ?_
              refine gz_istore 197 hC [(6, .int x10), (0, .ref a0), (1, .int a1), (2, .int a2), (3, .int a3), (4, .int a4), (5, .int x6), (8, .int x10), (9, .int x12)] dX10_line_197 (by decide) rfl ?_
              refine gz_iload 199 hC 8 dX10_line_199 rfl ?_
              refine gz_istore 201 hC [(7, .int x12), (6, .int x10), (0, .ref a0), (1, .int a1), (2, .int a2), (3, .int a3), (4, .int a4), (5, .int x6), (8, .int x10), (9, .int x12)] dX10_line_201 (by decide) rfl ?_
              refine gz_sub [2, 3, 4, 5, 6, 7, 1, 0, 8] [(0, .ref a0), (1, .int a1), (2, .int a2), (3, .int a3), (4, .int a4), (5, .int x6), (6, .int x10), (7, .int x12), (8, .int x10)] rfl ?_
              exact hj203 _ _ hF
            refine gz_icmp_eq 180 195 hC dX10_line_180 (by decide) hF (fun hF => ?_) (fun hF => ?_)
            · skip
              refine gz_sub [1, 2, 3, 4, 5, 6, 9, 10] [(0, .ref a0), (1, .int a1), (2, .int a2), (3, .int a3), (4, .int a4), (5, .int x6), (8, .int x10), (9, .int x12)] rfl ?_
              exact hj195 hF
            · skip
              refine gz_iload 183 hC 10 dX10_line_183 rfl ?_
              refine gz_iload 185 hC 8 dX10_line_185 rfl ?_
              refine gz_icmp_lt 187 195 hC dX10_line_187 (by decide) hF (fun hF => ?_) (fun hF => ?_)
              · skip
                refine gz_sub [1, 2, 3, 4, 5, 6, 9, 10] [(0, .ref a0), (1, .int a1), (2, .int a2), (3, .int a3), (4, .int a4), (5, .int x6), (8, .int x10), (9, .int x12)] rfl ?_
                exact hj195 hF
              · skip
                refine gz_iload 190 hC 0 dX10_line_190 rfl ?_
                refine gz_if_eq 192 203 hC dX10_line_192 (by decide) hF (fun hF => ?_) (fun hF => ?_)
                · skip
                  refine gz_sub [1, 2, 3, 4, 5, 6, 7, 8, 9] [(0, .ref a0), (1, .int a1), (2, .int a2), (3, .int a3), (4, .int a4), (5, .int x6), (6, .int x8), (7, .int x9), (8, .int x10)] rfl ?_
                  exact hj203 _ _ hF
                · skip
                  refine gz_sub [1, 2, 3, 4, 5, 6, 9, 10] [(0, .ref a0), (1, .int a1), (2, .int a2), (3, .int a3), (4, .int a4), (5, .int x6), (8, .int x10), (9, .int x12)] rfl ?_
                  exact hj195 hF
          refine gz_join (fun (j : Option (Int32 × gz_M)) => j = some y → gz_go C 0 0 M7 [(0, .ref a0), (1, .int a1), (2, .int a2), (3, .int a3), (4, .int a4), (5, .int x6), (6, .int x8), (7, .int x9), (8, .int x10), (9, .int x12)] 174 []) hF (fun hF => ?_) (fun j174 hj174 hF => ?_)
          · skip
            refine gz_iconst 174 hC (0 : Int32) dX10_line_174 gz_k0 ?_
            exact hj175 _ hF
          refine gz_if_eq 128 174 hC dX10_line_128 (by decide) hF (fun hF => ?_) (fun hF => ?_)
          · skip
            refine gz_sub [1, 2, 3, 4, 5, 6, 7, 8, 9, 10] [(0, .ref a0), (1, .int a1), (2, .int a2), (3, .int a3), (4, .int a4), (5, .int x6), (6, .int x8), (7, .int x9), (8, .int x10), (9, .int x12)] rfl ?_
            exact hj174 hF
          · skip
            refine gz_iload 131 hC 9 dX10_line_131 rfl ?_
            refine gz_csP (st := []) 133 hC hX [.int x10] Value.int yl_X10_bits yv_X10_bits q_1423 ⟨Nat.le_of_ble_eq_true rfl, Nat.le_of_ble_eq_true rfl⟩ (fun r h => ct_X10_bits _ _ fu M7 x10 r h) rfl rfl (Nat.le_of_ble_eq_true rfl) dX10_line_133 gz_00 hF (fun x14 hF => ?_)
            refine gz_iload 136 hC 7 dX10_line_136 rfl ?_
            refine gz_csP (st := [.int x14]) 138 hC hX [.int x8] Value.int yl_X10_bits yv_X10_bits q_1423 ⟨Nat.le_of_ble_eq_true rfl, Nat.le_of_ble_eq_true rfl⟩ (fun r h => ct_X10_bits _ _ fu M7 x8 r h) rfl rfl (Nat.le_of_ble_eq_true rfl) dX10_line_138 gz_00 hF (fun x15 hF => ?_)
            refine gz_join (fun (j : Option (Int32 × gz_M)) => j = some y → gz_go C 0 0 M7 [(0, .ref a0), (1, .int a1), (2, .int a2), (3, .int a3), (4, .int a4), (5, .int x6), (6, .int x8), (7, .int x9), (8, .int x10), (9, .int x12)] 170 []) hF (fun hF => ?_) (fun j170 hj170 hF => ?_)
            · skip
              refine gz_iconst 170 hC (1 : Int32) dX10_line_170 gz_k1 ?_
              refine gz_goto 171 175 hC dX10_line_171 (by decide) ?_
              exact hj175 _ hF
            refine gz_icmp_lt 141 170 hC dX10_line_141 (by decide) hF (fun hF => ?_) (fun hF => ?_)
            · skip
              refine gz_sub [1, 2, 3, 4, 5, 6, 7, 8, 9, 10] [(0, .ref a0), (1, .int a1), (2, .int a2), (3, .int a3), (4, .int a4), (5, .int x6), (6, .int x8), (7, .int x9), (8, .int x10), (9, .int x12)] rfl ?_
              exact hj170 hF
            · skip
              refine gz_iload 144 hC 9 dX10_line_144 rfl ?_
              refine gz_csP (st := []) 146 hC hX [.int x10] Value.int yl_X10_bits yv_X10_bits q_1423 ⟨Nat.le_of_ble_eq_true rfl, Nat.le_of_ble_eq_true rfl⟩ (fun r h => ct_X10_bits _ _ fu M7 x10 r h) rfl rfl (Nat.le_of_ble_eq_true rfl) dX10_line_146 gz_00 hF (fun x16 hF => ?_)
              refine gz_iload 149 hC 7 dX10_line_149 rfl ?_
              refine gz_csP (st := [.int x16]) 151 hC hX [.int x8] Value.int yl_X10_bits yv_X10_bits q_1423 ⟨Nat.le_of_ble_eq_true rfl, Nat.le_of_ble_eq_true rfl⟩ (fun r h => ct_X10_bits _ _ fu M7 x8 r h) rfl rfl (Nat.le_of_ble_eq_true rfl) dX10_line_151 gz_00 hF (fun x17 hF => ?_)
              refine gz_icmp_ne 154 174 hC dX10_line_154 (by decide) hF (fun hF => ?_) (fun hF => ?_)
              · skip
                refine gz_sub [1, 2, 3, 4, 5, 6, 7, 8, 9, 10] [(0, .ref a0), (1, .int a1), (2, .int a2), (3, .int a3), (4, .int a4), (5, .int x6), (6, .int x8), (7, .int x9), (8, .int x10), (9, .int x12)] rfl ?_
                exact hj174 hF
              · skip
                refine gz_aload_n 157 hC 1 dX10_line_157 rfl rfl ?_
                refine gz_iload 158 hC 9 dX10_line_158 rfl ?_
                refine gz_iload 160 hC 7 dX10_line_160 rfl ?_
                refine gz_iload 162 hC 6 dX10_line_162 rfl ?_
                refine gz_cvP (st := []) 164 hC hX [.int x10, .int x8, .int x6] Value.int yl_X10_isLess yv_X10_isLess q_1476 ⟨Nat.le_of_ble_eq_true rfl, Nat.le_of_ble_eq_true rfl⟩ ⟨_, rfl⟩ (fun r h => ct_X10_isLess _ _ fu M7 a0 x10 x8 x6 r h) rfl rfl (Nat.le_of_ble_eq_true rfl) dX10_line_164 gz_00 hF (fun x18 hF => ?_)
                refine gz_if_eq 167 174 hC dX10_line_167 (by decide) hF (fun hF => ?_) (fun hF => ?_)
                · skip
                  refine gz_sub [1, 2, 3, 4, 5, 6, 7, 8, 9, 10] [(0, .ref a0), (1, .int a1), (2, .int a2), (3, .int a3), (4, .int a4), (5, .int x6), (6, .int x8), (7, .int x9), (8, .int x10), (9, .int x12)] rfl ?_
                  exact hj174 hF
                · skip
                  refine gz_sub [1, 2, 3, 4, 5, 6, 7, 8, 9, 10] [(0, .ref a0), (1, .int a1), (2, .int a2), (3, .int a3), (4, .int a4), (5, .int x6), (6, .int x8), (7, .int x9), (8, .int x10), (9, .int x12)] rfl ?_
                  exact hj170 hF
        refine gz_join (fun (j : Option (Int32 × gz_M)) => j = some y → gz_go C 0 0 M7 [(0, .ref a0), (1, .int a1), (2, .int a2), (3, .int a3), (4, .int a4), (5, .int x6), (6, .int x8), (7, .int x9), (8, .int x10), (9, .int x12)] 123 []) hF (fun hF => ?_) (fun j123 hj123 hF => ?_)
        · skip
          refine gz_iconst 123 hC (0 : Int32) dX10_line_123 gz_k0 ?_
          exact hj124 _ hF
        refine gz_icmp_eq 109 123 hC dX10_line_109 (by decide) hF (fun hF => ?_) (fun hF => ?_)
        · skip
          refine gz_sub [1, 2, 3, 4, 5, 6, 7, 8, 9, 0] [(0, .ref a0), (1, .int a1), (2, .int a2), (3, .int a3), (4, .int a4), (5, .int x6), (6, .int x8), (7, .int x9), (8, .int x10), (9, .int x12)] rfl ?_
          exact hj123 hF
        · skip
          refine gz_iload 112 hC 0 dX10_line_112 rfl ?_
          refine gz_iload 114 hC 8 dX10_line_114 rfl ?_
          refine gz_icmp_ne 116 123 hC dX10_line_116 (by decide) hF (fun hF => ?_) (fun hF => ?_)
          · skip
            refine gz_sub [1, 2, 3, 4, 5, 6, 7, 8, 9, 0] [(0, .ref a0), (1, .int a1), (2, .int a2), (3, .int a3), (4, .int a4), (5, .int x6), (6, .int x8), (7, .int x9), (8, .int x10), (9, .int x12)] rfl ?_
            exact hj123 hF
          · skip
            refine gz_iconst 119 hC (1 : Int32) dX10_line_119 gz_k1 ?_
            refine gz_goto 120 124 hC dX10_line_120 (by decide) ?_
            refine gz_sub [1, 2, 3, 4, 5, 6, 7, 8, 9, 0] [(0, .ref a0), (1, .int a1), (2, .int a2), (3, .int a3), (4, .int a4), (5, .int x6), (6, .int x8), (7, .int x9), (8, .int x10), (9, .int x12)] rfl ?_
            exact hj124 _ hF
set_option maxHeartbeats 4000000 in
theorem w_X10_line_241 {C : gz_C} {y : Int32 × gz_M} {M7 : gz_M} {a0 : Nat} {a4 : Int32} {x6 : Int32} {x22 : Int32} {j287 : Option (Int32 × gz_M)} (hC : gz_ok C cX10_line RX10 12) (hX : gz_cx C 2 50 0 0 (some .int) (some (.int y.1)) y.2 "line") (hj287 : j287 = some y → gz_go C 0 0 M7 [(0, .ref a0)] 287 []) : ∀ (n : Nat) (x26 : Int32) (x27 : Int32), lp_X10_line_241 j287 M7 a0 a4 x6 x22 n x26 x27 = some y → gz_go C 0 0 M7 [(0, .ref a0), (4, .int a4), (5, .int x6), (6, .int x22), (8, .int x26), (9, .int x27)] 241 [] := by
  intro n
  induction n with
  | zero => intro x26 x27 hF; exact nomatch (show (none : Option (Int32 × gz_M)) = some y from hF)
  | succ n241 ih241 =>
    intro x26 x27 hF
    rw [lp_X10_line_241.eq_2] at hF
    refine gz_iload 241 hC 5 dX10_line_241 rfl ?_
    refine gz_iload 243 hC 2 dX10_line_243 rfl ?_
    refine gz_icmp_ge 245 287 hC dX10_line_245 (by decide) hF (fun hF => ?_) (fun hF => ?_)
    · skip
      refine gz_sub [0] [(0, .ref a0)] rfl ?_
      exact hj287 hF
    · skip
      refine gz_iload 248 hC 1 dX10_line_248 rfl ?_
      refine gz_bipush 250 hC (10 : Int32) dX10_line_250 gz_b10 ?_
      refine gz_icmp_lt 252 287 hC dX10_line_252 (by decide) hF (fun hF => ?_) (fun hF => ?_)
      · skip
        refine gz_sub [0] [(0, .ref a0)] rfl ?_
        exact hj287 hF
      · skip
        refine gz_iload 255 hC 3 dX10_line_255 rfl ?_
        refine gz_iload 257 hC 5 dX10_line_257 rfl ?_
        refine gz_ishr 259 hC dX10_line_259 ?_
        refine gz_iconst 260 hC (1 : Int32) dX10_line_260 gz_k1 ?_
        refine gz_iand 261 hC dX10_line_261 ?_
        refine gz_join (fun (j : Int32 → Option (Int32 × gz_M)) => ∀ (x30 : Int32), j x30 = some y → gz_go C 0 0 M7 [(0, .ref a0), (4, .int a4), (5, .int x6), (6, .int x22), (8, .int x30), (9, .int x27)] 281 []) hF (fun x30 hF => ?_) (fun j281 hj281 hF => ?_)
        · skip
          refine gz_iinc 281 hC (x27 + (1 : Int32)) 5 [(9, .int (x27 + (1 : Int32))), (0, .ref a0), (4, .int a4), (5, .int x6), (6, .int x22), (8, .int x30)] dX10_line_281 rfl rfl (by decide) rfl ?_
          refine gz_goto 284 241 hC dX10_line_284 (by decide) ?_
          refine gz_sub [1, 2, 3, 4, 5, 0] [(0, .ref a0), (4, .int a4), (5, .int x6), (6, .int x22), (8, .int x30), (9, .int (x27 + (1 : Int32)))] rfl ?_
          exact ih241 _ _ hF
        refine gz_if_eq 262 281 hC dX10_line_262 (by decide) hF (fun hF => ?_) (fun hF => ?_)
        · skip
          exact hj281 _ hF
        · skip
          refine gz_iload 265 hC 4 dX10_line_265 rfl ?_
          refine gz_if_ne 267 278 hC dX10_line_267 (by decide) hF (fun hF => ?_) (fun hF => ?_)
          · skip
            refine gz_iinc 278 hC (x26 + (-1 : Int32)) 4 [(8, .int (x26 + (-1 : Int32))), (0, .ref a0), (4, .int a4), (5, .int x6), (6, .int x22), (9, .int x27)] dX10_line_278 rfl rfl (by decide) rfl ?_
            refine gz_sub [1, 2, 3, 4, 0, 5] [(0, .ref a0), (4, .int a4), (5, .int x6), (6, .int x22), (8, .int (x26 + (-1 : Int32))), (9, .int x27)] rfl ?_
            exact hj281 _ hF
          · skip
            refine gz_aload_n 270 hC 0 dX10_line_270 rfl rfl ?_
            refine gz_getR 271 hC fl_X10_61 fk_10_27 dX10_line_271 hF (fun x28 hF => ?_)
            refine gz_iload 274 hC 5 dX10_line_274 rfl ?_
            refine gz_iald 276 hC dX10_line_276 hF (fun x29 hF => ?_)
            exact gz_iretM 277 hC hX dX10_line_277 hF
set_option maxHeartbeats 4000000 in
theorem ct_X10_line (l : Launch) (G : gz_G) (fu : Nat) (M : gz_M) (a0 : Nat) (a1 : Int32) (a2 : Int32) (a3 : Int32) (a4 : Int32) (y : Int32 × gz_M) (hF : f_X10_line fu M a0 a1 a2 a3 a4 = some y) : gz_ct l yX10_line cX10_line 12 (some .int) 2 50 0 0 G [.ref a0, .int a1, .int a2, .int a3, .int a4] M (some (.int y.1)) y.2 := by
  refine gz_ct.of (by decide) (Nat.le_of_ble_eq_true rfl) (fun C hC hX => ?_)
  unfold f_X10_line at hF
  obtain ⟨-, hF⟩ := gz_gd_some hF
  show gz_go C 0 0 M [(0, .ref a0), (1, .int a1), (2, .int a2), (3, .int a3), (4, .int a4)] 0 []
  refine gz_aload_n 0 hC 0 dX10_line_0 rfl rfl ?_
  refine gz_iload_n 1 hC 1 dX10_line_1 rfl rfl ?_
  refine gz_cvP (st := []) 2 hC hX [.int a1] Value.int yl_X10_isValley yv_X10_isValley q_1217 ⟨Nat.le_of_ble_eq_true rfl, Nat.le_of_ble_eq_true rfl⟩ ⟨_, rfl⟩ (fun r h => ct_X10_isValley _ _ fu M a0 a1 r h) rfl rfl (Nat.le_of_ble_eq_true rfl) dX10_line_2 gz_00 hF (fun x1 hF => ?_)
  refine gz_join (fun (j : Option (Int32 × gz_M)) => j = some y → gz_go C 0 0 M [(0, .ref a0)] 45 []) hF (fun hF => ?_) (fun j45 hj45 hF => ?_)
  · skip
    refine gz_aload_n 45 hC 0 dX10_line_45 rfl rfl ?_
    refine gz_bipush 46 hC (-2 : Int32) dX10_line_46 gz_bm2 ?_
    refine gz_cvM (st := []) 48 hC hX [.int (-2 : Int32)] Value.int yl_X10_refuse yv_X10_refuse q_1175 ⟨Nat.le_of_ble_eq_true rfl, Nat.le_of_ble_eq_true rfl⟩ ⟨_, rfl⟩ (fun r h => ct_X10_refuse _ _ fu M a0 (-2 : Int32) r h) rfl rfl (Nat.le_of_ble_eq_true rfl) dX10_line_48 gz_00 hF (fun x33 M34 hF => ?_)
    exact gz_iretM 51 hC hX dX10_line_51 hF
  refine gz_if_eq 5 45 hC dX10_line_5 (by decide) hF (fun hF => ?_) (fun hF => ?_)
  · skip
    refine gz_sub [0] [(0, .ref a0)] rfl ?_
    exact hj45 hF
  · skip
    refine gz_iload_n 8 hC 2 dX10_line_8 rfl rfl ?_
    refine gz_i2l 9 hC dX10_line_9 ?_
    refine gz_lconst 10 hC (0 : Int64) dX10_line_10 gz_l0 ?_
    refine gz_ldc2 11 hC dX10_line_11 q_1466 ?_
    refine gz_csP (st := []) 14 hC hX [.long (a2).toInt64, .long (0 : Int64), .long (2 : Int64)] Value.int yl_X10_in yv_X10_in q_1170 ⟨Nat.le_of_ble_eq_true rfl, Nat.le_of_ble_eq_true rfl⟩ (fun r h => ct_X10_in _ _ fu M (a2).toInt64 (0 : Int64) (2 : Int64) r h) rfl rfl (Nat.le_of_ble_eq_true rfl) dX10_line_14 gz_00 hF (fun x2 hF => ?_)
    refine gz_if_eq 17 45 hC dX10_line_17 (by decide) hF (fun hF => ?_) (fun hF => ?_)
    · skip
      refine gz_sub [0] [(0, .ref a0)] rfl ?_
      exact hj45 hF
    · skip
      refine gz_iload_n 20 hC 3 dX10_line_20 rfl rfl ?_
      refine gz_i2l 21 hC dX10_line_21 ?_
      refine gz_lconst 22 hC (1 : Int64) dX10_line_22 gz_l1 ?_
      refine gz_ldc2 23 hC dX10_line_23 q_1467 ?_
      refine gz_csP (st := []) 26 hC hX [.long (a3).toInt64, .long (1 : Int64), .long (6 : Int64)] Value.int yl_X10_in yv_X10_in q_1170 ⟨Nat.le_of_ble_eq_true rfl, Nat.le_of_ble_eq_true rfl⟩ (fun r h => ct_X10_in _ _ fu M (a3).toInt64 (1 : Int64) (6 : Int64) r h) rfl rfl (Nat.le_of_ble_eq_true rfl) dX10_line_26 gz_00 hF (fun x3 hF => ?_)
      refine gz_if_eq 29 45 hC dX10_line_29 (by decide) hF (fun hF => ?_) (fun hF => ?_)
      · skip
        refine gz_sub [0] [(0, .ref a0)] rfl ?_
        exact hj45 hF
      · skip
        refine gz_iload 32 hC 4 dX10_line_32 rfl ?_
        refine gz_if_lt 34 45 hC dX10_line_34 (by decide) hF (fun hF => ?_) (fun hF => ?_)
        · skip
          refine gz_sub [0] [(0, .ref a0)] rfl ?_
          exact hj45 hF
        · skip
          refine gz_aload_n 37 hC 0 dX10_line_37 rfl rfl ?_
          refine gz_iload_n 38 hC 1 dX10_line_38 rfl rfl ?_
          refine gz_cvP (st := []) 39 hC hX [.int a1] Value.int yl_X10_feetOf yv_X10_feetOf q_1221 ⟨Nat.le_of_ble_eq_true rfl, Nat.le_of_ble_eq_true rfl⟩ ⟨_, rfl⟩ (fun r h => ct_X10_feetOf _ _ fu M a0 a1 r h) rfl rfl (Nat.le_of_ble_eq_true rfl) dX10_line_39 gz_00 hF (fun x4 hF => ?_)
          refine gz_if_ne 42 52 hC dX10_line_42 (by decide) hF (fun hF => ?_) (fun hF => ?_)
          · skip
            refine gz_aload_n 52 hC 0 dX10_line_52 rfl rfl ?_
            refine gz_iload_n 53 hC 1 dX10_line_53 rfl rfl ?_
            refine gz_iload_n 54 hC 2 dX10_line_54 rfl rfl ?_
            refine gz_aload_n 55 hC 0 dX10_line_55 rfl rfl ?_
            refine gz_getR 56 hC fl_X10_61 fk_10_27 dX10_line_56 hF (fun x5 hF => ?_)
            refine gz_cvM (st := []) 59 hC hX [.int a1, .int a2, .ref x5] Value.int yl_X10_measures yv_X10_measures q_1468 ⟨Nat.le_of_ble_eq_true rfl, Nat.le_of_ble_eq_true rfl⟩ ⟨_, rfl⟩ (fun r h => ct_X10_measures _ _ fu M a0 a1 a2 x5 r h) rfl rfl (Nat.le_of_ble_eq_true rfl) dX10_line_59 gz_00 hF (fun x6 M7 hF => ?_)
            refine gz_istore 62 hC [(5, .int x6), (0, .ref a0), (1, .int a1), (2, .int a2), (3, .int a3), (4, .int a4)] dX10_line_62 (by decide) rfl ?_
            refine gz_iconst 64 hC (-1 : Int32) dX10_line_64 gz_km1 ?_
            refine gz_istore 65 hC [(6, .int (-1 : Int32)), (5, .int x6), (0, .ref a0), (1, .int a1), (2, .int a2), (3, .int a3), (4, .int a4)] dX10_line_65 (by decide) rfl ?_
            refine gz_iconst 67 hC (0 : Int32) dX10_line_67 gz_k0 ?_
            refine gz_istore 68 hC [(7, .int (0 : Int32)), (6, .int (-1 : Int32)), (5, .int x6), (0, .ref a0), (1, .int a1), (2, .int a2), (3, .int a3), (4, .int a4)] dX10_line_68 (by decide) rfl ?_
            refine gz_iconst 70 hC (1 : Int32) dX10_line_70 gz_k1 ?_
            refine gz_iload 71 hC 2 dX10_line_71 rfl ?_
            refine gz_iconst 73 hC (1 : Int32) dX10_line_73 gz_k1 ?_
            refine gz_isub 74 hC dX10_line_74 ?_
            refine gz_ishl 75 hC dX10_line_75 ?_
            refine gz_istore 76 hC [(8, .int ((1 : Int32) <<< ((x6 - (1 : Int32)) &&& 31))), (7, .int (0 : Int32)), (6, .int (-1 : Int32)), (5, .int x6), (0, .ref a0), (1, .int a1), (2, .int a2), (3, .int a3), (4, .int a4)] dX10_line_76 (by decide) rfl ?_
            refine gz_sub [4, 5, 6, 7, 8, 3, 2, 1, 0] [(0, .ref a0), (1, .int a1), (2, .int a2), (3, .int a3), (4, .int a4), (5, .int x6), (6, .int (-1 : Int32)), (7, .int (0 : Int32)), (8, .int ((1 : Int32) <<< ((x6 - (1 : Int32)) &&& 31)))] rfl ?_
            refine w_X10_line_78 hC hX ?_ _ _ _ _ hF
            intro x22 x23 hF
            refine gz_iload 209 hC 1 dX10_line_209 rfl ?_
            refine gz_iconst 211 hC (2 : Int32) dX10_line_211 gz_k2 ?_
            refine gz_icmp_ge 212 231 hC dX10_line_212 (by decide) hF (fun hF => ?_) (fun hF => ?_)
            · skip
              refine gz_iload 231 hC 1 dX10_line_231 rfl ?_
              refine gz_bipush 233 hC (10 : Int32) dX10_line_233 gz_b10 ?_
              refine gz_isub 235 hC dX10_line_235 ?_
              refine gz_istore 236 hC [(8, .int (a4 - (10 : Int32))), (0, .ref a0), (4, .int a4), (5, .int x6), (6, .int x22), (7, .int x23)] dX10_line_236 (by decide) rfl ?_
              refine gz_iconst 238 hC (0 : Int32) dX10_line_238 gz_k0 ?_
              refine gz_istore 239 hC [(9, .int (0 : Int32)), (8, .int (a4 - (10 : Int32))), (0, .ref a0), (4, .int a4), (5, .int x6), (6, .int x22), (7, .int x23)] dX10_line_239 (by decide) rfl ?_
              refine gz_sub [2, 3, 4, 5, 1, 0] [(0, .ref a0), (4, .int a4), (5, .int x6), (6, .int x22), (8, .int (a4 - (10 : Int32))), (9, .int (0 : Int32))] rfl ?_
              refine w_X10_line_241 hC hX ?_ _ _ _ hF
              intro hF
              refine gz_aload_n 287 hC 0 dX10_line_287 rfl rfl ?_
              refine gz_bipush 288 hC (-2 : Int32) dX10_line_288 gz_bm2 ?_
              refine gz_cvM (st := []) 290 hC hX [.int (-2 : Int32)] Value.int yl_X10_refuse yv_X10_refuse q_1175 ⟨Nat.le_of_ble_eq_true rfl, Nat.le_of_ble_eq_true rfl⟩ ⟨_, rfl⟩ (fun r h => ct_X10_refuse _ _ fu M7 a0 (-2 : Int32) r h) rfl rfl (Nat.le_of_ble_eq_true rfl) dX10_line_290 gz_00 hF (fun x31 M32 hF => ?_)
              exact gz_iretM 293 hC hX dX10_line_293 hF
            · skip
              refine gz_iload 215 hC 1 dX10_line_215 rfl ?_
              refine gz_join (fun (j : Int32 → Option (Int32 × gz_M)) => ∀ (x25 : Int32), j x25 = some y → gz_go C 0 0 M7 [] 230 [.int x25]) hF (fun x25 hF => ?_) (fun j230 hj230 hF => ?_)
              · skip
                exact gz_iretM 230 hC hX dX10_line_230 hF
              refine gz_if_ne 217 225 hC dX10_line_217 (by decide) hF (fun hF => ?_) (fun hF => ?_)
              · skip
                refine gz_iload 225 hC 3 dX10_line_225 rfl ?_
                refine gz_csP (st := []) 227 hC hX [.int x22] Value.int yl_X10_bits yv_X10_bits q_1423 ⟨Nat.le_of_ble_eq_true rfl, Nat.le_of_ble_eq_true rfl⟩ (fun r h => ct_X10_bits _ _ fu M7 x22 r h) rfl rfl (Nat.le_of_ble_eq_true rfl) dX10_line_227 gz_00 hF (fun x24 hF => ?_)
                refine gz_sub [] [] rfl ?_
                exact hj230 _ hF
              · skip
                refine gz_iload 220 hC 4 dX10_line_220 rfl ?_
                refine gz_goto 222 230 hC dX10_line_222 (by decide) ?_
                refine gz_sub [] [] rfl ?_
                exact hj230 _ hF
          · skip
            refine gz_sub [0] [(0, .ref a0)] rfl ?_
            exact hj45 hF

theorem dX10_corners_0 : decode cX10_corners 0 = .ok (.aload_n 0, 1) := by decide +kernel
theorem dX10_corners_1 : decode cX10_corners 1 = .ok (.iload_n 1, 1) := by decide +kernel
theorem dX10_corners_2 : decode cX10_corners 2 = .ok (.invokevirtual 77, 3) := by decide +kernel
theorem dX10_corners_5 : decode cX10_corners 5 = .ok (.ifCond .ne 10, 3) := by decide +kernel
theorem dX10_corners_8 : decode cX10_corners 8 = .ok (.aload_n 0, 1) := by decide +kernel
theorem dX10_corners_9 : decode cX10_corners 9 = .ok (.bipush (-2), 2) := by decide +kernel
theorem dX10_corners_11 : decode cX10_corners 11 = .ok (.invokevirtual 97, 3) := by decide +kernel
theorem dX10_corners_14 : decode cX10_corners 14 = .ok (.ireturn, 1) := by decide +kernel
theorem dX10_corners_15 : decode cX10_corners 15 = .ok (.iconst 1, 1) := by decide +kernel
theorem dX10_corners_16 : decode cX10_corners 16 = .ok (.istore_n 2, 1) := by decide +kernel
theorem dX10_corners_17 : decode cX10_corners 17 = .ok (.iconst 0, 1) := by decide +kernel
theorem dX10_corners_18 : decode cX10_corners 18 = .ok (.istore_n 3, 1) := by decide +kernel
theorem dX10_corners_19 : decode cX10_corners 19 = .ok (.iload_n 3, 1) := by decide +kernel
theorem dX10_corners_20 : decode cX10_corners 20 = .ok (.iconst 3, 1) := by decide +kernel
theorem dX10_corners_21 : decode cX10_corners 21 = .ok (.if_icmp .ge 22, 3) := by decide +kernel
theorem dX10_corners_24 : decode cX10_corners 24 = .ok (.iload_n 2, 1) := by decide +kernel
theorem dX10_corners_25 : decode cX10_corners 25 = .ok (.aload_n 0, 1) := by decide +kernel
theorem dX10_corners_26 : decode cX10_corners 26 = .ok (.iload_n 1, 1) := by decide +kernel
theorem dX10_corners_27 : decode cX10_corners 27 = .ok (.iload_n 3, 1) := by decide +kernel
theorem dX10_corners_28 : decode cX10_corners 28 = .ok (.aload_n 0, 1) := by decide +kernel
theorem dX10_corners_29 : decode cX10_corners 29 = .ok (.getfield 61, 3) := by decide +kernel
theorem dX10_corners_32 : decode cX10_corners 32 = .ok (.invokevirtual 268, 3) := by decide +kernel
theorem dX10_corners_35 : decode cX10_corners 35 = .ok (.imul, 1) := by decide +kernel
theorem dX10_corners_36 : decode cX10_corners 36 = .ok (.istore_n 2, 1) := by decide +kernel
theorem dX10_corners_37 : decode cX10_corners 37 = .ok (.iinc 3 1, 3) := by decide +kernel
theorem dX10_corners_40 : decode cX10_corners 40 = .ok (.goto (-21), 3) := by decide +kernel
theorem dX10_corners_43 : decode cX10_corners 43 = .ok (.iload_n 2, 1) := by decide +kernel
theorem dX10_corners_44 : decode cX10_corners 44 = .ok (.ireturn, 1) := by decide +kernel
def lp_X10_corners_19 (j43 : Int32 → gz_M → Option (Int32 × gz_M)) (fu : Nat) (a0 : Nat) (a1 : Int32) : Nat → Int32 → Int32 → gz_M → Option (Int32 × gz_M)
  | 0, _, _, _ => none
  | n19 + 1, x4, x5, M6 =>
    if (3 : Int32) ≤ x5 then
      j43 x4 M6
    else
      (gz_gR M6 10 27 a0).bind fun x7 =>
      gz_b2 (f_X10_measures fu M6 a0 a1 x5 x7) fun x8 M9 =>
      lp_X10_corners_19 j43 fu a0 a1 n19 (x4 * x8) (x5 + (1 : Int32)) M9
def f_X10_corners (fu : Nat) (M : gz_M) (a0 : Nat) (a1 : Int32) : Option (Int32 × gz_M) :=
  gz_gd M 10 a0 <|
  (f_X10_isValley fu M a0 a1).bind fun x1 =>
  if x1 = 0 then
    gz_b2 (f_X10_refuse fu M a0 (-2 : Int32)) fun x2 M3 =>
    some (x2, M3)
  else
    lp_X10_corners_19 (fun (x10 : Int32) (M11 : gz_M) => some (x10, M11)) fu a0 a1 fu (1 : Int32) (0 : Int32) M
set_option maxHeartbeats 4000000 in
theorem w_X10_corners_19 {C : gz_C} {y : Int32 × gz_M} {fu : Nat} {a0 : Nat} {a1 : Int32} {j43 : Int32 → gz_M → Option (Int32 × gz_M)} (hC : gz_ok C cX10_corners RX10 4) (hX : gz_cx C 2 50 0 0 (some .int) (some (.int y.1)) y.2 "corners") (hj43 : ∀ (x10 : Int32) (M11 : gz_M), j43 x10 M11 = some y → gz_go C 0 0 M11 [(2, .int x10)] 43 []) : ∀ (n : Nat) (x4 : Int32) (x5 : Int32) (M6 : gz_M), lp_X10_corners_19 j43 fu a0 a1 n x4 x5 M6 = some y → gz_go C 0 0 M6 [(0, .ref a0), (1, .int a1), (2, .int x4), (3, .int x5)] 19 [] := by
  intro n
  induction n with
  | zero => intro x4 x5 M6 hF; exact nomatch (show (none : Option (Int32 × gz_M)) = some y from hF)
  | succ n19 ih19 =>
    intro x4 x5 M6 hF
    rw [lp_X10_corners_19.eq_2] at hF
    refine gz_iload_n 19 hC 3 dX10_corners_19 rfl rfl ?_
    refine gz_iconst 20 hC (3 : Int32) dX10_corners_20 gz_k3 ?_
    refine gz_icmp_ge 21 43 hC dX10_corners_21 (by decide) hF (fun hF => ?_) (fun hF => ?_)
    · skip
      refine gz_sub [2] [(2, .int x4)] rfl ?_
      exact hj43 _ _ hF
    · skip
      refine gz_iload_n 24 hC 2 dX10_corners_24 rfl rfl ?_
      refine gz_aload_n 25 hC 0 dX10_corners_25 rfl rfl ?_
      refine gz_iload_n 26 hC 1 dX10_corners_26 rfl rfl ?_
      refine gz_iload_n 27 hC 3 dX10_corners_27 rfl rfl ?_
      refine gz_aload_n 28 hC 0 dX10_corners_28 rfl rfl ?_
      refine gz_getR 29 hC fl_X10_61 fk_10_27 dX10_corners_29 hF (fun x7 hF => ?_)
      refine gz_cvM (st := [.int x4]) 32 hC hX [.int a1, .int x5, .ref x7] Value.int yl_X10_measures yv_X10_measures q_1468 ⟨Nat.le_of_ble_eq_true rfl, Nat.le_of_ble_eq_true rfl⟩ ⟨_, rfl⟩ (fun r h => ct_X10_measures _ _ fu M6 a0 a1 x5 x7 r h) rfl rfl (Nat.le_of_ble_eq_true rfl) dX10_corners_32 gz_00 hF (fun x8 M9 hF => ?_)
      refine gz_imul 35 hC dX10_corners_35 ?_
      refine gz_istore_n 36 hC [(2, .int (x4 * x8)), (0, .ref a0), (1, .int a1), (3, .int x5)] dX10_corners_36 rfl (by decide) rfl ?_
      refine gz_iinc 37 hC (x5 + (1 : Int32)) 3 [(3, .int (x5 + (1 : Int32))), (2, .int (x4 * x8)), (0, .ref a0), (1, .int a1)] dX10_corners_37 rfl rfl (by decide) rfl ?_
      refine gz_goto 40 19 hC dX10_corners_40 (by decide) ?_
      refine gz_sub [2, 3, 1, 0] [(0, .ref a0), (1, .int a1), (2, .int (x4 * x8)), (3, .int (x5 + (1 : Int32)))] rfl ?_
      exact ih19 _ _ _ hF
set_option maxHeartbeats 4000000 in
theorem ct_X10_corners (l : Launch) (G : gz_G) (fu : Nat) (M : gz_M) (a0 : Nat) (a1 : Int32) (y : Int32 × gz_M) (hF : f_X10_corners fu M a0 a1 = some y) : gz_ct l yX10_corners cX10_corners 4 (some .int) 2 50 0 0 G [.ref a0, .int a1] M (some (.int y.1)) y.2 := by
  refine gz_ct.of (by decide) (Nat.le_of_ble_eq_true rfl) (fun C hC hX => ?_)
  unfold f_X10_corners at hF
  obtain ⟨-, hF⟩ := gz_gd_some hF
  show gz_go C 0 0 M [(0, .ref a0), (1, .int a1)] 0 []
  refine gz_aload_n 0 hC 0 dX10_corners_0 rfl rfl ?_
  refine gz_iload_n 1 hC 1 dX10_corners_1 rfl rfl ?_
  refine gz_cvP (st := []) 2 hC hX [.int a1] Value.int yl_X10_isValley yv_X10_isValley q_1217 ⟨Nat.le_of_ble_eq_true rfl, Nat.le_of_ble_eq_true rfl⟩ ⟨_, rfl⟩ (fun r h => ct_X10_isValley _ _ fu M a0 a1 r h) rfl rfl (Nat.le_of_ble_eq_true rfl) dX10_corners_2 gz_00 hF (fun x1 hF => ?_)
  refine gz_if_ne 5 15 hC dX10_corners_5 (by decide) hF (fun hF => ?_) (fun hF => ?_)
  · skip
    refine gz_iconst 15 hC (1 : Int32) dX10_corners_15 gz_k1 ?_
    refine gz_istore_n 16 hC [(2, .int (1 : Int32)), (0, .ref a0), (1, .int a1)] dX10_corners_16 rfl (by decide) rfl ?_
    refine gz_iconst 17 hC (0 : Int32) dX10_corners_17 gz_k0 ?_
    refine gz_istore_n 18 hC [(3, .int (0 : Int32)), (2, .int (1 : Int32)), (0, .ref a0), (1, .int a1)] dX10_corners_18 rfl (by decide) rfl ?_
    refine gz_sub [2, 3, 1, 0] [(0, .ref a0), (1, .int a1), (2, .int (1 : Int32)), (3, .int (0 : Int32))] rfl ?_
    refine w_X10_corners_19 hC hX ?_ _ _ _ _ hF
    intro x10 M11 hF
    refine gz_iload_n 43 hC 0 dX10_corners_43 rfl rfl ?_
    exact gz_iretM 44 hC hX dX10_corners_44 hF
  · skip
    refine gz_aload_n 8 hC 0 dX10_corners_8 rfl rfl ?_
    refine gz_bipush 9 hC (-2 : Int32) dX10_corners_9 gz_bm2 ?_
    refine gz_cvM (st := []) 11 hC hX [.int (-2 : Int32)] Value.int yl_X10_refuse yv_X10_refuse q_1175 ⟨Nat.le_of_ble_eq_true rfl, Nat.le_of_ble_eq_true rfl⟩ ⟨_, rfl⟩ (fun r h => ct_X10_refuse _ _ fu M a0 (-2 : Int32) r h) rfl rfl (Nat.le_of_ble_eq_true rfl) dX10_corners_11 gz_00 hF (fun x2 M3 hF => ?_)
    exact gz_iretM 14 hC hX dX10_corners_14 hF
