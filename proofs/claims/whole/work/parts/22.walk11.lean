theorem dX10_build_0 : decode cX10_build 0 = .ok (.aload_n 0, 1) := by decide +kernel
theorem dX10_build_1 : decode cX10_build 1 = .ok (.iload_n 1, 1) := by decide +kernel
theorem dX10_build_2 : decode cX10_build 2 = .ok (.iload_n 2, 1) := by decide +kernel
theorem dX10_build_3 : decode cX10_build 3 = .ok (.invokevirtual 220, 3) := by decide +kernel
theorem dX10_build_6 : decode cX10_build 6 = .ok (.ifCond .eq 15, 3) := by decide +kernel
theorem dX10_build_9 : decode cX10_build 9 = .ok (.iload_n 3, 1) := by decide +kernel
theorem dX10_build_10 : decode cX10_build 10 = .ok (.i2l, 1) := by decide +kernel
theorem dX10_build_11 : decode cX10_build 11 = .ok (.lconst 1, 1) := by decide +kernel
theorem dX10_build_12 : decode cX10_build 12 = .ok (.ldc2_w 106, 3) := by decide +kernel
theorem dX10_build_15 : decode cX10_build 15 = .ok (.invokestatic 73, 3) := by decide +kernel
theorem dX10_build_18 : decode cX10_build 18 = .ok (.ifCond .ne 10, 3) := by decide +kernel
theorem dX10_build_21 : decode cX10_build 21 = .ok (.aload_n 0, 1) := by decide +kernel
theorem dX10_build_22 : decode cX10_build 22 = .ok (.bipush (-2), 2) := by decide +kernel
theorem dX10_build_24 : decode cX10_build 24 = .ok (.invokevirtual 97, 3) := by decide +kernel
theorem dX10_build_27 : decode cX10_build 27 = .ok (.ireturn, 1) := by decide +kernel
theorem dX10_build_28 : decode cX10_build 28 = .ok (.iconst 0, 1) := by decide +kernel
theorem dX10_build_29 : decode cX10_build 29 = .ok (.istore 4, 2) := by decide +kernel
theorem dX10_build_31 : decode cX10_build 31 = .ok (.iload 4, 2) := by decide +kernel
theorem dX10_build_33 : decode cX10_build 33 = .ok (.iconst 3, 1) := by decide +kernel
theorem dX10_build_34 : decode cX10_build 34 = .ok (.if_icmp .ge 31, 3) := by decide +kernel
theorem dX10_build_37 : decode cX10_build 37 = .ok (.aload_n 0, 1) := by decide +kernel
theorem dX10_build_38 : decode cX10_build 38 = .ok (.iload_n 1, 1) := by decide +kernel
theorem dX10_build_39 : decode cX10_build 39 = .ok (.iload_n 2, 1) := by decide +kernel
theorem dX10_build_40 : decode cX10_build 40 = .ok (.iload 4, 2) := by decide +kernel
theorem dX10_build_42 : decode cX10_build 42 = .ok (.invokevirtual 110, 3) := by decide +kernel
theorem dX10_build_45 : decode cX10_build 45 = .ok (.iload_n 3, 1) := by decide +kernel
theorem dX10_build_46 : decode cX10_build 46 = .ok (.iadd, 1) := by decide +kernel
theorem dX10_build_47 : decode cX10_build 47 = .ok (.bipush 40, 2) := by decide +kernel
theorem dX10_build_49 : decode cX10_build 49 = .ok (.if_icmp .le 10, 3) := by decide +kernel
theorem dX10_build_52 : decode cX10_build 52 = .ok (.aload_n 0, 1) := by decide +kernel
theorem dX10_build_53 : decode cX10_build 53 = .ok (.bipush (-5), 2) := by decide +kernel
theorem dX10_build_55 : decode cX10_build 55 = .ok (.invokevirtual 97, 3) := by decide +kernel
theorem dX10_build_58 : decode cX10_build 58 = .ok (.ireturn, 1) := by decide +kernel
theorem dX10_build_59 : decode cX10_build 59 = .ok (.iinc 4 1, 3) := by decide +kernel
theorem dX10_build_62 : decode cX10_build 62 = .ok (.goto (-31), 3) := by decide +kernel
theorem dX10_build_65 : decode cX10_build 65 = .ok (.aload_n 0, 1) := by decide +kernel
theorem dX10_build_66 : decode cX10_build 66 = .ok (.iload_n 1, 1) := by decide +kernel
theorem dX10_build_67 : decode cX10_build 67 = .ok (.invokevirtual 85, 3) := by decide +kernel
theorem dX10_build_70 : decode cX10_build 70 = .ok (.bipush 10, 2) := by decide +kernel
theorem dX10_build_72 : decode cX10_build 72 = .ok (.if_icmp .ne 10, 3) := by decide +kernel
theorem dX10_build_75 : decode cX10_build 75 = .ok (.aload_n 0, 1) := by decide +kernel
theorem dX10_build_76 : decode cX10_build 76 = .ok (.bipush (-6), 2) := by decide +kernel
theorem dX10_build_78 : decode cX10_build 78 = .ok (.invokevirtual 97, 3) := by decide +kernel
theorem dX10_build_81 : decode cX10_build 81 = .ok (.ireturn, 1) := by decide +kernel
theorem dX10_build_82 : decode cX10_build 82 = .ok (.iconst 4, 1) := by decide +kernel
theorem dX10_build_83 : decode cX10_build 83 = .ok (.aload_n 0, 1) := by decide +kernel
theorem dX10_build_84 : decode cX10_build 84 = .ok (.iload_n 1, 1) := by decide +kernel
theorem dX10_build_85 : decode cX10_build 85 = .ok (.invokevirtual 85, 3) := by decide +kernel
theorem dX10_build_88 : decode cX10_build 88 = .ok (.imul, 1) := by decide +kernel
theorem dX10_build_89 : decode cX10_build 89 = .ok (.istore 4, 2) := by decide +kernel
theorem dX10_build_91 : decode cX10_build 91 = .ok (.iconst 0, 1) := by decide +kernel
theorem dX10_build_92 : decode cX10_build 92 = .ok (.istore 5, 2) := by decide +kernel
theorem dX10_build_94 : decode cX10_build 94 = .ok (.iload 5, 2) := by decide +kernel
theorem dX10_build_96 : decode cX10_build 96 = .ok (.iconst 4, 1) := by decide +kernel
theorem dX10_build_97 : decode cX10_build 97 = .ok (.if_icmp .ge 31, 3) := by decide +kernel
theorem dX10_build_100 : decode cX10_build 100 = .ok (.aload_n 0, 1) := by decide +kernel
theorem dX10_build_101 : decode cX10_build 101 = .ok (.getfield 51, 3) := by decide +kernel
theorem dX10_build_104 : decode cX10_build 104 = .ok (.iload_n 1, 1) := by decide +kernel
theorem dX10_build_105 : decode cX10_build 105 = .ok (.aaload, 1) := by decide +kernel
theorem dX10_build_106 : decode cX10_build 106 = .ok (.iload 4, 2) := by decide +kernel
theorem dX10_build_108 : decode cX10_build 108 = .ok (.iload 5, 2) := by decide +kernel
theorem dX10_build_110 : decode cX10_build 110 = .ok (.iadd, 1) := by decide +kernel
theorem dX10_build_111 : decode cX10_build 111 = .ok (.aload_n 0, 1) := by decide +kernel
theorem dX10_build_112 : decode cX10_build 112 = .ok (.iload_n 1, 1) := by decide +kernel
theorem dX10_build_113 : decode cX10_build 113 = .ok (.iload_n 2, 1) := by decide +kernel
theorem dX10_build_114 : decode cX10_build 114 = .ok (.iload 5, 2) := by decide +kernel
theorem dX10_build_116 : decode cX10_build 116 = .ok (.invokevirtual 110, 3) := by decide +kernel
theorem dX10_build_119 : decode cX10_build 119 = .ok (.iload_n 3, 1) := by decide +kernel
theorem dX10_build_120 : decode cX10_build 120 = .ok (.iadd, 1) := by decide +kernel
theorem dX10_build_121 : decode cX10_build 121 = .ok (.iastore, 1) := by decide +kernel
theorem dX10_build_122 : decode cX10_build 122 = .ok (.iinc 5 1, 3) := by decide +kernel
theorem dX10_build_125 : decode cX10_build 125 = .ok (.goto (-31), 3) := by decide +kernel
theorem dX10_build_128 : decode cX10_build 128 = .ok (.aload_n 0, 1) := by decide +kernel
theorem dX10_build_129 : decode cX10_build 129 = .ok (.getfield 51, 3) := by decide +kernel
theorem dX10_build_132 : decode cX10_build 132 = .ok (.iload_n 1, 1) := by decide +kernel
theorem dX10_build_133 : decode cX10_build 133 = .ok (.aaload, 1) := by decide +kernel
theorem dX10_build_134 : decode cX10_build 134 = .ok (.iload 4, 2) := by decide +kernel
theorem dX10_build_136 : decode cX10_build 136 = .ok (.iconst 3, 1) := by decide +kernel
theorem dX10_build_137 : decode cX10_build 137 = .ok (.iadd, 1) := by decide +kernel
theorem dX10_build_138 : decode cX10_build 138 = .ok (.aload_n 0, 1) := by decide +kernel
theorem dX10_build_139 : decode cX10_build 139 = .ok (.getfield 51, 3) := by decide +kernel
theorem dX10_build_142 : decode cX10_build 142 = .ok (.iload_n 1, 1) := by decide +kernel
theorem dX10_build_143 : decode cX10_build 143 = .ok (.aaload, 1) := by decide +kernel
theorem dX10_build_144 : decode cX10_build 144 = .ok (.iload 4, 2) := by decide +kernel
theorem dX10_build_146 : decode cX10_build 146 = .ok (.iconst 3, 1) := by decide +kernel
theorem dX10_build_147 : decode cX10_build 147 = .ok (.iadd, 1) := by decide +kernel
theorem dX10_build_148 : decode cX10_build 148 = .ok (.iaload, 1) := by decide +kernel
theorem dX10_build_149 : decode cX10_build 149 = .ok (.bipush 99, 2) := by decide +kernel
theorem dX10_build_151 : decode cX10_build 151 = .ok (.if_icmp .le 8, 3) := by decide +kernel
theorem dX10_build_154 : decode cX10_build 154 = .ok (.bipush 99, 2) := by decide +kernel
theorem dX10_build_156 : decode cX10_build 156 = .ok (.goto 14, 3) := by decide +kernel
theorem dX10_build_159 : decode cX10_build 159 = .ok (.aload_n 0, 1) := by decide +kernel
theorem dX10_build_160 : decode cX10_build 160 = .ok (.getfield 51, 3) := by decide +kernel
theorem dX10_build_163 : decode cX10_build 163 = .ok (.iload_n 1, 1) := by decide +kernel
theorem dX10_build_164 : decode cX10_build 164 = .ok (.aaload, 1) := by decide +kernel
theorem dX10_build_165 : decode cX10_build 165 = .ok (.iload 4, 2) := by decide +kernel
theorem dX10_build_167 : decode cX10_build 167 = .ok (.iconst 3, 1) := by decide +kernel
theorem dX10_build_168 : decode cX10_build 168 = .ok (.iadd, 1) := by decide +kernel
theorem dX10_build_169 : decode cX10_build 169 = .ok (.iaload, 1) := by decide +kernel
theorem dX10_build_170 : decode cX10_build 170 = .ok (.iastore, 1) := by decide +kernel
theorem dX10_build_171 : decode cX10_build 171 = .ok (.aload_n 0, 1) := by decide +kernel
theorem dX10_build_172 : decode cX10_build 172 = .ok (.getfield 45, 3) := by decide +kernel
theorem dX10_build_175 : decode cX10_build 175 = .ok (.iload_n 1, 1) := by decide +kernel
theorem dX10_build_176 : decode cX10_build 176 = .ok (.aaload, 1) := by decide +kernel
theorem dX10_build_177 : decode cX10_build 177 = .ok (.iconst 1, 1) := by decide +kernel
theorem dX10_build_178 : decode cX10_build 178 = .ok (.dup2, 1) := by decide +kernel
theorem dX10_build_179 : decode cX10_build 179 = .ok (.iaload, 1) := by decide +kernel
theorem dX10_build_180 : decode cX10_build 180 = .ok (.iconst 1, 1) := by decide +kernel
theorem dX10_build_181 : decode cX10_build 181 = .ok (.iadd, 1) := by decide +kernel
theorem dX10_build_182 : decode cX10_build 182 = .ok (.iastore, 1) := by decide +kernel
theorem dX10_build_183 : decode cX10_build 183 = .ok (.aload_n 0, 1) := by decide +kernel
theorem dX10_build_184 : decode cX10_build 184 = .ok (.iload_n 1, 1) := by decide +kernel
theorem dX10_build_185 : decode cX10_build 185 = .ok (.invokevirtual 85, 3) := by decide +kernel
theorem dX10_build_188 : decode cX10_build 188 = .ok (.iconst 1, 1) := by decide +kernel
theorem dX10_build_189 : decode cX10_build 189 = .ok (.isub, 1) := by decide +kernel
theorem dX10_build_190 : decode cX10_build 190 = .ok (.ireturn, 1) := by decide +kernel
def lp_X10_build_31 (j65 : Option (Int32 × gz_M)) (fu : Nat) (M : gz_M) (a0 : Nat) (a1 : Int32) (a2 : Int32) (a3 : Int32) : Nat → Int32 → Option (Int32 × gz_M)
  | 0, _ => none
  | n31 + 1, x3 =>
    if (3 : Int32) ≤ x3 then
      j65
    else
      (f_X10_lastIs fu M a0 a1 a2 x3).bind fun x4 =>
      if (x4 + a3) ≤ (40 : Int32) then
        lp_X10_build_31 j65 fu M a0 a1 a2 a3 n31 (x3 + (1 : Int32))
      else
        gz_b2 (f_X10_refuse fu M a0 (-5 : Int32)) fun x5 M6 =>
        some (x5, M6)
def lp_X10_build_94 (j128 : gz_M → Option (Int32 × gz_M)) (fu : Nat) (a0 : Nat) (a1 : Int32) (a2 : Int32) (a3 : Int32) (x10 : Int32) : Nat → Int32 → gz_M → Option (Int32 × gz_M)
  | 0, _, _ => none
  | n94 + 1, x11, M12 =>
    if (4 : Int32) ≤ x11 then
      j128 M12
    else
      (gz_gR M12 10 14 a0).bind fun x13 =>
      (gz_aR M12 x13 a1).bind fun x14 =>
      (f_X10_lastIs fu M12 a0 a1 a2 x11).bind fun x15 =>
      (gz_tI M12 x14 (((4 : Int32) * x10) + x11) (x15 + a3)).bind fun M16 =>
      lp_X10_build_94 j128 fu a0 a1 a2 a3 x10 n94 (x11 + (1 : Int32)) M16
def f_X10_build (fu : Nat) (M : gz_M) (a0 : Nat) (a1 : Int32) (a2 : Int32) (a3 : Int32) : Option (Int32 × gz_M) :=
  gz_gd M 10 a0 <|
  (f_X10_isLast fu M a0 a1 a2).bind fun x1 =>
  gz_jn (gz_b2 (f_X10_refuse fu M a0 (-2 : Int32)) fun x33 M34 =>
    some (x33, M34)) fun j21 =>
  if x1 = 0 then
    j21
  else
    (f_X10_in fu M (a3).toInt64 (1 : Int64) (9 : Int64)).bind fun x2 =>
    if x2 = 0 then
      j21
    else
      lp_X10_build_31 ((f_X10_lastsOf fu M a0 a1).bind fun x7 =>
        if x7 = (10 : Int32) then
          gz_b2 (f_X10_refuse fu M a0 (-6 : Int32)) fun x8 M9 =>
          some (x8, M9)
        else
          (f_X10_lastsOf fu M a0 a1).bind fun x10 =>
          lp_X10_build_94 (fun (M17 : gz_M) => (gz_gR M17 10 14 a0).bind fun x18 =>
            (gz_aR M17 x18 a1).bind fun x19 =>
            (gz_gR M17 10 14 a0).bind fun x20 =>
            (gz_aR M17 x20 a1).bind fun x21 =>
            (gz_aI M17 x21 (((4 : Int32) * x10) + (3 : Int32))).bind fun x22 =>
            gz_jn (fun (x26 : Int32) =>
            (gz_tI M17 x19 (((4 : Int32) * x10) + (3 : Int32)) x26).bind fun M27 =>
              (gz_gR M27 10 12 a0).bind fun x28 =>
              (gz_aR M27 x28 a1).bind fun x29 =>
              (gz_aI M27 x29 (1 : Int32)).bind fun x30 =>
              (gz_tI M27 x29 (1 : Int32) (x30 + (1 : Int32))).bind fun M31 =>
              (f_X10_lastsOf fu M31 a0 a1).bind fun x32 =>
              some ((x32 - (1 : Int32)), M31)) fun j170 =>
            if x22 ≤ (99 : Int32) then
              (gz_gR M17 10 14 a0).bind fun x23 =>
              (gz_aR M17 x23 a1).bind fun x24 =>
              (gz_aI M17 x24 (((4 : Int32) * x10) + (3 : Int32))).bind fun x25 =>
              j170 x25
            else
              j170 (99 : Int32)) fu a0 a1 a2 a3 x10 fu (0 : Int32) M) fu M a0 a1 a2 a3 fu (0 : Int32)
set_option maxHeartbeats 4000000 in
theorem w_X10_build_31 {C : gz_C} {y : Int32 × gz_M} {fu : Nat} {M : gz_M} {a0 : Nat} {a1 : Int32} {a2 : Int32} {a3 : Int32} {j65 : Option (Int32 × gz_M)} (hC : gz_ok C cX10_build RX10 6) (hX : gz_cx C 3 68 0 0 (some .int) (some (.int y.1)) y.2 "build") (hj65 : j65 = some y → gz_go C 0 0 M [(0, .ref a0), (1, .int a1), (2, .int a2), (3, .int a3)] 65 []) : ∀ (n : Nat) (x3 : Int32), lp_X10_build_31 j65 fu M a0 a1 a2 a3 n x3 = some y → gz_go C 0 0 M [(0, .ref a0), (1, .int a1), (2, .int a2), (3, .int a3), (4, .int x3)] 31 [] := by
  intro n
  induction n with
  | zero => intro x3 hF; exact nomatch (show (none : Option (Int32 × gz_M)) = some y from hF)
  | succ n31 ih31 =>
    intro x3 hF
    rw [lp_X10_build_31.eq_2] at hF
    refine gz_iload 31 hC 4 dX10_build_31 rfl ?_
    refine gz_iconst 33 hC (3 : Int32) dX10_build_33 gz_k3 ?_
    refine gz_icmp_ge 34 65 hC dX10_build_34 (by decide) hF (fun hF => ?_) (fun hF => ?_)
    · skip
      refine gz_sub [0, 1, 2, 3] [(0, .ref a0), (1, .int a1), (2, .int a2), (3, .int a3)] rfl ?_
      exact hj65 hF
    · skip
      refine gz_aload_n 37 hC 0 dX10_build_37 rfl rfl ?_
      refine gz_iload_n 38 hC 1 dX10_build_38 rfl rfl ?_
      refine gz_iload_n 39 hC 2 dX10_build_39 rfl rfl ?_
      refine gz_iload 40 hC 4 dX10_build_40 rfl ?_
      refine gz_cvP (st := []) 42 hC hX [.int a1, .int a2, .int x3] Value.int yl_X10_lastIs yv_X10_lastIs q_1237 ⟨Nat.le_of_ble_eq_true rfl, Nat.le_of_ble_eq_true rfl⟩ ⟨_, rfl⟩ (fun r h => ct_X10_lastIs _ _ fu M a0 a1 a2 x3 r h) rfl rfl (Nat.le_of_ble_eq_true rfl) dX10_build_42 gz_00 hF (fun x4 hF => ?_)
      refine gz_iload_n 45 hC 3 dX10_build_45 rfl rfl ?_
      refine gz_iadd 46 hC dX10_build_46 ?_
      refine gz_bipush 47 hC (40 : Int32) dX10_build_47 gz_b40 ?_
      refine gz_icmp_le 49 59 hC dX10_build_49 (by decide) hF (fun hF => ?_) (fun hF => ?_)
      · skip
        refine gz_iinc 59 hC (x3 + (1 : Int32)) 4 [(4, .int (x3 + (1 : Int32))), (0, .ref a0), (1, .int a1), (2, .int a2), (3, .int a3)] dX10_build_59 rfl rfl (by decide) rfl ?_
        refine gz_goto 62 31 hC dX10_build_62 (by decide) ?_
        refine gz_sub [1, 2, 3, 4, 0] [(0, .ref a0), (1, .int a1), (2, .int a2), (3, .int a3), (4, .int (x3 + (1 : Int32)))] rfl ?_
        exact ih31 _ hF
      · skip
        refine gz_aload_n 52 hC 0 dX10_build_52 rfl rfl ?_
        refine gz_bipush 53 hC (-5 : Int32) dX10_build_53 gz_bm5 ?_
        refine gz_cvM (st := []) 55 hC hX [.int (-5 : Int32)] Value.int yl_X10_refuse yv_X10_refuse q_1175 ⟨Nat.le_of_ble_eq_true rfl, Nat.le_of_ble_eq_true rfl⟩ ⟨_, rfl⟩ (fun r h => ct_X10_refuse _ _ fu M a0 (-5 : Int32) r h) rfl rfl (Nat.le_of_ble_eq_true rfl) dX10_build_55 gz_00 hF (fun x5 M6 hF => ?_)
        exact gz_iretM 58 hC hX dX10_build_58 hF
set_option maxHeartbeats 4000000 in
theorem w_X10_build_94 {C : gz_C} {y : Int32 × gz_M} {fu : Nat} {a0 : Nat} {a1 : Int32} {a2 : Int32} {a3 : Int32} {x10 : Int32} {j128 : gz_M → Option (Int32 × gz_M)} (hC : gz_ok C cX10_build RX10 6) (hX : gz_cx C 3 68 0 0 (some .int) (some (.int y.1)) y.2 "build") (hj128 : ∀ (M17 : gz_M), j128 M17 = some y → gz_go C 0 0 M17 [(0, .ref a0), (1, .int a1), (4, .int ((4 : Int32) * x10))] 128 []) : ∀ (n : Nat) (x11 : Int32) (M12 : gz_M), lp_X10_build_94 j128 fu a0 a1 a2 a3 x10 n x11 M12 = some y → gz_go C 0 0 M12 [(0, .ref a0), (1, .int a1), (2, .int a2), (3, .int a3), (4, .int ((4 : Int32) * x10)), (5, .int x11)] 94 [] := by
  intro n
  induction n with
  | zero => intro x11 M12 hF; exact nomatch (show (none : Option (Int32 × gz_M)) = some y from hF)
  | succ n94 ih94 =>
    intro x11 M12 hF
    rw [lp_X10_build_94.eq_2] at hF
    refine gz_iload 94 hC 5 dX10_build_94 rfl ?_
    refine gz_iconst 96 hC (4 : Int32) dX10_build_96 gz_k4 ?_
    refine gz_icmp_ge 97 128 hC dX10_build_97 (by decide) hF (fun hF => ?_) (fun hF => ?_)
    · skip
      refine gz_sub [0, 1, 4] [(0, .ref a0), (1, .int a1), (4, .int ((4 : Int32) * x10))] rfl ?_
      exact hj128 _ hF
    · skip
      refine gz_aload_n 100 hC 0 dX10_build_100 rfl rfl ?_
      refine gz_getR 101 hC fl_X10_51 fk_10_14 dX10_build_101 hF (fun x13 hF => ?_)
      refine gz_iload_n 104 hC 1 dX10_build_104 rfl rfl ?_
      refine gz_aald 105 hC dX10_build_105 hF (fun x14 hF => ?_)
      refine gz_iload 106 hC 4 dX10_build_106 rfl ?_
      refine gz_iload 108 hC 5 dX10_build_108 rfl ?_
      refine gz_iadd 110 hC dX10_build_110 ?_
      refine gz_aload_n 111 hC 0 dX10_build_111 rfl rfl ?_
      refine gz_iload_n 112 hC 1 dX10_build_112 rfl rfl ?_
      refine gz_iload_n 113 hC 2 dX10_build_113 rfl rfl ?_
      refine gz_iload 114 hC 5 dX10_build_114 rfl ?_
      refine gz_cvP (st := [.int (((4 : Int32) * x10) + x11), .ref x14]) 116 hC hX [.int a1, .int a2, .int x11] Value.int yl_X10_lastIs yv_X10_lastIs q_1237 ⟨Nat.le_of_ble_eq_true rfl, Nat.le_of_ble_eq_true rfl⟩ ⟨_, rfl⟩ (fun r h => ct_X10_lastIs _ _ fu M12 a0 a1 a2 x11 r h) rfl rfl (Nat.le_of_ble_eq_true rfl) dX10_build_116 gz_00 hF (fun x15 hF => ?_)
      refine gz_iload_n 119 hC 3 dX10_build_119 rfl rfl ?_
      refine gz_iadd 120 hC dX10_build_120 ?_
      refine gz_iast 121 hC dX10_build_121 hF (fun M16 hF => ?_)
      refine gz_iinc 122 hC (x11 + (1 : Int32)) 5 [(5, .int (x11 + (1 : Int32))), (0, .ref a0), (1, .int a1), (2, .int a2), (3, .int a3), (4, .int ((4 : Int32) * x10))] dX10_build_122 rfl rfl (by decide) rfl ?_
      refine gz_goto 125 94 hC dX10_build_125 (by decide) ?_
      refine gz_sub [1, 2, 3, 4, 5, 0] [(0, .ref a0), (1, .int a1), (2, .int a2), (3, .int a3), (4, .int ((4 : Int32) * x10)), (5, .int (x11 + (1 : Int32)))] rfl ?_
      exact ih94 _ _ hF
set_option maxHeartbeats 4000000 in
theorem ct_X10_build (l : Launch) (G : gz_G) (fu : Nat) (M : gz_M) (a0 : Nat) (a1 : Int32) (a2 : Int32) (a3 : Int32) (y : Int32 × gz_M) (hF : f_X10_build fu M a0 a1 a2 a3 = some y) : gz_ct l yX10_build cX10_build 6 (some .int) 3 68 0 0 G [.ref a0, .int a1, .int a2, .int a3] M (some (.int y.1)) y.2 := by
  refine gz_ct.of (by decide) (Nat.le_of_ble_eq_true rfl) (fun C hC hX => ?_)
  unfold f_X10_build at hF
  obtain ⟨-, hF⟩ := gz_gd_some hF
  show gz_go C 0 0 M [(0, .ref a0), (1, .int a1), (2, .int a2), (3, .int a3)] 0 []
  refine gz_aload_n 0 hC 0 dX10_build_0 rfl rfl ?_
  refine gz_iload_n 1 hC 1 dX10_build_1 rfl rfl ?_
  refine gz_iload_n 2 hC 2 dX10_build_2 rfl rfl ?_
  refine gz_cvP (st := []) 3 hC hX [.int a1, .int a2] Value.int yl_X10_isLast yv_X10_isLast q_1333 ⟨Nat.le_of_ble_eq_true rfl, Nat.le_of_ble_eq_true rfl⟩ ⟨_, rfl⟩ (fun r h => ct_X10_isLast _ _ fu M a0 a1 a2 r h) rfl rfl (Nat.le_of_ble_eq_true rfl) dX10_build_3 gz_00 hF (fun x1 hF => ?_)
  refine gz_join (fun (j : Option (Int32 × gz_M)) => j = some y → gz_go C 0 0 M [(0, .ref a0)] 21 []) hF (fun hF => ?_) (fun j21 hj21 hF => ?_)
  · skip
    refine gz_aload_n 21 hC 0 dX10_build_21 rfl rfl ?_
    refine gz_bipush 22 hC (-2 : Int32) dX10_build_22 gz_bm2 ?_
    refine gz_cvM (st := []) 24 hC hX [.int (-2 : Int32)] Value.int yl_X10_refuse yv_X10_refuse q_1175 ⟨Nat.le_of_ble_eq_true rfl, Nat.le_of_ble_eq_true rfl⟩ ⟨_, rfl⟩ (fun r h => ct_X10_refuse _ _ fu M a0 (-2 : Int32) r h) rfl rfl (Nat.le_of_ble_eq_true rfl) dX10_build_24 gz_00 hF (fun x33 M34 hF => ?_)
    exact gz_iretM 27 hC hX dX10_build_27 hF
  refine gz_if_eq 6 21 hC dX10_build_6 (by decide) hF (fun hF => ?_) (fun hF => ?_)
  · skip
    refine gz_sub [0] [(0, .ref a0)] rfl ?_
    exact hj21 hF
  · skip
    refine gz_iload_n 9 hC 3 dX10_build_9 rfl rfl ?_
    refine gz_i2l 10 hC dX10_build_10 ?_
    refine gz_lconst 11 hC (1 : Int64) dX10_build_11 gz_l1 ?_
    refine gz_ldc2 12 hC dX10_build_12 q_1203 ?_
    refine gz_csP (st := []) 15 hC hX [.long (a3).toInt64, .long (1 : Int64), .long (9 : Int64)] Value.int yl_X10_in yv_X10_in q_1170 ⟨Nat.le_of_ble_eq_true rfl, Nat.le_of_ble_eq_true rfl⟩ (fun r h => ct_X10_in _ _ fu M (a3).toInt64 (1 : Int64) (9 : Int64) r h) rfl rfl (Nat.le_of_ble_eq_true rfl) dX10_build_15 gz_00 hF (fun x2 hF => ?_)
    refine gz_if_ne 18 28 hC dX10_build_18 (by decide) hF (fun hF => ?_) (fun hF => ?_)
    · skip
      refine gz_iconst 28 hC (0 : Int32) dX10_build_28 gz_k0 ?_
      refine gz_istore 29 hC [(4, .int (0 : Int32)), (0, .ref a0), (1, .int a1), (2, .int a2), (3, .int a3)] dX10_build_29 (by decide) rfl ?_
      refine gz_sub [1, 2, 3, 4, 0] [(0, .ref a0), (1, .int a1), (2, .int a2), (3, .int a3), (4, .int (0 : Int32))] rfl ?_
      refine w_X10_build_31 hC hX ?_ _ _ hF
      intro hF
      refine gz_aload_n 65 hC 0 dX10_build_65 rfl rfl ?_
      refine gz_iload_n 66 hC 1 dX10_build_66 rfl rfl ?_
      refine gz_cvP (st := []) 67 hC hX [.int a1] Value.int yl_X10_lastsOf yv_X10_lastsOf q_1229 ⟨Nat.le_of_ble_eq_true rfl, Nat.le_of_ble_eq_true rfl⟩ ⟨_, rfl⟩ (fun r h => ct_X10_lastsOf _ _ fu M a0 a1 r h) rfl rfl (Nat.le_of_ble_eq_true rfl) dX10_build_67 gz_00 hF (fun x7 hF => ?_)
      refine gz_bipush 70 hC (10 : Int32) dX10_build_70 gz_b10 ?_
      refine gz_icmp_ne 72 82 hC dX10_build_72 (by decide) hF (fun hF => ?_) (fun hF => ?_)
      · skip
        refine gz_iconst 82 hC (4 : Int32) dX10_build_82 gz_k4 ?_
        refine gz_aload_n 83 hC 0 dX10_build_83 rfl rfl ?_
        refine gz_iload_n 84 hC 1 dX10_build_84 rfl rfl ?_
        refine gz_cvP (st := [.int (4 : Int32)]) 85 hC hX [.int a1] Value.int yl_X10_lastsOf yv_X10_lastsOf q_1229 ⟨Nat.le_of_ble_eq_true rfl, Nat.le_of_ble_eq_true rfl⟩ ⟨_, rfl⟩ (fun r h => ct_X10_lastsOf _ _ fu M a0 a1 r h) rfl rfl (Nat.le_of_ble_eq_true rfl) dX10_build_85 gz_00 hF (fun x10 hF => ?_)
        refine gz_imul 88 hC dX10_build_88 ?_
        refine gz_istore 89 hC [(4, .int ((4 : Int32) * x10)), (0, .ref a0), (1, .int a1), (2, .int a2), (3, .int a3)] dX10_build_89 (by decide) rfl ?_
        refine gz_iconst 91 hC (0 : Int32) dX10_build_91 gz_k0 ?_
        refine gz_istore 92 hC [(5, .int (0 : Int32)), (4, .int ((4 : Int32) * x10)), (0, .ref a0), (1, .int a1), (2, .int a2), (3, .int a3)] dX10_build_92 (by decide) rfl ?_
        refine gz_sub [2, 3, 4, 5, 1, 0] [(0, .ref a0), (1, .int a1), (2, .int a2), (3, .int a3), (4, .int ((4 : Int32) * x10)), (5, .int (0 : Int32))] rfl ?_
        refine w_X10_build_94 hC hX ?_ _ _ _ hF
        intro M17 hF
        refine gz_aload_n 128 hC 0 dX10_build_128 rfl rfl ?_
        refine gz_getR 129 hC fl_X10_51 fk_10_14 dX10_build_129 hF (fun x18 hF => ?_)
        refine gz_iload_n 132 hC 1 dX10_build_132 rfl rfl ?_
        refine gz_aald 133 hC dX10_build_133 hF (fun x19 hF => ?_)
        refine gz_iload 134 hC 2 dX10_build_134 rfl ?_
        refine gz_iconst 136 hC (3 : Int32) dX10_build_136 gz_k3 ?_
        refine gz_iadd 137 hC dX10_build_137 ?_
        refine gz_aload_n 138 hC 0 dX10_build_138 rfl rfl ?_
        refine gz_getR 139 hC fl_X10_51 fk_10_14 dX10_build_139 hF (fun x20 hF => ?_)
        refine gz_iload_n 142 hC 1 dX10_build_142 rfl rfl ?_
        refine gz_aald 143 hC dX10_build_143 hF (fun x21 hF => ?_)
        refine gz_iload 144 hC 2 dX10_build_144 rfl ?_
        refine gz_iconst 146 hC (3 : Int32) dX10_build_146 gz_k3 ?_
        refine gz_iadd 147 hC dX10_build_147 ?_
        refine gz_iald 148 hC dX10_build_148 hF (fun x22 hF => ?_)
        refine gz_bipush 149 hC (99 : Int32) dX10_build_149 gz_b99 ?_
        refine gz_join (fun (j : Int32 → Option (Int32 × gz_M)) => ∀ (x26 : Int32), j x26 = some y → gz_go C 0 0 M17 [(0, .ref a0), (1, .int a1)] 170 [.int x26, .int (((4 : Int32) * x10) + (3 : Int32)), .ref x19]) hF (fun x26 hF => ?_) (fun j170 hj170 hF => ?_)
        · skip
          refine gz_iast 170 hC dX10_build_170 hF (fun M27 hF => ?_)
          refine gz_aload_n 171 hC 0 dX10_build_171 rfl rfl ?_
          refine gz_getR 172 hC fl_X10_45 fk_10_12 dX10_build_172 hF (fun x28 hF => ?_)
          refine gz_iload_n 175 hC 1 dX10_build_175 rfl rfl ?_
          refine gz_aald 176 hC dX10_build_176 hF (fun x29 hF => ?_)
          refine gz_iconst 177 hC (1 : Int32) dX10_build_177 gz_k1 ?_
          refine gz_dup2 178 hC dX10_build_178 rfl rfl ?_
          refine gz_iald 179 hC dX10_build_179 hF (fun x30 hF => ?_)
          refine gz_iconst 180 hC (1 : Int32) dX10_build_180 gz_k1 ?_
          refine gz_iadd 181 hC dX10_build_181 ?_
          refine gz_iast 182 hC dX10_build_182 hF (fun M31 hF => ?_)
          refine gz_aload_n 183 hC 0 dX10_build_183 rfl rfl ?_
          refine gz_iload_n 184 hC 1 dX10_build_184 rfl rfl ?_
          refine gz_cvP (st := []) 185 hC hX [.int a1] Value.int yl_X10_lastsOf yv_X10_lastsOf q_1229 ⟨Nat.le_of_ble_eq_true rfl, Nat.le_of_ble_eq_true rfl⟩ ⟨_, rfl⟩ (fun r h => ct_X10_lastsOf _ _ fu M31 a0 a1 r h) rfl rfl (Nat.le_of_ble_eq_true rfl) dX10_build_185 gz_00 hF (fun x32 hF => ?_)
          refine gz_iconst 188 hC (1 : Int32) dX10_build_188 gz_k1 ?_
          refine gz_isub 189 hC dX10_build_189 ?_
          exact gz_iretM 190 hC hX dX10_build_190 hF
        refine gz_icmp_le 151 159 hC dX10_build_151 (by decide) hF (fun hF => ?_) (fun hF => ?_)
        · skip
          refine gz_aload_n 159 hC 0 dX10_build_159 rfl rfl ?_
          refine gz_getR 160 hC fl_X10_51 fk_10_14 dX10_build_160 hF (fun x23 hF => ?_)
          refine gz_iload_n 163 hC 1 dX10_build_163 rfl rfl ?_
          refine gz_aald 164 hC dX10_build_164 hF (fun x24 hF => ?_)
          refine gz_iload 165 hC 2 dX10_build_165 rfl ?_
          refine gz_iconst 167 hC (3 : Int32) dX10_build_167 gz_k3 ?_
          refine gz_iadd 168 hC dX10_build_168 ?_
          refine gz_iald 169 hC dX10_build_169 hF (fun x25 hF => ?_)
          refine gz_sub [0, 1] [(0, .ref a0), (1, .int a1)] rfl ?_
          exact hj170 _ hF
        · skip
          refine gz_bipush 154 hC (99 : Int32) dX10_build_154 gz_b99 ?_
          refine gz_goto 156 170 hC dX10_build_156 (by decide) ?_
          refine gz_sub [0, 1] [(0, .ref a0), (1, .int a1)] rfl ?_
          exact hj170 _ hF
      · skip
        refine gz_aload_n 75 hC 0 dX10_build_75 rfl rfl ?_
        refine gz_bipush 76 hC (-6 : Int32) dX10_build_76 gz_bm6 ?_
        refine gz_cvM (st := []) 78 hC hX [.int (-6 : Int32)] Value.int yl_X10_refuse yv_X10_refuse q_1175 ⟨Nat.le_of_ble_eq_true rfl, Nat.le_of_ble_eq_true rfl⟩ ⟨_, rfl⟩ (fun r h => ct_X10_refuse _ _ fu M a0 (-6 : Int32) r h) rfl rfl (Nat.le_of_ble_eq_true rfl) dX10_build_78 gz_00 hF (fun x8 M9 hF => ?_)
        exact gz_iretM 81 hC hX dX10_build_81 hF
    · skip
      refine gz_sub [0] [(0, .ref a0)] rfl ?_
      exact hj21 hF

theorem dX10_grown_0 : decode cX10_grown 0 = .ok (.aload_n 0, 1) := by decide +kernel
theorem dX10_grown_1 : decode cX10_grown 1 = .ok (.iload_n 1, 1) := by decide +kernel
theorem dX10_grown_2 : decode cX10_grown 2 = .ok (.iload_n 2, 1) := by decide +kernel
theorem dX10_grown_3 : decode cX10_grown 3 = .ok (.iconst 0, 1) := by decide +kernel
theorem dX10_grown_4 : decode cX10_grown 4 = .ok (.invokevirtual 114, 3) := by decide +kernel
theorem dX10_grown_7 : decode cX10_grown 7 = .ok (.aload_n 0, 1) := by decide +kernel
theorem dX10_grown_8 : decode cX10_grown 8 = .ok (.getfield 45, 3) := by decide +kernel
theorem dX10_grown_11 : decode cX10_grown 11 = .ok (.iload_n 1, 1) := by decide +kernel
theorem dX10_grown_12 : decode cX10_grown 12 = .ok (.aaload, 1) := by decide +kernel
theorem dX10_grown_13 : decode cX10_grown 13 = .ok (.iconst 3, 1) := by decide +kernel
theorem dX10_grown_14 : decode cX10_grown 14 = .ok (.iaload, 1) := by decide +kernel
theorem dX10_grown_15 : decode cX10_grown 15 = .ok (.iload_n 3, 1) := by decide +kernel
theorem dX10_grown_16 : decode cX10_grown 16 = .ok (.imul, 1) := by decide +kernel
theorem dX10_grown_17 : decode cX10_grown 17 = .ok (.iadd, 1) := by decide +kernel
theorem dX10_grown_18 : decode cX10_grown 18 = .ok (.istore 4, 2) := by decide +kernel
theorem dX10_grown_20 : decode cX10_grown 20 = .ok (.iload 4, 2) := by decide +kernel
theorem dX10_grown_22 : decode cX10_grown 22 = .ok (.bipush 30, 2) := by decide +kernel
theorem dX10_grown_24 : decode cX10_grown 24 = .ok (.if_icmp .le 8, 3) := by decide +kernel
theorem dX10_grown_27 : decode cX10_grown 27 = .ok (.bipush 30, 2) := by decide +kernel
theorem dX10_grown_29 : decode cX10_grown 29 = .ok (.goto 5, 3) := by decide +kernel
theorem dX10_grown_32 : decode cX10_grown 32 = .ok (.iload 4, 2) := by decide +kernel
theorem dX10_grown_34 : decode cX10_grown 34 = .ok (.ireturn, 1) := by decide +kernel

def f_X10_grown (fu : Nat) (M : gz_M) (a0 : Nat) (a1 : Int32) (a2 : Int32) (a3 : Int32) : Option (Int32) :=
  gz_gd M 10 a0 <|
  (f_X10_of fu M a0 a1 a2 (0 : Int32)).bind fun x1 =>
  (gz_gR M 10 12 a0).bind fun x2 =>
  (gz_aR M x2 a1).bind fun x3 =>
  (gz_aI M x3 (3 : Int32)).bind fun x4 =>
  gz_jn (fun (x5 : Int32) =>
  some x5) fun j34 =>
  if (x1 + (x4 * a3)) ≤ (30 : Int32) then
    j34 (x1 + (x4 * a3))
  else
    j34 (30 : Int32)

set_option maxHeartbeats 4000000 in
theorem ct_X10_grown (l : Launch) (G : gz_G) (fu : Nat) (M : gz_M) (a0 : Nat) (a1 : Int32) (a2 : Int32) (a3 : Int32) (y : Int32) (hF : f_X10_grown fu M a0 a1 a2 a3 = some y) : gz_ct l yX10_grown cX10_grown 5 (some .int) 1 23 0 0 G [.ref a0, .int a1, .int a2, .int a3] M (some (.int y)) M := by
  refine gz_ct.of (by decide) (Nat.le_of_ble_eq_true rfl) (fun C hC hX => ?_)
  unfold f_X10_grown at hF
  obtain ⟨-, hF⟩ := gz_gd_some hF
  show gz_go C 0 0 M [(0, .ref a0), (1, .int a1), (2, .int a2), (3, .int a3)] 0 []
  refine gz_aload_n 0 hC 0 dX10_grown_0 rfl rfl ?_
  refine gz_iload_n 1 hC 1 dX10_grown_1 rfl rfl ?_
  refine gz_iload_n 2 hC 2 dX10_grown_2 rfl rfl ?_
  refine gz_iconst 3 hC (0 : Int32) dX10_grown_3 gz_k0 ?_
  refine gz_cvP (st := []) 4 hC hX [.int a1, .int a2, .int (0 : Int32)] Value.int yl_X10_of yv_X10_of q_1241 ⟨Nat.le_of_ble_eq_true rfl, Nat.le_of_ble_eq_true rfl⟩ ⟨_, rfl⟩ (fun r h => ct_X10_of _ _ fu M a0 a1 a2 (0 : Int32) r h) rfl rfl (Nat.le_of_ble_eq_true rfl) dX10_grown_4 gz_00 hF (fun x1 hF => ?_)
  refine gz_aload_n 7 hC 0 dX10_grown_7 rfl rfl ?_
  refine gz_getR 8 hC fl_X10_45 fk_10_12 dX10_grown_8 hF (fun x2 hF => ?_)
  refine gz_iload_n 11 hC 1 dX10_grown_11 rfl rfl ?_
  refine gz_aald 12 hC dX10_grown_12 hF (fun x3 hF => ?_)
  refine gz_iconst 13 hC (3 : Int32) dX10_grown_13 gz_k3 ?_
  refine gz_iald 14 hC dX10_grown_14 hF (fun x4 hF => ?_)
  refine gz_iload_n 15 hC 3 dX10_grown_15 rfl rfl ?_
  refine gz_imul 16 hC dX10_grown_16 ?_
  refine gz_iadd 17 hC dX10_grown_17 ?_
  refine gz_istore 18 hC [(4, .int (x1 + (x4 * a3))), (0, .ref a0), (1, .int a1), (2, .int a2), (3, .int a3)] dX10_grown_18 (by decide) rfl ?_
  refine gz_iload 20 hC 0 dX10_grown_20 rfl ?_
  refine gz_bipush 22 hC (30 : Int32) dX10_grown_22 gz_b30 ?_
  refine gz_join (fun (j : Int32 → Option (Int32)) => ∀ (x5 : Int32), j x5 = some y → gz_go C 0 0 M [] 34 [.int x5]) hF (fun x5 hF => ?_) (fun j34 hj34 hF => ?_)
  · skip
    exact gz_iretP 34 hC hX dX10_grown_34 hF
  refine gz_icmp_le 24 32 hC dX10_grown_24 (by decide) hF (fun hF => ?_) (fun hF => ?_)
  · skip
    refine gz_iload 32 hC 0 dX10_grown_32 rfl ?_
    refine gz_sub [] [] rfl ?_
    exact hj34 _ hF
  · skip
    refine gz_bipush 27 hC (30 : Int32) dX10_grown_27 gz_b30 ?_
    refine gz_goto 29 34 hC dX10_grown_29 (by decide) ?_
    refine gz_sub [] [] rfl ?_
    exact hj34 _ hF

theorem dX10_year_0 : decode cX10_year 0 = .ok (.aload_n 0, 1) := by decide +kernel
theorem dX10_year_1 : decode cX10_year 1 = .ok (.iload_n 1, 1) := by decide +kernel
theorem dX10_year_2 : decode cX10_year 2 = .ok (.invokevirtual 77, 3) := by decide +kernel
theorem dX10_year_5 : decode cX10_year 5 = .ok (.ifCond .ne 10, 3) := by decide +kernel
theorem dX10_year_8 : decode cX10_year 8 = .ok (.aload_n 0, 1) := by decide +kernel
theorem dX10_year_9 : decode cX10_year 9 = .ok (.bipush (-2), 2) := by decide +kernel
theorem dX10_year_11 : decode cX10_year 11 = .ok (.invokevirtual 97, 3) := by decide +kernel
theorem dX10_year_14 : decode cX10_year 14 = .ok (.ireturn, 1) := by decide +kernel
theorem dX10_year_15 : decode cX10_year 15 = .ok (.iconst 0, 1) := by decide +kernel
theorem dX10_year_16 : decode cX10_year 16 = .ok (.istore_n 2, 1) := by decide +kernel
theorem dX10_year_17 : decode cX10_year 17 = .ok (.iconst 0, 1) := by decide +kernel
theorem dX10_year_18 : decode cX10_year 18 = .ok (.istore_n 3, 1) := by decide +kernel
theorem dX10_year_19 : decode cX10_year 19 = .ok (.iload_n 3, 1) := by decide +kernel
theorem dX10_year_20 : decode cX10_year 20 = .ok (.aload_n 0, 1) := by decide +kernel
theorem dX10_year_21 : decode cX10_year 21 = .ok (.iload_n 1, 1) := by decide +kernel
theorem dX10_year_22 : decode cX10_year 22 = .ok (.invokevirtual 81, 3) := by decide +kernel
theorem dX10_year_25 : decode cX10_year 25 = .ok (.if_icmp .ge 50, 3) := by decide +kernel
theorem dX10_year_28 : decode cX10_year 28 = .ok (.aload_n 0, 1) := by decide +kernel
theorem dX10_year_29 : decode cX10_year 29 = .ok (.iload_n 1, 1) := by decide +kernel
theorem dX10_year_30 : decode cX10_year 30 = .ok (.iload_n 3, 1) := by decide +kernel
theorem dX10_year_31 : decode cX10_year 31 = .ok (.iconst 1, 1) := by decide +kernel
theorem dX10_year_32 : decode cX10_year 32 = .ok (.invokevirtual 227, 3) := by decide +kernel
theorem dX10_year_35 : decode cX10_year 35 = .ok (.istore 4, 2) := by decide +kernel
theorem dX10_year_37 : decode cX10_year 37 = .ok (.iload_n 2, 1) := by decide +kernel
theorem dX10_year_38 : decode cX10_year 38 = .ok (.iload 4, 2) := by decide +kernel
theorem dX10_year_40 : decode cX10_year 40 = .ok (.aload_n 0, 1) := by decide +kernel
theorem dX10_year_41 : decode cX10_year 41 = .ok (.iload_n 1, 1) := by decide +kernel
theorem dX10_year_42 : decode cX10_year 42 = .ok (.iload_n 3, 1) := by decide +kernel
theorem dX10_year_43 : decode cX10_year 43 = .ok (.iconst 0, 1) := by decide +kernel
theorem dX10_year_44 : decode cX10_year 44 = .ok (.invokevirtual 114, 3) := by decide +kernel
theorem dX10_year_47 : decode cX10_year 47 = .ok (.if_icmp .eq 7, 3) := by decide +kernel
theorem dX10_year_50 : decode cX10_year 50 = .ok (.iconst 1, 1) := by decide +kernel
theorem dX10_year_51 : decode cX10_year 51 = .ok (.goto 4, 3) := by decide +kernel
theorem dX10_year_54 : decode cX10_year 54 = .ok (.iconst 0, 1) := by decide +kernel
theorem dX10_year_55 : decode cX10_year 55 = .ok (.iadd, 1) := by decide +kernel
theorem dX10_year_56 : decode cX10_year 56 = .ok (.istore_n 2, 1) := by decide +kernel
theorem dX10_year_57 : decode cX10_year 57 = .ok (.aload_n 0, 1) := by decide +kernel
theorem dX10_year_58 : decode cX10_year 58 = .ok (.getfield 48, 3) := by decide +kernel
theorem dX10_year_61 : decode cX10_year 61 = .ok (.iload_n 1, 1) := by decide +kernel
theorem dX10_year_62 : decode cX10_year 62 = .ok (.aaload, 1) := by decide +kernel
theorem dX10_year_63 : decode cX10_year 63 = .ok (.iconst 5, 1) := by decide +kernel
theorem dX10_year_64 : decode cX10_year 64 = .ok (.iload_n 3, 1) := by decide +kernel
theorem dX10_year_65 : decode cX10_year 65 = .ok (.imul, 1) := by decide +kernel
theorem dX10_year_66 : decode cX10_year 66 = .ok (.iload 4, 2) := by decide +kernel
theorem dX10_year_68 : decode cX10_year 68 = .ok (.iastore, 1) := by decide +kernel
theorem dX10_year_69 : decode cX10_year 69 = .ok (.iinc 3 1, 3) := by decide +kernel
theorem dX10_year_72 : decode cX10_year 72 = .ok (.goto (-53), 3) := by decide +kernel
theorem dX10_year_75 : decode cX10_year 75 = .ok (.iload_n 2, 1) := by decide +kernel
theorem dX10_year_76 : decode cX10_year 76 = .ok (.ireturn, 1) := by decide +kernel
def lp_X10_year_19 (j75 : Int32 → gz_M → Option (Int32 × gz_M)) (fu : Nat) (a0 : Nat) (a1 : Int32) : Nat → Int32 → Int32 → gz_M → Option (Int32 × gz_M)
  | 0, _, _, _ => none
  | n19 + 1, x4, x5, M6 =>
    (f_X10_feetOf fu M6 a0 a1).bind fun x7 =>
    if x7 ≤ x5 then
      j75 x4 M6
    else
      (f_X10_grown fu M6 a0 a1 x5 (1 : Int32)).bind fun x8 =>
      (f_X10_of fu M6 a0 a1 x5 (0 : Int32)).bind fun x9 =>
      gz_jn (fun (x10 : Int32) =>
      (gz_gR M6 10 13 a0).bind fun x11 =>
        (gz_aR M6 x11 a1).bind fun x12 =>
        (gz_tI M6 x12 ((5 : Int32) * x5) x8).bind fun M13 =>
        lp_X10_year_19 j75 fu a0 a1 n19 (x4 + x10) (x5 + (1 : Int32)) M13) fun j55 =>
      if x8 = x9 then
        j55 (0 : Int32)
      else
        j55 (1 : Int32)
def f_X10_year (fu : Nat) (M : gz_M) (a0 : Nat) (a1 : Int32) : Option (Int32 × gz_M) :=
  gz_gd M 10 a0 <|
  (f_X10_isValley fu M a0 a1).bind fun x1 =>
  if x1 = 0 then
    gz_b2 (f_X10_refuse fu M a0 (-2 : Int32)) fun x2 M3 =>
    some (x2, M3)
  else
    lp_X10_year_19 (fun (x14 : Int32) (M15 : gz_M) => some (x14, M15)) fu a0 a1 fu (0 : Int32) (0 : Int32) M
set_option maxHeartbeats 4000000 in
theorem w_X10_year_19 {C : gz_C} {y : Int32 × gz_M} {fu : Nat} {a0 : Nat} {a1 : Int32} {j75 : Int32 → gz_M → Option (Int32 × gz_M)} (hC : gz_ok C cX10_year RX10 5) (hX : gz_cx C 2 47 0 0 (some .int) (some (.int y.1)) y.2 "year") (hj75 : ∀ (x14 : Int32) (M15 : gz_M), j75 x14 M15 = some y → gz_go C 0 0 M15 [(2, .int x14)] 75 []) : ∀ (n : Nat) (x4 : Int32) (x5 : Int32) (M6 : gz_M), lp_X10_year_19 j75 fu a0 a1 n x4 x5 M6 = some y → gz_go C 0 0 M6 [(0, .ref a0), (1, .int a1), (2, .int x4), (3, .int x5)] 19 [] := by
  intro n
  induction n with
  | zero => intro x4 x5 M6 hF; exact nomatch (show (none : Option (Int32 × gz_M)) = some y from hF)
  | succ n19 ih19 =>
    intro x4 x5 M6 hF
    rw [lp_X10_year_19.eq_2] at hF
    refine gz_iload_n 19 hC 3 dX10_year_19 rfl rfl ?_
    refine gz_aload_n 20 hC 0 dX10_year_20 rfl rfl ?_
    refine gz_iload_n 21 hC 1 dX10_year_21 rfl rfl ?_
    refine gz_cvP (st := [.int x5]) 22 hC hX [.int a1] Value.int yl_X10_feetOf yv_X10_feetOf q_1221 ⟨Nat.le_of_ble_eq_true rfl, Nat.le_of_ble_eq_true rfl⟩ ⟨_, rfl⟩ (fun r h => ct_X10_feetOf _ _ fu M6 a0 a1 r h) rfl rfl (Nat.le_of_ble_eq_true rfl) dX10_year_22 gz_00 hF (fun x7 hF => ?_)
    refine gz_icmp_ge 25 75 hC dX10_year_25 (by decide) hF (fun hF => ?_) (fun hF => ?_)
    · skip
      refine gz_sub [2] [(2, .int x4)] rfl ?_
      exact hj75 _ _ hF
    · skip
      refine gz_aload_n 28 hC 0 dX10_year_28 rfl rfl ?_
      refine gz_iload_n 29 hC 1 dX10_year_29 rfl rfl ?_
      refine gz_iload_n 30 hC 3 dX10_year_30 rfl rfl ?_
      refine gz_iconst 31 hC (1 : Int32) dX10_year_31 gz_k1 ?_
      refine gz_cvP (st := []) 32 hC hX [.int a1, .int x5, .int (1 : Int32)] Value.int yl_X10_grown yv_X10_grown q_1359 ⟨Nat.le_of_ble_eq_true rfl, Nat.le_of_ble_eq_true rfl⟩ ⟨_, rfl⟩ (fun r h => ct_X10_grown _ _ fu M6 a0 a1 x5 (1 : Int32) r h) rfl rfl (Nat.le_of_ble_eq_true rfl) dX10_year_32 gz_00 hF (fun x8 hF => ?_)
      refine gz_istore 35 hC [(4, .int x8), (0, .ref a0), (1, .int a1), (2, .int x4), (3, .int x5)] dX10_year_35 (by decide) rfl ?_
      refine gz_iload_n 37 hC 3 dX10_year_37 rfl rfl ?_
      refine gz_iload 38 hC 0 dX10_year_38 rfl ?_
      refine gz_aload_n 40 hC 1 dX10_year_40 rfl rfl ?_
      refine gz_iload_n 41 hC 2 dX10_year_41 rfl rfl ?_
      refine gz_iload_n 42 hC 4 dX10_year_42 rfl rfl ?_
      refine gz_iconst 43 hC (0 : Int32) dX10_year_43 gz_k0 ?_
      refine gz_cvP (st := [.int x8, .int x4]) 44 hC hX [.int a1, .int x5, .int (0 : Int32)] Value.int yl_X10_of yv_X10_of q_1241 ⟨Nat.le_of_ble_eq_true rfl, Nat.le_of_ble_eq_true rfl⟩ ⟨_, rfl⟩ (fun r h => ct_X10_of _ _ fu M6 a0 a1 x5 (0 : Int32) r h) rfl rfl (Nat.le_of_ble_eq_true rfl) dX10_year_44 gz_00 hF (fun x9 hF => ?_)
      refine gz_join (fun (j : Int32 → Option (Int32 × gz_M)) => ∀ (x10 : Int32), j x10 = some y → gz_go C 0 0 M6 [(0, .ref a0), (1, .int a1), (3, .int x5), (4, .int x8)] 55 [.int x10, .int x4]) hF (fun x10 hF => ?_) (fun j55 hj55 hF => ?_)
      · skip
        refine gz_iadd 55 hC dX10_year_55 ?_
        refine gz_istore_n 56 hC [(2, .int (x4 + x10)), (0, .ref a0), (1, .int a1), (3, .int x5), (4, .int x8)] dX10_year_56 rfl (by decide) rfl ?_
        refine gz_aload_n 57 hC 1 dX10_year_57 rfl rfl ?_
        refine gz_getR 58 hC fl_X10_48 fk_10_13 dX10_year_58 hF (fun x11 hF => ?_)
        refine gz_iload_n 61 hC 2 dX10_year_61 rfl rfl ?_
        refine gz_aald 62 hC dX10_year_62 hF (fun x12 hF => ?_)
        refine gz_iconst 63 hC (5 : Int32) dX10_year_63 gz_k5 ?_
        refine gz_iload_n 64 hC 3 dX10_year_64 rfl rfl ?_
        refine gz_imul 65 hC dX10_year_65 ?_
        refine gz_iload 66 hC 4 dX10_year_66 rfl ?_
        refine gz_iast 68 hC dX10_year_68 hF (fun M13 hF => ?_)
        refine gz_iinc 69 hC (x5 + (1 : Int32)) 3 [(3, .int (x5 + (1 : Int32))), (2, .int (x4 + x10)), (0, .ref a0), (1, .int a1), (4, .int x8)] dX10_year_69 rfl rfl (by decide) rfl ?_
        refine gz_goto 72 19 hC dX10_year_72 (by decide) ?_
        refine gz_sub [2, 3, 1, 0] [(0, .ref a0), (1, .int a1), (2, .int (x4 + x10)), (3, .int (x5 + (1 : Int32)))] rfl ?_
        exact ih19 _ _ _ hF
      refine gz_icmp_eq 47 54 hC dX10_year_47 (by decide) hF (fun hF => ?_) (fun hF => ?_)
      · skip
        refine gz_iconst 54 hC (0 : Int32) dX10_year_54 gz_k0 ?_
        refine gz_sub [1, 2, 4, 0] [(0, .ref a0), (1, .int a1), (3, .int x5), (4, .int x8)] rfl ?_
        exact hj55 _ hF
      · skip
        refine gz_iconst 50 hC (1 : Int32) dX10_year_50 gz_k1 ?_
        refine gz_goto 51 55 hC dX10_year_51 (by decide) ?_
        refine gz_sub [1, 2, 4, 0] [(0, .ref a0), (1, .int a1), (3, .int x5), (4, .int x8)] rfl ?_
        exact hj55 _ hF
set_option maxHeartbeats 4000000 in
theorem ct_X10_year (l : Launch) (G : gz_G) (fu : Nat) (M : gz_M) (a0 : Nat) (a1 : Int32) (y : Int32 × gz_M) (hF : f_X10_year fu M a0 a1 = some y) : gz_ct l yX10_year cX10_year 5 (some .int) 2 47 0 0 G [.ref a0, .int a1] M (some (.int y.1)) y.2 := by
  refine gz_ct.of (by decide) (Nat.le_of_ble_eq_true rfl) (fun C hC hX => ?_)
  unfold f_X10_year at hF
  obtain ⟨-, hF⟩ := gz_gd_some hF
  show gz_go C 0 0 M [(0, .ref a0), (1, .int a1)] 0 []
  refine gz_aload_n 0 hC 0 dX10_year_0 rfl rfl ?_
  refine gz_iload_n 1 hC 1 dX10_year_1 rfl rfl ?_
  refine gz_cvP (st := []) 2 hC hX [.int a1] Value.int yl_X10_isValley yv_X10_isValley q_1217 ⟨Nat.le_of_ble_eq_true rfl, Nat.le_of_ble_eq_true rfl⟩ ⟨_, rfl⟩ (fun r h => ct_X10_isValley _ _ fu M a0 a1 r h) rfl rfl (Nat.le_of_ble_eq_true rfl) dX10_year_2 gz_00 hF (fun x1 hF => ?_)
  refine gz_if_ne 5 15 hC dX10_year_5 (by decide) hF (fun hF => ?_) (fun hF => ?_)
  · skip
    refine gz_iconst 15 hC (0 : Int32) dX10_year_15 gz_k0 ?_
    refine gz_istore_n 16 hC [(2, .int (0 : Int32)), (0, .ref a0), (1, .int a1)] dX10_year_16 rfl (by decide) rfl ?_
    refine gz_iconst 17 hC (0 : Int32) dX10_year_17 gz_k0 ?_
    refine gz_istore_n 18 hC [(3, .int (0 : Int32)), (2, .int (0 : Int32)), (0, .ref a0), (1, .int a1)] dX10_year_18 rfl (by decide) rfl ?_
    refine gz_sub [2, 3, 1, 0] [(0, .ref a0), (1, .int a1), (2, .int (0 : Int32)), (3, .int (0 : Int32))] rfl ?_
    refine w_X10_year_19 hC hX ?_ _ _ _ _ hF
    intro x14 M15 hF
    refine gz_iload_n 75 hC 0 dX10_year_75 rfl rfl ?_
    exact gz_iretM 76 hC hX dX10_year_76 hF
  · skip
    refine gz_aload_n 8 hC 0 dX10_year_8 rfl rfl ?_
    refine gz_bipush 9 hC (-2 : Int32) dX10_year_9 gz_bm2 ?_
    refine gz_cvM (st := []) 11 hC hX [.int (-2 : Int32)] Value.int yl_X10_refuse yv_X10_refuse q_1175 ⟨Nat.le_of_ble_eq_true rfl, Nat.le_of_ble_eq_true rfl⟩ ⟨_, rfl⟩ (fun r h => ct_X10_refuse _ _ fu M a0 (-2 : Int32) r h) rfl rfl (Nat.le_of_ble_eq_true rfl) dX10_year_11 gz_00 hF (fun x2 M3 hF => ?_)
    exact gz_iretM 14 hC hX dX10_year_14 hF

theorem dX10_does_0 : decode cX10_does 0 = .ok (.aload_n 0, 1) := by decide +kernel
theorem dX10_does_1 : decode cX10_does 1 = .ok (.iload_n 1, 1) := by decide +kernel
theorem dX10_does_2 : decode cX10_does 2 = .ok (.iload_n 2, 1) := by decide +kernel
theorem dX10_does_3 : decode cX10_does 3 = .ok (.invokevirtual 220, 3) := by decide +kernel
theorem dX10_does_6 : decode cX10_does 6 = .ok (.ifCond .eq 12, 3) := by decide +kernel
theorem dX10_does_9 : decode cX10_does 9 = .ok (.aload_n 0, 1) := by decide +kernel
theorem dX10_does_10 : decode cX10_does 10 = .ok (.iload_n 1, 1) := by decide +kernel
theorem dX10_does_11 : decode cX10_does 11 = .ok (.iload_n 3, 1) := by decide +kernel
theorem dX10_does_12 : decode cX10_does 12 = .ok (.invokevirtual 125, 3) := by decide +kernel
theorem dX10_does_15 : decode cX10_does 15 = .ok (.ifCond .ne 10, 3) := by decide +kernel
theorem dX10_does_18 : decode cX10_does 18 = .ok (.aload_n 0, 1) := by decide +kernel
theorem dX10_does_19 : decode cX10_does 19 = .ok (.bipush (-2), 2) := by decide +kernel
theorem dX10_does_21 : decode cX10_does 21 = .ok (.invokevirtual 97, 3) := by decide +kernel
theorem dX10_does_24 : decode cX10_does 24 = .ok (.ireturn, 1) := by decide +kernel
theorem dX10_does_25 : decode cX10_does 25 = .ok (.aload_n 0, 1) := by decide +kernel
theorem dX10_does_26 : decode cX10_does 26 = .ok (.iload_n 1, 1) := by decide +kernel
theorem dX10_does_27 : decode cX10_does 27 = .ok (.iload_n 2, 1) := by decide +kernel
theorem dX10_does_28 : decode cX10_does 28 = .ok (.iload_n 1, 1) := by decide +kernel
theorem dX10_does_29 : decode cX10_does 29 = .ok (.iload_n 3, 1) := by decide +kernel
theorem dX10_does_30 : decode cX10_does 30 = .ok (.invokevirtual 121, 3) := by decide +kernel
theorem dX10_does_33 : decode cX10_does 33 = .ok (.iconst (-1), 1) := by decide +kernel
theorem dX10_does_34 : decode cX10_does 34 = .ok (.if_icmp .eq 7, 3) := by decide +kernel
theorem dX10_does_37 : decode cX10_does 37 = .ok (.iconst 1, 1) := by decide +kernel
theorem dX10_does_38 : decode cX10_does 38 = .ok (.goto 4, 3) := by decide +kernel
theorem dX10_does_41 : decode cX10_does 41 = .ok (.iconst 0, 1) := by decide +kernel
theorem dX10_does_42 : decode cX10_does 42 = .ok (.ireturn, 1) := by decide +kernel

def f_X10_does (fu : Nat) (M : gz_M) (a0 : Nat) (a1 : Int32) (a2 : Int32) (a3 : Int32) : Option (Int32 × gz_M) :=
  gz_gd M 10 a0 <|
  (f_X10_isLast fu M a0 a1 a2).bind fun x1 =>
  gz_jn (gz_b2 (f_X10_refuse fu M a0 (-2 : Int32)) fun x5 M6 =>
    some (x5, M6)) fun j18 =>
  if x1 = 0 then
    j18
  else
    (f_X10_isFoot fu M a0 a1 a3).bind fun x2 =>
    if x2 = 0 then
      j18
    else
      (f_X10_badOf fu M a0 a1 a2 a1 a3).bind fun x3 =>
      gz_jn (fun (x4 : Int32) =>
      some (x4, M)) fun j42 =>
      if x3 = (-1 : Int32) then
        j42 (0 : Int32)
      else
        j42 (1 : Int32)

set_option maxHeartbeats 4000000 in
theorem ct_X10_does (l : Launch) (G : gz_G) (fu : Nat) (M : gz_M) (a0 : Nat) (a1 : Int32) (a2 : Int32) (a3 : Int32) (y : Int32 × gz_M) (hF : f_X10_does fu M a0 a1 a2 a3 = some y) : gz_ct l yX10_does cX10_does 4 (some .int) 3 68 0 0 G [.ref a0, .int a1, .int a2, .int a3] M (some (.int y.1)) y.2 := by
  refine gz_ct.of (by decide) (Nat.le_of_ble_eq_true rfl) (fun C hC hX => ?_)
  unfold f_X10_does at hF
  obtain ⟨-, hF⟩ := gz_gd_some hF
  show gz_go C 0 0 M [(0, .ref a0), (1, .int a1), (2, .int a2), (3, .int a3)] 0 []
  refine gz_aload_n 0 hC 0 dX10_does_0 rfl rfl ?_
  refine gz_iload_n 1 hC 1 dX10_does_1 rfl rfl ?_
  refine gz_iload_n 2 hC 2 dX10_does_2 rfl rfl ?_
  refine gz_cvP (st := []) 3 hC hX [.int a1, .int a2] Value.int yl_X10_isLast yv_X10_isLast q_1333 ⟨Nat.le_of_ble_eq_true rfl, Nat.le_of_ble_eq_true rfl⟩ ⟨_, rfl⟩ (fun r h => ct_X10_isLast _ _ fu M a0 a1 a2 r h) rfl rfl (Nat.le_of_ble_eq_true rfl) dX10_does_3 gz_00 hF (fun x1 hF => ?_)
  refine gz_join (fun (j : Option (Int32 × gz_M)) => j = some y → gz_go C 0 0 M [(0, .ref a0)] 18 []) hF (fun hF => ?_) (fun j18 hj18 hF => ?_)
  · skip
    refine gz_aload_n 18 hC 0 dX10_does_18 rfl rfl ?_
    refine gz_bipush 19 hC (-2 : Int32) dX10_does_19 gz_bm2 ?_
    refine gz_cvM (st := []) 21 hC hX [.int (-2 : Int32)] Value.int yl_X10_refuse yv_X10_refuse q_1175 ⟨Nat.le_of_ble_eq_true rfl, Nat.le_of_ble_eq_true rfl⟩ ⟨_, rfl⟩ (fun r h => ct_X10_refuse _ _ fu M a0 (-2 : Int32) r h) rfl rfl (Nat.le_of_ble_eq_true rfl) dX10_does_21 gz_00 hF (fun x5 M6 hF => ?_)
    exact gz_iretM 24 hC hX dX10_does_24 hF
  refine gz_if_eq 6 18 hC dX10_does_6 (by decide) hF (fun hF => ?_) (fun hF => ?_)
  · skip
    refine gz_sub [0] [(0, .ref a0)] rfl ?_
    exact hj18 hF
  · skip
    refine gz_aload_n 9 hC 0 dX10_does_9 rfl rfl ?_
    refine gz_iload_n 10 hC 1 dX10_does_10 rfl rfl ?_
    refine gz_iload_n 11 hC 3 dX10_does_11 rfl rfl ?_
    refine gz_cvP (st := []) 12 hC hX [.int a1, .int a3] Value.int yl_X10_isFoot yv_X10_isFoot q_1213 ⟨Nat.le_of_ble_eq_true rfl, Nat.le_of_ble_eq_true rfl⟩ ⟨_, rfl⟩ (fun r h => ct_X10_isFoot _ _ fu M a0 a1 a3 r h) rfl rfl (Nat.le_of_ble_eq_true rfl) dX10_does_12 gz_00 hF (fun x2 hF => ?_)
    refine gz_if_ne 15 25 hC dX10_does_15 (by decide) hF (fun hF => ?_) (fun hF => ?_)
    · skip
      refine gz_aload_n 25 hC 0 dX10_does_25 rfl rfl ?_
      refine gz_iload_n 26 hC 1 dX10_does_26 rfl rfl ?_
      refine gz_iload_n 27 hC 2 dX10_does_27 rfl rfl ?_
      refine gz_iload_n 28 hC 1 dX10_does_28 rfl rfl ?_
      refine gz_iload_n 29 hC 3 dX10_does_29 rfl rfl ?_
      refine gz_cvP (st := []) 30 hC hX [.int a1, .int a2, .int a1, .int a3] Value.int yl_X10_badOf yv_X10_badOf q_1249 ⟨Nat.le_of_ble_eq_true rfl, Nat.le_of_ble_eq_true rfl⟩ ⟨_, rfl⟩ (fun r h => ct_X10_badOf _ _ fu M a0 a1 a2 a1 a3 r h) rfl rfl (Nat.le_of_ble_eq_true rfl) dX10_does_30 gz_00 hF (fun x3 hF => ?_)
      refine gz_iconst 33 hC (-1 : Int32) dX10_does_33 gz_km1 ?_
      refine gz_join (fun (j : Int32 → Option (Int32 × gz_M)) => ∀ (x4 : Int32), j x4 = some y → gz_go C 0 0 M [] 42 [.int x4]) hF (fun x4 hF => ?_) (fun j42 hj42 hF => ?_)
      · skip
        exact gz_iretM 42 hC hX dX10_does_42 hF
      refine gz_icmp_eq 34 41 hC dX10_does_34 (by decide) hF (fun hF => ?_) (fun hF => ?_)
      · skip
        refine gz_iconst 41 hC (0 : Int32) dX10_does_41 gz_k0 ?_
        refine gz_sub [] [] rfl ?_
        exact hj42 _ hF
      · skip
        refine gz_iconst 37 hC (1 : Int32) dX10_does_37 gz_k1 ?_
        refine gz_goto 38 42 hC dX10_does_38 (by decide) ?_
        refine gz_sub [] [] rfl ?_
        exact hj42 _ hF
    · skip
      refine gz_sub [0] [(0, .ref a0)] rfl ?_
      exact hj18 hF

theorem dX10_bad_0 : decode cX10_bad 0 = .ok (.aload_n 0, 1) := by decide +kernel
theorem dX10_bad_1 : decode cX10_bad 1 = .ok (.iload_n 1, 1) := by decide +kernel
theorem dX10_bad_2 : decode cX10_bad 2 = .ok (.iload_n 2, 1) := by decide +kernel
theorem dX10_bad_3 : decode cX10_bad 3 = .ok (.invokevirtual 220, 3) := by decide +kernel
theorem dX10_bad_6 : decode cX10_bad 6 = .ok (.ifCond .eq 23, 3) := by decide +kernel
theorem dX10_bad_9 : decode cX10_bad 9 = .ok (.aload_n 0, 1) := by decide +kernel
theorem dX10_bad_10 : decode cX10_bad 10 = .ok (.iload_n 1, 1) := by decide +kernel
theorem dX10_bad_11 : decode cX10_bad 11 = .ok (.iload_n 3, 1) := by decide +kernel
theorem dX10_bad_12 : decode cX10_bad 12 = .ok (.invokevirtual 125, 3) := by decide +kernel
theorem dX10_bad_15 : decode cX10_bad 15 = .ok (.ifCond .eq 14, 3) := by decide +kernel
theorem dX10_bad_18 : decode cX10_bad 18 = .ok (.aload_n 0, 1) := by decide +kernel
theorem dX10_bad_19 : decode cX10_bad 19 = .ok (.iload_n 1, 1) := by decide +kernel
theorem dX10_bad_20 : decode cX10_bad 20 = .ok (.iload_n 2, 1) := by decide +kernel
theorem dX10_bad_21 : decode cX10_bad 21 = .ok (.iload_n 1, 1) := by decide +kernel
theorem dX10_bad_22 : decode cX10_bad 22 = .ok (.iload_n 3, 1) := by decide +kernel
theorem dX10_bad_23 : decode cX10_bad 23 = .ok (.invokevirtual 121, 3) := by decide +kernel
theorem dX10_bad_26 : decode cX10_bad 26 = .ok (.goto 9, 3) := by decide +kernel
theorem dX10_bad_29 : decode cX10_bad 29 = .ok (.aload_n 0, 1) := by decide +kernel
theorem dX10_bad_30 : decode cX10_bad 30 = .ok (.bipush (-2), 2) := by decide +kernel
theorem dX10_bad_32 : decode cX10_bad 32 = .ok (.invokevirtual 97, 3) := by decide +kernel
theorem dX10_bad_35 : decode cX10_bad 35 = .ok (.ireturn, 1) := by decide +kernel

def f_X10_bad (fu : Nat) (M : gz_M) (a0 : Nat) (a1 : Int32) (a2 : Int32) (a3 : Int32) : Option (Int32 × gz_M) :=
  gz_gd M 10 a0 <|
  (f_X10_isLast fu M a0 a1 a2).bind fun x1 =>
  gz_jn (fun (x6 : Int32) (M7 : gz_M) =>
  some (x6, M7)) fun j35 =>
  gz_jn (gz_b2 (f_X10_refuse fu M a0 (-2 : Int32)) fun x4 M5 =>
    j35 x4 M5) fun j29 =>
  if x1 = 0 then
    j29
  else
    (f_X10_isFoot fu M a0 a1 a3).bind fun x2 =>
    if x2 = 0 then
      j29
    else
      (f_X10_badOf fu M a0 a1 a2 a1 a3).bind fun x3 =>
      j35 x3 M

set_option maxHeartbeats 4000000 in
theorem ct_X10_bad (l : Launch) (G : gz_G) (fu : Nat) (M : gz_M) (a0 : Nat) (a1 : Int32) (a2 : Int32) (a3 : Int32) (y : Int32 × gz_M) (hF : f_X10_bad fu M a0 a1 a2 a3 = some y) : gz_ct l yX10_bad cX10_bad 4 (some .int) 3 68 0 0 G [.ref a0, .int a1, .int a2, .int a3] M (some (.int y.1)) y.2 := by
  refine gz_ct.of (by decide) (Nat.le_of_ble_eq_true rfl) (fun C hC hX => ?_)
  unfold f_X10_bad at hF
  obtain ⟨-, hF⟩ := gz_gd_some hF
  show gz_go C 0 0 M [(0, .ref a0), (1, .int a1), (2, .int a2), (3, .int a3)] 0 []
  refine gz_aload_n 0 hC 0 dX10_bad_0 rfl rfl ?_
  refine gz_iload_n 1 hC 1 dX10_bad_1 rfl rfl ?_
  refine gz_iload_n 2 hC 2 dX10_bad_2 rfl rfl ?_
  refine gz_cvP (st := []) 3 hC hX [.int a1, .int a2] Value.int yl_X10_isLast yv_X10_isLast q_1333 ⟨Nat.le_of_ble_eq_true rfl, Nat.le_of_ble_eq_true rfl⟩ ⟨_, rfl⟩ (fun r h => ct_X10_isLast _ _ fu M a0 a1 a2 r h) rfl rfl (Nat.le_of_ble_eq_true rfl) dX10_bad_3 gz_00 hF (fun x1 hF => ?_)
  refine gz_join (fun (j : Int32 → gz_M → Option (Int32 × gz_M)) => ∀ (x6 : Int32) (M7 : gz_M), j x6 M7 = some y → gz_go C 0 0 M7 [] 35 [.int x6]) hF (fun x6 M7 hF => ?_) (fun j35 hj35 hF => ?_)
  · skip
    exact gz_iretM 35 hC hX dX10_bad_35 hF
  refine gz_join (fun (j : Option (Int32 × gz_M)) => j = some y → gz_go C 0 0 M [(0, .ref a0)] 29 []) hF (fun hF => ?_) (fun j29 hj29 hF => ?_)
  · skip
    refine gz_aload_n 29 hC 0 dX10_bad_29 rfl rfl ?_
    refine gz_bipush 30 hC (-2 : Int32) dX10_bad_30 gz_bm2 ?_
    refine gz_cvM (st := []) 32 hC hX [.int (-2 : Int32)] Value.int yl_X10_refuse yv_X10_refuse q_1175 ⟨Nat.le_of_ble_eq_true rfl, Nat.le_of_ble_eq_true rfl⟩ ⟨_, rfl⟩ (fun r h => ct_X10_refuse _ _ fu M a0 (-2 : Int32) r h) rfl rfl (Nat.le_of_ble_eq_true rfl) dX10_bad_32 gz_00 hF (fun x4 M5 hF => ?_)
    refine gz_sub [] [] rfl ?_
    exact hj35 _ _ hF
  refine gz_if_eq 6 29 hC dX10_bad_6 (by decide) hF (fun hF => ?_) (fun hF => ?_)
  · skip
    refine gz_sub [0] [(0, .ref a0)] rfl ?_
    exact hj29 hF
  · skip
    refine gz_aload_n 9 hC 0 dX10_bad_9 rfl rfl ?_
    refine gz_iload_n 10 hC 1 dX10_bad_10 rfl rfl ?_
    refine gz_iload_n 11 hC 3 dX10_bad_11 rfl rfl ?_
    refine gz_cvP (st := []) 12 hC hX [.int a1, .int a3] Value.int yl_X10_isFoot yv_X10_isFoot q_1213 ⟨Nat.le_of_ble_eq_true rfl, Nat.le_of_ble_eq_true rfl⟩ ⟨_, rfl⟩ (fun r h => ct_X10_isFoot _ _ fu M a0 a1 a3 r h) rfl rfl (Nat.le_of_ble_eq_true rfl) dX10_bad_12 gz_00 hF (fun x2 hF => ?_)
    refine gz_if_eq 15 29 hC dX10_bad_15 (by decide) hF (fun hF => ?_) (fun hF => ?_)
    · skip
      refine gz_sub [0] [(0, .ref a0)] rfl ?_
      exact hj29 hF
    · skip
      refine gz_aload_n 18 hC 0 dX10_bad_18 rfl rfl ?_
      refine gz_iload_n 19 hC 1 dX10_bad_19 rfl rfl ?_
      refine gz_iload_n 20 hC 2 dX10_bad_20 rfl rfl ?_
      refine gz_iload_n 21 hC 1 dX10_bad_21 rfl rfl ?_
      refine gz_iload_n 22 hC 3 dX10_bad_22 rfl rfl ?_
      refine gz_cvP (st := []) 23 hC hX [.int a1, .int a2, .int a1, .int a3] Value.int yl_X10_badOf yv_X10_badOf q_1249 ⟨Nat.le_of_ble_eq_true rfl, Nat.le_of_ble_eq_true rfl⟩ ⟨_, rfl⟩ (fun r h => ct_X10_badOf _ _ fu M a0 a1 a2 a1 a3 r h) rfl rfl (Nat.le_of_ble_eq_true rfl) dX10_bad_23 gz_00 hF (fun x3 hF => ?_)
      refine gz_goto 26 35 hC dX10_bad_26 (by decide) ?_
      refine gz_sub [] [] rfl ?_
      exact hj35 _ _ hF

theorem dX10_ownOf_0 : decode cX10_ownOf 0 = .ok (.iconst (-1), 1) := by decide +kernel
theorem dX10_ownOf_1 : decode cX10_ownOf 1 = .ok (.istore 4, 2) := by decide +kernel
theorem dX10_ownOf_3 : decode cX10_ownOf 3 = .ok (.iconst 0, 1) := by decide +kernel
theorem dX10_ownOf_4 : decode cX10_ownOf 4 = .ok (.istore 5, 2) := by decide +kernel
theorem dX10_ownOf_6 : decode cX10_ownOf 6 = .ok (.iconst 0, 1) := by decide +kernel
theorem dX10_ownOf_7 : decode cX10_ownOf 7 = .ok (.istore 6, 2) := by decide +kernel
theorem dX10_ownOf_9 : decode cX10_ownOf 9 = .ok (.iload 6, 2) := by decide +kernel
theorem dX10_ownOf_11 : decode cX10_ownOf 11 = .ok (.aload_n 0, 1) := by decide +kernel
theorem dX10_ownOf_12 : decode cX10_ownOf 12 = .ok (.iload_n 1, 1) := by decide +kernel
theorem dX10_ownOf_13 : decode cX10_ownOf 13 = .ok (.invokevirtual 85, 3) := by decide +kernel
theorem dX10_ownOf_16 : decode cX10_ownOf 16 = .ok (.if_icmp .ge 60, 3) := by decide +kernel
theorem dX10_ownOf_19 : decode cX10_ownOf 19 = .ok (.iload_n 3, 1) := by decide +kernel
theorem dX10_ownOf_20 : decode cX10_ownOf 20 = .ok (.iload 6, 2) := by decide +kernel
theorem dX10_ownOf_22 : decode cX10_ownOf 22 = .ok (.ishr, 1) := by decide +kernel
theorem dX10_ownOf_23 : decode cX10_ownOf 23 = .ok (.iconst 1, 1) := by decide +kernel
theorem dX10_ownOf_24 : decode cX10_ownOf 24 = .ok (.iand, 1) := by decide +kernel
theorem dX10_ownOf_25 : decode cX10_ownOf 25 = .ok (.ifCond .eq 15, 3) := by decide +kernel
theorem dX10_ownOf_28 : decode cX10_ownOf 28 = .ok (.aload_n 0, 1) := by decide +kernel
theorem dX10_ownOf_29 : decode cX10_ownOf 29 = .ok (.iload_n 1, 1) := by decide +kernel
theorem dX10_ownOf_30 : decode cX10_ownOf 30 = .ok (.iload 6, 2) := by decide +kernel
theorem dX10_ownOf_32 : decode cX10_ownOf 32 = .ok (.iload_n 1, 1) := by decide +kernel
theorem dX10_ownOf_33 : decode cX10_ownOf 33 = .ok (.iload_n 2, 1) := by decide +kernel
theorem dX10_ownOf_34 : decode cX10_ownOf 34 = .ok (.invokevirtual 121, 3) := by decide +kernel
theorem dX10_ownOf_37 : decode cX10_ownOf 37 = .ok (.goto 4, 3) := by decide +kernel
theorem dX10_ownOf_40 : decode cX10_ownOf 40 = .ok (.iconst (-1), 1) := by decide +kernel
theorem dX10_ownOf_41 : decode cX10_ownOf 41 = .ok (.istore 7, 2) := by decide +kernel
theorem dX10_ownOf_43 : decode cX10_ownOf 43 = .ok (.iload 7, 2) := by decide +kernel
theorem dX10_ownOf_45 : decode cX10_ownOf 45 = .ok (.iconst (-1), 1) := by decide +kernel
theorem dX10_ownOf_46 : decode cX10_ownOf 46 = .ok (.if_icmp .eq 24, 3) := by decide +kernel
theorem dX10_ownOf_49 : decode cX10_ownOf 49 = .ok (.iload 4, 2) := by decide +kernel
theorem dX10_ownOf_51 : decode cX10_ownOf 51 = .ok (.iconst (-1), 1) := by decide +kernel
theorem dX10_ownOf_52 : decode cX10_ownOf 52 = .ok (.if_icmp .eq 10, 3) := by decide +kernel
theorem dX10_ownOf_55 : decode cX10_ownOf 55 = .ok (.iload 7, 2) := by decide +kernel
theorem dX10_ownOf_57 : decode cX10_ownOf 57 = .ok (.iload 5, 2) := by decide +kernel
theorem dX10_ownOf_59 : decode cX10_ownOf 59 = .ok (.if_icmp .ge 11, 3) := by decide +kernel
theorem dX10_ownOf_62 : decode cX10_ownOf 62 = .ok (.iload 6, 2) := by decide +kernel
theorem dX10_ownOf_64 : decode cX10_ownOf 64 = .ok (.istore 4, 2) := by decide +kernel
theorem dX10_ownOf_66 : decode cX10_ownOf 66 = .ok (.iload 7, 2) := by decide +kernel
theorem dX10_ownOf_68 : decode cX10_ownOf 68 = .ok (.istore 5, 2) := by decide +kernel
theorem dX10_ownOf_70 : decode cX10_ownOf 70 = .ok (.iinc 6 1, 3) := by decide +kernel
theorem dX10_ownOf_73 : decode cX10_ownOf 73 = .ok (.goto (-64), 3) := by decide +kernel
theorem dX10_ownOf_76 : decode cX10_ownOf 76 = .ok (.iload 4, 2) := by decide +kernel
theorem dX10_ownOf_78 : decode cX10_ownOf 78 = .ok (.ireturn, 1) := by decide +kernel
def lp_X10_ownOf_9 (j76 : Int32 → Option (Int32)) (fu : Nat) (M : gz_M) (a0 : Nat) (a1 : Int32) (a2 : Int32) (a3 : Int32) : Nat → Int32 → Int32 → Int32 → Option (Int32)
  | 0, _, _, _ => none
  | n9 + 1, x1, x2, x3 =>
    (f_X10_lastsOf fu M a0 a1).bind fun x4 =>
    if x4 ≤ x3 then
      j76 x1
    else
      gz_jn (fun (x6 : Int32) =>
      gz_jn (fun (x7 : Int32) (x8 : Int32) =>
        lp_X10_ownOf_9 j76 fu M a0 a1 a2 a3 n9 x7 x8 (x3 + (1 : Int32))) fun j70 =>
        if x6 = (-1 : Int32) then
          j70 x1 x2
        else
          gz_jn (j70 x3 x6) fun j62 =>
          if x1 = (-1 : Int32) then
            j62
          else
            if x2 ≤ x6 then
              j70 x1 x2
            else
              j62) fun j41 =>
      if ((a3 >>> (x3 &&& 31)) &&& (1 : Int32)) = 0 then
        j41 (-1 : Int32)
      else
        (f_X10_badOf fu M a0 a1 x3 a1 a2).bind fun x5 =>
        j41 x5
def f_X10_ownOf (fu : Nat) (M : gz_M) (a0 : Nat) (a1 : Int32) (a2 : Int32) (a3 : Int32) : Option (Int32) :=
  gz_gd M 10 a0 <|
  lp_X10_ownOf_9 (fun (x9 : Int32) => some x9) fu M a0 a1 a2 a3 fu (-1 : Int32) (0 : Int32) (0 : Int32)
set_option maxHeartbeats 4000000 in
theorem w_X10_ownOf_9 {C : gz_C} {y : Int32} {fu : Nat} {M : gz_M} {a0 : Nat} {a1 : Int32} {a2 : Int32} {a3 : Int32} {j76 : Int32 → Option (Int32)} (hC : gz_ok C cX10_ownOf RX10 8) (hX : gz_cx C 2 56 0 0 (some .int) (some (.int y)) M "ownOf") (hj76 : ∀ (x9 : Int32), j76 x9 = some y → gz_go C 0 0 M [(4, .int x9)] 76 []) : ∀ (n : Nat) (x1 : Int32) (x2 : Int32) (x3 : Int32), lp_X10_ownOf_9 j76 fu M a0 a1 a2 a3 n x1 x2 x3 = some y → gz_go C 0 0 M [(0, .ref a0), (1, .int a1), (2, .int a2), (3, .int a3), (4, .int x1), (5, .int x2), (6, .int x3)] 9 [] := by
  intro n
  induction n with
  | zero => intro x1 x2 x3 hF; exact nomatch (show (none : Option (Int32)) = some y from hF)
  | succ n9 ih9 =>
    intro x1 x2 x3 hF
    rw [lp_X10_ownOf_9.eq_2] at hF
    refine gz_iload 9 hC 6 dX10_ownOf_9 rfl ?_
    refine gz_aload_n 11 hC 0 dX10_ownOf_11 rfl rfl ?_
    refine gz_iload_n 12 hC 1 dX10_ownOf_12 rfl rfl ?_
    refine gz_cvP (st := [.int x3]) 13 hC hX [.int a1] Value.int yl_X10_lastsOf yv_X10_lastsOf q_1229 ⟨Nat.le_of_ble_eq_true rfl, Nat.le_of_ble_eq_true rfl⟩ ⟨_, rfl⟩ (fun r h => ct_X10_lastsOf _ _ fu M a0 a1 r h) rfl rfl (Nat.le_of_ble_eq_true rfl) dX10_ownOf_13 gz_00 hF (fun x4 hF => ?_)
    refine gz_icmp_ge 16 76 hC dX10_ownOf_16 (by decide) hF (fun hF => ?_) (fun hF => ?_)
    · skip
      refine gz_sub [4] [(4, .int x1)] rfl ?_
      exact hj76 _ hF
    · skip
      refine gz_iload_n 19 hC 3 dX10_ownOf_19 rfl rfl ?_
      refine gz_iload 20 hC 6 dX10_ownOf_20 rfl ?_
      refine gz_ishr 22 hC dX10_ownOf_22 ?_
      refine gz_iconst 23 hC (1 : Int32) dX10_ownOf_23 gz_k1 ?_
      refine gz_iand 24 hC dX10_ownOf_24 ?_
      refine gz_join (fun (j : Int32 → Option (Int32)) => ∀ (x6 : Int32), j x6 = some y → gz_go C 0 0 M [(0, .ref a0), (1, .int a1), (2, .int a2), (3, .int a3), (4, .int x1), (5, .int x2), (6, .int x3)] 41 [.int x6]) hF (fun x6 hF => ?_) (fun j41 hj41 hF => ?_)
      · skip
        refine gz_istore 41 hC [(7, .int x6), (0, .ref a0), (1, .int a1), (2, .int a2), (3, .int a3), (4, .int x1), (5, .int x2), (6, .int x3)] dX10_ownOf_41 (by decide) rfl ?_
        refine gz_iload 43 hC 0 dX10_ownOf_43 rfl ?_
        refine gz_iconst 45 hC (-1 : Int32) dX10_ownOf_45 gz_km1 ?_
        refine gz_join (fun (j : Int32 → Int32 → Option (Int32)) => ∀ (x7 : Int32) (x8 : Int32), j x7 x8 = some y → gz_go C 0 0 M [(0, .ref a0), (1, .int a1), (2, .int a2), (3, .int a3), (4, .int x7), (5, .int x8), (6, .int x3)] 70 []) hF (fun x7 x8 hF => ?_) (fun j70 hj70 hF => ?_)
        · skip
          refine gz_iinc 70 hC (x3 + (1 : Int32)) 6 [(6, .int (x3 + (1 : Int32))), (0, .ref a0), (1, .int a1), (2, .int a2), (3, .int a3), (4, .int x7), (5, .int x8)] dX10_ownOf_70 rfl rfl (by decide) rfl ?_
          refine gz_goto 73 9 hC dX10_ownOf_73 (by decide) ?_
          refine gz_sub [1, 2, 3, 4, 5, 6, 0] [(0, .ref a0), (1, .int a1), (2, .int a2), (3, .int a3), (4, .int x7), (5, .int x8), (6, .int (x3 + (1 : Int32)))] rfl ?_
          exact ih9 _ _ _ hF
        refine gz_icmp_eq 46 70 hC dX10_ownOf_46 (by decide) hF (fun hF => ?_) (fun hF => ?_)
        · skip
          refine gz_sub [1, 2, 3, 4, 5, 6, 7] [(0, .ref a0), (1, .int a1), (2, .int a2), (3, .int a3), (4, .int x1), (5, .int x2), (6, .int x3)] rfl ?_
          exact hj70 _ _ hF
        · skip
          refine gz_iload 49 hC 5 dX10_ownOf_49 rfl ?_
          refine gz_iconst 51 hC (-1 : Int32) dX10_ownOf_51 gz_km1 ?_
          refine gz_join (fun (j : Option (Int32)) => j = some y → gz_go C 0 0 M [(0, .ref a0), (1, .int a1), (2, .int a2), (3, .int a3), (6, .int x3), (7, .int x6)] 62 []) hF (fun hF => ?_) (fun j62 hj62 hF => ?_)
          · skip
            refine gz_iload 62 hC 4 dX10_ownOf_62 rfl ?_
            refine gz_istore 64 hC [(4, .int x3), (0, .ref a0), (1, .int a1), (2, .int a2), (3, .int a3), (6, .int x3), (7, .int x6)] dX10_ownOf_64 (by decide) rfl ?_
            refine gz_iload 66 hC 6 dX10_ownOf_66 rfl ?_
            refine gz_istore 68 hC [(5, .int x6), (4, .int x3), (0, .ref a0), (1, .int a1), (2, .int a2), (3, .int a3), (6, .int x3), (7, .int x6)] dX10_ownOf_68 (by decide) rfl ?_
            refine gz_sub [2, 3, 4, 5, 1, 0, 6] [(0, .ref a0), (1, .int a1), (2, .int a2), (3, .int a3), (4, .int x3), (5, .int x6), (6, .int x3)] rfl ?_
            exact hj70 _ _ hF
          refine gz_icmp_eq 52 62 hC dX10_ownOf_52 (by decide) hF (fun hF => ?_) (fun hF => ?_)
          · skip
            refine gz_sub [1, 2, 3, 4, 7, 0] [(0, .ref a0), (1, .int a1), (2, .int a2), (3, .int a3), (6, .int x3), (7, .int x6)] rfl ?_
            exact hj62 hF
          · skip
            refine gz_iload 55 hC 0 dX10_ownOf_55 rfl ?_
            refine gz_iload 57 hC 6 dX10_ownOf_57 rfl ?_
            refine gz_icmp_ge 59 70 hC dX10_ownOf_59 (by decide) hF (fun hF => ?_) (fun hF => ?_)
            · skip
              refine gz_sub [1, 2, 3, 4, 5, 6, 7] [(0, .ref a0), (1, .int a1), (2, .int a2), (3, .int a3), (4, .int x1), (5, .int x2), (6, .int x3)] rfl ?_
              exact hj70 _ _ hF
            · skip
              refine gz_sub [1, 2, 3, 4, 7, 0] [(0, .ref a0), (1, .int a1), (2, .int a2), (3, .int a3), (6, .int x3), (7, .int x6)] rfl ?_
              exact hj62 hF
      refine gz_if_eq 25 40 hC dX10_ownOf_25 (by decide) hF (fun hF => ?_) (fun hF => ?_)
      · skip
        refine gz_iconst 40 hC (-1 : Int32) dX10_ownOf_40 gz_km1 ?_
        exact hj41 _ hF
      · skip
        refine gz_aload_n 28 hC 0 dX10_ownOf_28 rfl rfl ?_
        refine gz_iload_n 29 hC 1 dX10_ownOf_29 rfl rfl ?_
        refine gz_iload 30 hC 6 dX10_ownOf_30 rfl ?_
        refine gz_iload_n 32 hC 1 dX10_ownOf_32 rfl rfl ?_
        refine gz_iload_n 33 hC 2 dX10_ownOf_33 rfl rfl ?_
        refine gz_cvP (st := []) 34 hC hX [.int a1, .int x3, .int a1, .int a2] Value.int yl_X10_badOf yv_X10_badOf q_1249 ⟨Nat.le_of_ble_eq_true rfl, Nat.le_of_ble_eq_true rfl⟩ ⟨_, rfl⟩ (fun r h => ct_X10_badOf _ _ fu M a0 a1 x3 a1 a2 r h) rfl rfl (Nat.le_of_ble_eq_true rfl) dX10_ownOf_34 gz_00 hF (fun x5 hF => ?_)
        refine gz_goto 37 41 hC dX10_ownOf_37 (by decide) ?_
        exact hj41 _ hF
set_option maxHeartbeats 4000000 in
theorem ct_X10_ownOf (l : Launch) (G : gz_G) (fu : Nat) (M : gz_M) (a0 : Nat) (a1 : Int32) (a2 : Int32) (a3 : Int32) (y : Int32) (hF : f_X10_ownOf fu M a0 a1 a2 a3 = some y) : gz_ct l yX10_ownOf cX10_ownOf 8 (some .int) 2 56 0 0 G [.ref a0, .int a1, .int a2, .int a3] M (some (.int y)) M := by
  refine gz_ct.of (by decide) (Nat.le_of_ble_eq_true rfl) (fun C hC hX => ?_)
  unfold f_X10_ownOf at hF
  obtain ⟨-, hF⟩ := gz_gd_some hF
  show gz_go C 0 0 M [(0, .ref a0), (1, .int a1), (2, .int a2), (3, .int a3)] 0 []
  refine gz_iconst 0 hC (-1 : Int32) dX10_ownOf_0 gz_km1 ?_
  refine gz_istore 1 hC [(4, .int (-1 : Int32)), (0, .ref a0), (1, .int a1), (2, .int a2), (3, .int a3)] dX10_ownOf_1 (by decide) rfl ?_
  refine gz_iconst 3 hC (0 : Int32) dX10_ownOf_3 gz_k0 ?_
  refine gz_istore 4 hC [(5, .int (0 : Int32)), (4, .int (-1 : Int32)), (0, .ref a0), (1, .int a1), (2, .int a2), (3, .int a3)] dX10_ownOf_4 (by decide) rfl ?_
  refine gz_iconst 6 hC (0 : Int32) dX10_ownOf_6 gz_k0 ?_
  refine gz_istore 7 hC [(6, .int (0 : Int32)), (5, .int (0 : Int32)), (4, .int (-1 : Int32)), (0, .ref a0), (1, .int a1), (2, .int a2), (3, .int a3)] dX10_ownOf_7 (by decide) rfl ?_
  refine gz_sub [3, 4, 5, 6, 2, 1, 0] [(0, .ref a0), (1, .int a1), (2, .int a2), (3, .int a3), (4, .int (-1 : Int32)), (5, .int (0 : Int32)), (6, .int (0 : Int32))] rfl ?_
  refine w_X10_ownOf_9 hC hX ?_ _ _ _ _ hF
  intro x9 hF
  refine gz_iload 76 hC 0 dX10_ownOf_76 rfl ?_
  exact gz_iretP 78 hC hX dX10_ownOf_78 hF

theorem dX10_costOf_0 : decode cX10_costOf 0 = .ok (.aload_n 0, 1) := by decide +kernel
theorem dX10_costOf_1 : decode cX10_costOf 1 = .ok (.iload_n 1, 1) := by decide +kernel
theorem dX10_costOf_2 : decode cX10_costOf 2 = .ok (.iload_n 2, 1) := by decide +kernel
theorem dX10_costOf_3 : decode cX10_costOf 3 = .ok (.iload_n 3, 1) := by decide +kernel
theorem dX10_costOf_4 : decode cX10_costOf 4 = .ok (.invokevirtual 230, 3) := by decide +kernel
theorem dX10_costOf_7 : decode cX10_costOf 7 = .ok (.istore 4, 2) := by decide +kernel
theorem dX10_costOf_9 : decode cX10_costOf 9 = .ok (.aload_n 0, 1) := by decide +kernel
theorem dX10_costOf_10 : decode cX10_costOf 10 = .ok (.iload_n 1, 1) := by decide +kernel
theorem dX10_costOf_11 : decode cX10_costOf 11 = .ok (.iload_n 2, 1) := by decide +kernel
theorem dX10_costOf_12 : decode cX10_costOf 12 = .ok (.iconst 3, 1) := by decide +kernel
theorem dX10_costOf_13 : decode cX10_costOf 13 = .ok (.invokevirtual 114, 3) := by decide +kernel
theorem dX10_costOf_16 : decode cX10_costOf 16 = .ok (.iload 4, 2) := by decide +kernel
theorem dX10_costOf_18 : decode cX10_costOf 18 = .ok (.iconst (-1), 1) := by decide +kernel
theorem dX10_costOf_19 : decode cX10_costOf 19 = .ok (.if_icmp .ne 14, 3) := by decide +kernel
theorem dX10_costOf_22 : decode cX10_costOf 22 = .ok (.aload_n 0, 1) := by decide +kernel
theorem dX10_costOf_23 : decode cX10_costOf 23 = .ok (.getfield 45, 3) := by decide +kernel
theorem dX10_costOf_26 : decode cX10_costOf 26 = .ok (.iload_n 1, 1) := by decide +kernel
theorem dX10_costOf_27 : decode cX10_costOf 27 = .ok (.aaload, 1) := by decide +kernel
theorem dX10_costOf_28 : decode cX10_costOf 28 = .ok (.iconst 2, 1) := by decide +kernel
theorem dX10_costOf_29 : decode cX10_costOf 29 = .ok (.iaload, 1) := by decide +kernel
theorem dX10_costOf_30 : decode cX10_costOf 30 = .ok (.goto 12, 3) := by decide +kernel
theorem dX10_costOf_33 : decode cX10_costOf 33 = .ok (.aload_n 0, 1) := by decide +kernel
theorem dX10_costOf_34 : decode cX10_costOf 34 = .ok (.iload_n 1, 1) := by decide +kernel
theorem dX10_costOf_35 : decode cX10_costOf 35 = .ok (.iload 4, 2) := by decide +kernel
theorem dX10_costOf_37 : decode cX10_costOf 37 = .ok (.iload_n 1, 1) := by decide +kernel
theorem dX10_costOf_38 : decode cX10_costOf 38 = .ok (.iload_n 2, 1) := by decide +kernel
theorem dX10_costOf_39 : decode cX10_costOf 39 = .ok (.invokevirtual 121, 3) := by decide +kernel
theorem dX10_costOf_42 : decode cX10_costOf 42 = .ok (.imul, 1) := by decide +kernel
theorem dX10_costOf_43 : decode cX10_costOf 43 = .ok (.ireturn, 1) := by decide +kernel

def f_X10_costOf (fu : Nat) (M : gz_M) (a0 : Nat) (a1 : Int32) (a2 : Int32) (a3 : Int32) : Option (Int32) :=
  gz_gd M 10 a0 <|
  (f_X10_ownOf fu M a0 a1 a2 a3).bind fun x1 =>
  (f_X10_of fu M a0 a1 a2 (3 : Int32)).bind fun x2 =>
  gz_jn (fun (x7 : Int32) =>
  some (x2 * x7)) fun j42 =>
  if x1 = (-1 : Int32) then
    (gz_gR M 10 12 a0).bind fun x3 =>
    (gz_aR M x3 a1).bind fun x4 =>
    (gz_aI M x4 (2 : Int32)).bind fun x5 =>
    j42 x5
  else
    (f_X10_badOf fu M a0 a1 x1 a1 a2).bind fun x6 =>
    j42 x6

set_option maxHeartbeats 4000000 in
theorem ct_X10_costOf (l : Launch) (G : gz_G) (fu : Nat) (M : gz_M) (a0 : Nat) (a1 : Int32) (a2 : Int32) (a3 : Int32) (y : Int32) (hF : f_X10_costOf fu M a0 a1 a2 a3 = some y) : gz_ct l yX10_costOf cX10_costOf 5 (some .int) 3 83 0 0 G [.ref a0, .int a1, .int a2, .int a3] M (some (.int y)) M := by
  refine gz_ct.of (by decide) (Nat.le_of_ble_eq_true rfl) (fun C hC hX => ?_)
  unfold f_X10_costOf at hF
  obtain ⟨-, hF⟩ := gz_gd_some hF
  show gz_go C 0 0 M [(0, .ref a0), (1, .int a1), (2, .int a2), (3, .int a3)] 0 []
  refine gz_aload_n 0 hC 0 dX10_costOf_0 rfl rfl ?_
  refine gz_iload_n 1 hC 1 dX10_costOf_1 rfl rfl ?_
  refine gz_iload_n 2 hC 2 dX10_costOf_2 rfl rfl ?_
  refine gz_iload_n 3 hC 3 dX10_costOf_3 rfl rfl ?_
  refine gz_cvP (st := []) 4 hC hX [.int a1, .int a2, .int a3] Value.int yl_X10_ownOf yv_X10_ownOf q_1383 ⟨Nat.le_of_ble_eq_true rfl, Nat.le_of_ble_eq_true rfl⟩ ⟨_, rfl⟩ (fun r h => ct_X10_ownOf _ _ fu M a0 a1 a2 a3 r h) rfl rfl (Nat.le_of_ble_eq_true rfl) dX10_costOf_4 gz_00 hF (fun x1 hF => ?_)
  refine gz_istore 7 hC [(4, .int x1), (0, .ref a0), (1, .int a1), (2, .int a2), (3, .int a3)] dX10_costOf_7 (by decide) rfl ?_
  refine gz_aload_n 9 hC 1 dX10_costOf_9 rfl rfl ?_
  refine gz_iload_n 10 hC 2 dX10_costOf_10 rfl rfl ?_
  refine gz_iload_n 11 hC 3 dX10_costOf_11 rfl rfl ?_
  refine gz_iconst 12 hC (3 : Int32) dX10_costOf_12 gz_k3 ?_
  refine gz_cvP (st := []) 13 hC hX [.int a1, .int a2, .int (3 : Int32)] Value.int yl_X10_of yv_X10_of q_1241 ⟨Nat.le_of_ble_eq_true rfl, Nat.le_of_ble_eq_true rfl⟩ ⟨_, rfl⟩ (fun r h => ct_X10_of _ _ fu M a0 a1 a2 (3 : Int32) r h) rfl rfl (Nat.le_of_ble_eq_true rfl) dX10_costOf_13 gz_00 hF (fun x2 hF => ?_)
  refine gz_iload 16 hC 0 dX10_costOf_16 rfl ?_
  refine gz_iconst 18 hC (-1 : Int32) dX10_costOf_18 gz_km1 ?_
  refine gz_join (fun (j : Int32 → Option (Int32)) => ∀ (x7 : Int32), j x7 = some y → gz_go C 0 0 M [] 42 [.int x7, .int x2]) hF (fun x7 hF => ?_) (fun j42 hj42 hF => ?_)
  · skip
    refine gz_imul 42 hC dX10_costOf_42 ?_
    exact gz_iretP 43 hC hX dX10_costOf_43 hF
  refine gz_icmp_ne 19 33 hC dX10_costOf_19 (by decide) hF (fun hF => ?_) (fun hF => ?_)
  · skip
    refine gz_aload_n 33 hC 1 dX10_costOf_33 rfl rfl ?_
    refine gz_iload_n 34 hC 2 dX10_costOf_34 rfl rfl ?_
    refine gz_iload 35 hC 0 dX10_costOf_35 rfl ?_
    refine gz_iload_n 37 hC 2 dX10_costOf_37 rfl rfl ?_
    refine gz_iload_n 38 hC 3 dX10_costOf_38 rfl rfl ?_
    refine gz_cvP (st := [.int x2]) 39 hC hX [.int a1, .int x1, .int a1, .int a2] Value.int yl_X10_badOf yv_X10_badOf q_1249 ⟨Nat.le_of_ble_eq_true rfl, Nat.le_of_ble_eq_true rfl⟩ ⟨_, rfl⟩ (fun r h => ct_X10_badOf _ _ fu M a0 a1 x1 a1 a2 r h) rfl rfl (Nat.le_of_ble_eq_true rfl) dX10_costOf_39 gz_00 hF (fun x6 hF => ?_)
    refine gz_sub [] [] rfl ?_
    exact hj42 _ hF
  · skip
    refine gz_aload_n 22 hC 1 dX10_costOf_22 rfl rfl ?_
    refine gz_getR 23 hC fl_X10_45 fk_10_12 dX10_costOf_23 hF (fun x3 hF => ?_)
    refine gz_iload_n 26 hC 2 dX10_costOf_26 rfl rfl ?_
    refine gz_aald 27 hC dX10_costOf_27 hF (fun x4 hF => ?_)
    refine gz_iconst 28 hC (2 : Int32) dX10_costOf_28 gz_k2 ?_
    refine gz_iald 29 hC dX10_costOf_29 hF (fun x5 hF => ?_)
    refine gz_goto 30 42 hC dX10_costOf_30 (by decide) ?_
    refine gz_sub [] [] rfl ?_
    exact hj42 _ hF

theorem dX10_pricesOf_0 : decode cX10_pricesOf 0 = .ok (.iconst 0, 1) := by decide +kernel
theorem dX10_pricesOf_1 : decode cX10_pricesOf 1 = .ok (.istore_n 3, 1) := by decide +kernel
theorem dX10_pricesOf_2 : decode cX10_pricesOf 2 = .ok (.iconst 0, 1) := by decide +kernel
theorem dX10_pricesOf_3 : decode cX10_pricesOf 3 = .ok (.istore 4, 2) := by decide +kernel
theorem dX10_pricesOf_5 : decode cX10_pricesOf 5 = .ok (.iload 4, 2) := by decide +kernel
theorem dX10_pricesOf_7 : decode cX10_pricesOf 7 = .ok (.aload_n 0, 1) := by decide +kernel
theorem dX10_pricesOf_8 : decode cX10_pricesOf 8 = .ok (.iload_n 1, 1) := by decide +kernel
theorem dX10_pricesOf_9 : decode cX10_pricesOf 9 = .ok (.invokevirtual 85, 3) := by decide +kernel
theorem dX10_pricesOf_12 : decode cX10_pricesOf 12 = .ok (.if_icmp .ge 33, 3) := by decide +kernel
theorem dX10_pricesOf_15 : decode cX10_pricesOf 15 = .ok (.iload_n 3, 1) := by decide +kernel
theorem dX10_pricesOf_16 : decode cX10_pricesOf 16 = .ok (.iload_n 2, 1) := by decide +kernel
theorem dX10_pricesOf_17 : decode cX10_pricesOf 17 = .ok (.iload 4, 2) := by decide +kernel
theorem dX10_pricesOf_19 : decode cX10_pricesOf 19 = .ok (.ishr, 1) := by decide +kernel
theorem dX10_pricesOf_20 : decode cX10_pricesOf 20 = .ok (.iconst 1, 1) := by decide +kernel
theorem dX10_pricesOf_21 : decode cX10_pricesOf 21 = .ok (.iand, 1) := by decide +kernel
theorem dX10_pricesOf_22 : decode cX10_pricesOf 22 = .ok (.ifCond .eq 14, 3) := by decide +kernel
theorem dX10_pricesOf_25 : decode cX10_pricesOf 25 = .ok (.aload_n 0, 1) := by decide +kernel
theorem dX10_pricesOf_26 : decode cX10_pricesOf 26 = .ok (.iload_n 1, 1) := by decide +kernel
theorem dX10_pricesOf_27 : decode cX10_pricesOf 27 = .ok (.iload 4, 2) := by decide +kernel
theorem dX10_pricesOf_29 : decode cX10_pricesOf 29 = .ok (.iconst 3, 1) := by decide +kernel
theorem dX10_pricesOf_30 : decode cX10_pricesOf 30 = .ok (.invokevirtual 110, 3) := by decide +kernel
theorem dX10_pricesOf_33 : decode cX10_pricesOf 33 = .ok (.goto 4, 3) := by decide +kernel
theorem dX10_pricesOf_36 : decode cX10_pricesOf 36 = .ok (.iconst 0, 1) := by decide +kernel
theorem dX10_pricesOf_37 : decode cX10_pricesOf 37 = .ok (.iadd, 1) := by decide +kernel
theorem dX10_pricesOf_38 : decode cX10_pricesOf 38 = .ok (.istore_n 3, 1) := by decide +kernel
theorem dX10_pricesOf_39 : decode cX10_pricesOf 39 = .ok (.iinc 4 1, 3) := by decide +kernel
theorem dX10_pricesOf_42 : decode cX10_pricesOf 42 = .ok (.goto (-37), 3) := by decide +kernel
theorem dX10_pricesOf_45 : decode cX10_pricesOf 45 = .ok (.iload_n 3, 1) := by decide +kernel
theorem dX10_pricesOf_46 : decode cX10_pricesOf 46 = .ok (.ireturn, 1) := by decide +kernel
def lp_X10_pricesOf_5 (j45 : Int32 → Option (Int32)) (fu : Nat) (M : gz_M) (a0 : Nat) (a1 : Int32) (a2 : Int32) : Nat → Int32 → Int32 → Option (Int32)
  | 0, _, _ => none
  | n5 + 1, x1, x2 =>
    (f_X10_lastsOf fu M a0 a1).bind fun x3 =>
    if x3 ≤ x2 then
      j45 x1
    else
      gz_jn (fun (x5 : Int32) =>
      lp_X10_pricesOf_5 j45 fu M a0 a1 a2 n5 (x1 + x5) (x2 + (1 : Int32))) fun j37 =>
      if ((a2 >>> (x2 &&& 31)) &&& (1 : Int32)) = 0 then
        j37 (0 : Int32)
      else
        (f_X10_lastIs fu M a0 a1 x2 (3 : Int32)).bind fun x4 =>
        j37 x4
def f_X10_pricesOf (fu : Nat) (M : gz_M) (a0 : Nat) (a1 : Int32) (a2 : Int32) : Option (Int32) :=
  gz_gd M 10 a0 <|
  lp_X10_pricesOf_5 (fun (x6 : Int32) => some x6) fu M a0 a1 a2 fu (0 : Int32) (0 : Int32)
set_option maxHeartbeats 4000000 in
theorem w_X10_pricesOf_5 {C : gz_C} {y : Int32} {fu : Nat} {M : gz_M} {a0 : Nat} {a1 : Int32} {a2 : Int32} {j45 : Int32 → Option (Int32)} (hC : gz_ok C cX10_pricesOf RX10 5) (hX : gz_cx C 1 23 0 0 (some .int) (some (.int y)) M "pricesOf") (hj45 : ∀ (x6 : Int32), j45 x6 = some y → gz_go C 0 0 M [(3, .int x6)] 45 []) : ∀ (n : Nat) (x1 : Int32) (x2 : Int32), lp_X10_pricesOf_5 j45 fu M a0 a1 a2 n x1 x2 = some y → gz_go C 0 0 M [(0, .ref a0), (1, .int a1), (2, .int a2), (3, .int x1), (4, .int x2)] 5 [] := by
  intro n
  induction n with
  | zero => intro x1 x2 hF; exact nomatch (show (none : Option (Int32)) = some y from hF)
  | succ n5 ih5 =>
    intro x1 x2 hF
    rw [lp_X10_pricesOf_5.eq_2] at hF
    refine gz_iload 5 hC 4 dX10_pricesOf_5 rfl ?_
    refine gz_aload_n 7 hC 0 dX10_pricesOf_7 rfl rfl ?_
    refine gz_iload_n 8 hC 1 dX10_pricesOf_8 rfl rfl ?_
    refine gz_cvP (st := [.int x2]) 9 hC hX [.int a1] Value.int yl_X10_lastsOf yv_X10_lastsOf q_1229 ⟨Nat.le_of_ble_eq_true rfl, Nat.le_of_ble_eq_true rfl⟩ ⟨_, rfl⟩ (fun r h => ct_X10_lastsOf _ _ fu M a0 a1 r h) rfl rfl (Nat.le_of_ble_eq_true rfl) dX10_pricesOf_9 gz_00 hF (fun x3 hF => ?_)
    refine gz_icmp_ge 12 45 hC dX10_pricesOf_12 (by decide) hF (fun hF => ?_) (fun hF => ?_)
    · skip
      refine gz_sub [3] [(3, .int x1)] rfl ?_
      exact hj45 _ hF
    · skip
      refine gz_iload_n 15 hC 3 dX10_pricesOf_15 rfl rfl ?_
      refine gz_iload_n 16 hC 2 dX10_pricesOf_16 rfl rfl ?_
      refine gz_iload 17 hC 4 dX10_pricesOf_17 rfl ?_
      refine gz_ishr 19 hC dX10_pricesOf_19 ?_
      refine gz_iconst 20 hC (1 : Int32) dX10_pricesOf_20 gz_k1 ?_
      refine gz_iand 21 hC dX10_pricesOf_21 ?_
      refine gz_join (fun (j : Int32 → Option (Int32)) => ∀ (x5 : Int32), j x5 = some y → gz_go C 0 0 M [(0, .ref a0), (1, .int a1), (2, .int a2), (4, .int x2)] 37 [.int x5, .int x1]) hF (fun x5 hF => ?_) (fun j37 hj37 hF => ?_)
      · skip
        refine gz_iadd 37 hC dX10_pricesOf_37 ?_
        refine gz_istore_n 38 hC [(3, .int (x1 + x5)), (0, .ref a0), (1, .int a1), (2, .int a2), (4, .int x2)] dX10_pricesOf_38 rfl (by decide) rfl ?_
        refine gz_iinc 39 hC (x2 + (1 : Int32)) 4 [(4, .int (x2 + (1 : Int32))), (3, .int (x1 + x5)), (0, .ref a0), (1, .int a1), (2, .int a2)] dX10_pricesOf_39 rfl rfl (by decide) rfl ?_
        refine gz_goto 42 5 hC dX10_pricesOf_42 (by decide) ?_
        refine gz_sub [2, 3, 4, 1, 0] [(0, .ref a0), (1, .int a1), (2, .int a2), (3, .int (x1 + x5)), (4, .int (x2 + (1 : Int32)))] rfl ?_
        exact ih5 _ _ hF
      refine gz_if_eq 22 36 hC dX10_pricesOf_22 (by decide) hF (fun hF => ?_) (fun hF => ?_)
      · skip
        refine gz_iconst 36 hC (0 : Int32) dX10_pricesOf_36 gz_k0 ?_
        refine gz_sub [0, 1, 2, 4] [(0, .ref a0), (1, .int a1), (2, .int a2), (4, .int x2)] rfl ?_
        exact hj37 _ hF
      · skip
        refine gz_aload_n 25 hC 0 dX10_pricesOf_25 rfl rfl ?_
        refine gz_iload_n 26 hC 1 dX10_pricesOf_26 rfl rfl ?_
        refine gz_iload 27 hC 4 dX10_pricesOf_27 rfl ?_
        refine gz_iconst 29 hC (3 : Int32) dX10_pricesOf_29 gz_k3 ?_
        refine gz_cvP (st := [.int x1]) 30 hC hX [.int a1, .int x2, .int (3 : Int32)] Value.int yl_X10_lastIs yv_X10_lastIs q_1237 ⟨Nat.le_of_ble_eq_true rfl, Nat.le_of_ble_eq_true rfl⟩ ⟨_, rfl⟩ (fun r h => ct_X10_lastIs _ _ fu M a0 a1 x2 (3 : Int32) r h) rfl rfl (Nat.le_of_ble_eq_true rfl) dX10_pricesOf_30 gz_00 hF (fun x4 hF => ?_)
        refine gz_goto 33 37 hC dX10_pricesOf_33 (by decide) ?_
        refine gz_sub [0, 1, 2, 4] [(0, .ref a0), (1, .int a1), (2, .int a2), (4, .int x2)] rfl ?_
        exact hj37 _ hF
set_option maxHeartbeats 4000000 in
theorem ct_X10_pricesOf (l : Launch) (G : gz_G) (fu : Nat) (M : gz_M) (a0 : Nat) (a1 : Int32) (a2 : Int32) (y : Int32) (hF : f_X10_pricesOf fu M a0 a1 a2 = some y) : gz_ct l yX10_pricesOf cX10_pricesOf 5 (some .int) 1 23 0 0 G [.ref a0, .int a1, .int a2] M (some (.int y)) M := by
  refine gz_ct.of (by decide) (Nat.le_of_ble_eq_true rfl) (fun C hC hX => ?_)
  unfold f_X10_pricesOf at hF
  obtain ⟨-, hF⟩ := gz_gd_some hF
  show gz_go C 0 0 M [(0, .ref a0), (1, .int a1), (2, .int a2)] 0 []
  refine gz_iconst 0 hC (0 : Int32) dX10_pricesOf_0 gz_k0 ?_
  refine gz_istore_n 1 hC [(3, .int (0 : Int32)), (0, .ref a0), (1, .int a1), (2, .int a2)] dX10_pricesOf_1 rfl (by decide) rfl ?_
  refine gz_iconst 2 hC (0 : Int32) dX10_pricesOf_2 gz_k0 ?_
  refine gz_istore 3 hC [(4, .int (0 : Int32)), (3, .int (0 : Int32)), (0, .ref a0), (1, .int a1), (2, .int a2)] dX10_pricesOf_3 (by decide) rfl ?_
  refine gz_sub [2, 3, 4, 1, 0] [(0, .ref a0), (1, .int a1), (2, .int a2), (3, .int (0 : Int32)), (4, .int (0 : Int32))] rfl ?_
  refine w_X10_pricesOf_5 hC hX ?_ _ _ _ hF
  intro x6 hF
  refine gz_iload_n 45 hC 0 dX10_pricesOf_45 rfl rfl ?_
  exact gz_iretP 46 hC hX dX10_pricesOf_46 hF

theorem dX10_totalOf_0 : decode cX10_totalOf 0 = .ok (.aload_n 0, 1) := by decide +kernel
theorem dX10_totalOf_1 : decode cX10_totalOf 1 = .ok (.iload_n 1, 1) := by decide +kernel
theorem dX10_totalOf_2 : decode cX10_totalOf 2 = .ok (.iload_n 2, 1) := by decide +kernel
theorem dX10_totalOf_3 : decode cX10_totalOf 3 = .ok (.invokevirtual 233, 3) := by decide +kernel
theorem dX10_totalOf_6 : decode cX10_totalOf 6 = .ok (.istore 4, 2) := by decide +kernel
theorem dX10_totalOf_8 : decode cX10_totalOf 8 = .ok (.iconst 0, 1) := by decide +kernel
theorem dX10_totalOf_9 : decode cX10_totalOf 9 = .ok (.istore 5, 2) := by decide +kernel
theorem dX10_totalOf_11 : decode cX10_totalOf 11 = .ok (.iload 5, 2) := by decide +kernel
theorem dX10_totalOf_13 : decode cX10_totalOf 13 = .ok (.aload_n 0, 1) := by decide +kernel
theorem dX10_totalOf_14 : decode cX10_totalOf 14 = .ok (.iload_n 1, 1) := by decide +kernel
theorem dX10_totalOf_15 : decode cX10_totalOf 15 = .ok (.invokevirtual 81, 3) := by decide +kernel
theorem dX10_totalOf_18 : decode cX10_totalOf 18 = .ok (.if_icmp .ge 32, 3) := by decide +kernel
theorem dX10_totalOf_21 : decode cX10_totalOf 21 = .ok (.iload 4, 2) := by decide +kernel
theorem dX10_totalOf_23 : decode cX10_totalOf 23 = .ok (.iload 5, 2) := by decide +kernel
theorem dX10_totalOf_25 : decode cX10_totalOf 25 = .ok (.iload_n 3, 1) := by decide +kernel
theorem dX10_totalOf_26 : decode cX10_totalOf 26 = .ok (.if_icmp .eq 14, 3) := by decide +kernel
theorem dX10_totalOf_29 : decode cX10_totalOf 29 = .ok (.aload_n 0, 1) := by decide +kernel
theorem dX10_totalOf_30 : decode cX10_totalOf 30 = .ok (.iload_n 1, 1) := by decide +kernel
theorem dX10_totalOf_31 : decode cX10_totalOf 31 = .ok (.iload 5, 2) := by decide +kernel
theorem dX10_totalOf_33 : decode cX10_totalOf 33 = .ok (.iload_n 2, 1) := by decide +kernel
theorem dX10_totalOf_34 : decode cX10_totalOf 34 = .ok (.invokevirtual 236, 3) := by decide +kernel
theorem dX10_totalOf_37 : decode cX10_totalOf 37 = .ok (.goto 4, 3) := by decide +kernel
theorem dX10_totalOf_40 : decode cX10_totalOf 40 = .ok (.iconst 0, 1) := by decide +kernel
theorem dX10_totalOf_41 : decode cX10_totalOf 41 = .ok (.iadd, 1) := by decide +kernel
theorem dX10_totalOf_42 : decode cX10_totalOf 42 = .ok (.istore 4, 2) := by decide +kernel
theorem dX10_totalOf_44 : decode cX10_totalOf 44 = .ok (.iinc 5 1, 3) := by decide +kernel
theorem dX10_totalOf_47 : decode cX10_totalOf 47 = .ok (.goto (-36), 3) := by decide +kernel
theorem dX10_totalOf_50 : decode cX10_totalOf 50 = .ok (.iload 4, 2) := by decide +kernel
theorem dX10_totalOf_52 : decode cX10_totalOf 52 = .ok (.ireturn, 1) := by decide +kernel
def lp_X10_totalOf_11 (j50 : Int32 → Option (Int32)) (fu : Nat) (M : gz_M) (a0 : Nat) (a1 : Int32) (a2 : Int32) (a3 : Int32) : Nat → Int32 → Int32 → Option (Int32)
  | 0, _, _ => none
  | n11 + 1, x2, x3 =>
    (f_X10_feetOf fu M a0 a1).bind fun x4 =>
    if x4 ≤ x3 then
      j50 x2
    else
      gz_jn (fun (x6 : Int32) =>
      lp_X10_totalOf_11 j50 fu M a0 a1 a2 a3 n11 (x2 + x6) (x3 + (1 : Int32))) fun j41 =>
      if x3 = a3 then
        j41 (0 : Int32)
      else
        (f_X10_costOf fu M a0 a1 x3 a2).bind fun x5 =>
        j41 x5
def f_X10_totalOf (fu : Nat) (M : gz_M) (a0 : Nat) (a1 : Int32) (a2 : Int32) (a3 : Int32) : Option (Int32) :=
  gz_gd M 10 a0 <|
  (f_X10_pricesOf fu M a0 a1 a2).bind fun x1 =>
  lp_X10_totalOf_11 (fun (x7 : Int32) => some x7) fu M a0 a1 a2 a3 fu x1 (0 : Int32)
set_option maxHeartbeats 4000000 in
theorem w_X10_totalOf_11 {C : gz_C} {y : Int32} {fu : Nat} {M : gz_M} {a0 : Nat} {a1 : Int32} {a2 : Int32} {a3 : Int32} {j50 : Int32 → Option (Int32)} (hC : gz_ok C cX10_totalOf RX10 6) (hX : gz_cx C 4 107 0 0 (some .int) (some (.int y)) M "totalOf") (hj50 : ∀ (x7 : Int32), j50 x7 = some y → gz_go C 0 0 M [(4, .int x7)] 50 []) : ∀ (n : Nat) (x2 : Int32) (x3 : Int32), lp_X10_totalOf_11 j50 fu M a0 a1 a2 a3 n x2 x3 = some y → gz_go C 0 0 M [(0, .ref a0), (1, .int a1), (2, .int a2), (3, .int a3), (4, .int x2), (5, .int x3)] 11 [] := by
  intro n
  induction n with
  | zero => intro x2 x3 hF; exact nomatch (show (none : Option (Int32)) = some y from hF)
  | succ n11 ih11 =>
    intro x2 x3 hF
    rw [lp_X10_totalOf_11.eq_2] at hF
    refine gz_iload 11 hC 5 dX10_totalOf_11 rfl ?_
    refine gz_aload_n 13 hC 0 dX10_totalOf_13 rfl rfl ?_
    refine gz_iload_n 14 hC 1 dX10_totalOf_14 rfl rfl ?_
    refine gz_cvP (st := [.int x3]) 15 hC hX [.int a1] Value.int yl_X10_feetOf yv_X10_feetOf q_1221 ⟨Nat.le_of_ble_eq_true rfl, Nat.le_of_ble_eq_true rfl⟩ ⟨_, rfl⟩ (fun r h => ct_X10_feetOf _ _ fu M a0 a1 r h) rfl rfl (Nat.le_of_ble_eq_true rfl) dX10_totalOf_15 gz_00 hF (fun x4 hF => ?_)
    refine gz_icmp_ge 18 50 hC dX10_totalOf_18 (by decide) hF (fun hF => ?_) (fun hF => ?_)
    · skip
      refine gz_sub [4] [(4, .int x2)] rfl ?_
      exact hj50 _ hF
    · skip
      refine gz_iload 21 hC 4 dX10_totalOf_21 rfl ?_
      refine gz_iload 23 hC 5 dX10_totalOf_23 rfl ?_
      refine gz_iload_n 25 hC 3 dX10_totalOf_25 rfl rfl ?_
      refine gz_join (fun (j : Int32 → Option (Int32)) => ∀ (x6 : Int32), j x6 = some y → gz_go C 0 0 M [(0, .ref a0), (1, .int a1), (2, .int a2), (3, .int a3), (5, .int x3)] 41 [.int x6, .int x2]) hF (fun x6 hF => ?_) (fun j41 hj41 hF => ?_)
      · skip
        refine gz_iadd 41 hC dX10_totalOf_41 ?_
        refine gz_istore 42 hC [(4, .int (x2 + x6)), (0, .ref a0), (1, .int a1), (2, .int a2), (3, .int a3), (5, .int x3)] dX10_totalOf_42 (by decide) rfl ?_
        refine gz_iinc 44 hC (x3 + (1 : Int32)) 5 [(5, .int (x3 + (1 : Int32))), (4, .int (x2 + x6)), (0, .ref a0), (1, .int a1), (2, .int a2), (3, .int a3)] dX10_totalOf_44 rfl rfl (by decide) rfl ?_
        refine gz_goto 47 11 hC dX10_totalOf_47 (by decide) ?_
        refine gz_sub [2, 3, 4, 5, 1, 0] [(0, .ref a0), (1, .int a1), (2, .int a2), (3, .int a3), (4, .int (x2 + x6)), (5, .int (x3 + (1 : Int32)))] rfl ?_
        exact ih11 _ _ hF
      refine gz_icmp_eq 26 40 hC dX10_totalOf_26 (by decide) hF (fun hF => ?_) (fun hF => ?_)
      · skip
        refine gz_iconst 40 hC (0 : Int32) dX10_totalOf_40 gz_k0 ?_
        refine gz_sub [0, 1, 2, 3, 5] [(0, .ref a0), (1, .int a1), (2, .int a2), (3, .int a3), (5, .int x3)] rfl ?_
        exact hj41 _ hF
      · skip
        refine gz_aload_n 29 hC 0 dX10_totalOf_29 rfl rfl ?_
        refine gz_iload_n 30 hC 1 dX10_totalOf_30 rfl rfl ?_
        refine gz_iload 31 hC 5 dX10_totalOf_31 rfl ?_
        refine gz_iload_n 33 hC 2 dX10_totalOf_33 rfl rfl ?_
        refine gz_cvP (st := [.int x2]) 34 hC hX [.int a1, .int x3, .int a2] Value.int yl_X10_costOf yv_X10_costOf q_1399 ⟨Nat.le_of_ble_eq_true rfl, Nat.le_of_ble_eq_true rfl⟩ ⟨_, rfl⟩ (fun r h => ct_X10_costOf _ _ fu M a0 a1 x3 a2 r h) rfl rfl (Nat.le_of_ble_eq_true rfl) dX10_totalOf_34 gz_00 hF (fun x5 hF => ?_)
        refine gz_goto 37 41 hC dX10_totalOf_37 (by decide) ?_
        refine gz_sub [0, 1, 2, 3, 5] [(0, .ref a0), (1, .int a1), (2, .int a2), (3, .int a3), (5, .int x3)] rfl ?_
        exact hj41 _ hF
set_option maxHeartbeats 4000000 in
theorem ct_X10_totalOf (l : Launch) (G : gz_G) (fu : Nat) (M : gz_M) (a0 : Nat) (a1 : Int32) (a2 : Int32) (a3 : Int32) (y : Int32) (hF : f_X10_totalOf fu M a0 a1 a2 a3 = some y) : gz_ct l yX10_totalOf cX10_totalOf 6 (some .int) 4 107 0 0 G [.ref a0, .int a1, .int a2, .int a3] M (some (.int y)) M := by
  refine gz_ct.of (by decide) (Nat.le_of_ble_eq_true rfl) (fun C hC hX => ?_)
  unfold f_X10_totalOf at hF
  obtain ⟨-, hF⟩ := gz_gd_some hF
  show gz_go C 0 0 M [(0, .ref a0), (1, .int a1), (2, .int a2), (3, .int a3)] 0 []
  refine gz_aload_n 0 hC 0 dX10_totalOf_0 rfl rfl ?_
  refine gz_iload_n 1 hC 1 dX10_totalOf_1 rfl rfl ?_
  refine gz_iload_n 2 hC 2 dX10_totalOf_2 rfl rfl ?_
  refine gz_cvP (st := []) 3 hC hX [.int a1, .int a2] Value.int yl_X10_pricesOf yv_X10_pricesOf q_1395 ⟨Nat.le_of_ble_eq_true rfl, Nat.le_of_ble_eq_true rfl⟩ ⟨_, rfl⟩ (fun r h => ct_X10_pricesOf _ _ fu M a0 a1 a2 r h) rfl rfl (Nat.le_of_ble_eq_true rfl) dX10_totalOf_3 gz_00 hF (fun x1 hF => ?_)
  refine gz_istore 6 hC [(4, .int x1), (0, .ref a0), (1, .int a1), (2, .int a2), (3, .int a3)] dX10_totalOf_6 (by decide) rfl ?_
  refine gz_iconst 8 hC (0 : Int32) dX10_totalOf_8 gz_k0 ?_
  refine gz_istore 9 hC [(5, .int (0 : Int32)), (4, .int x1), (0, .ref a0), (1, .int a1), (2, .int a2), (3, .int a3)] dX10_totalOf_9 (by decide) rfl ?_
  refine gz_sub [2, 3, 4, 5, 1, 0] [(0, .ref a0), (1, .int a1), (2, .int a2), (3, .int a3), (4, .int x1), (5, .int (0 : Int32))] rfl ?_
  refine w_X10_totalOf_11 hC hX ?_ _ _ _ hF
  intro x7 hF
  refine gz_iload 50 hC 0 dX10_totalOf_50 rfl ?_
  exact gz_iretP 52 hC hX dX10_totalOf_52 hF

theorem dX10_whose_0 : decode cX10_whose 0 = .ok (.aload_n 0, 1) := by decide +kernel
theorem dX10_whose_1 : decode cX10_whose 1 = .ok (.iload_n 1, 1) := by decide +kernel
theorem dX10_whose_2 : decode cX10_whose 2 = .ok (.iload_n 2, 1) := by decide +kernel
theorem dX10_whose_3 : decode cX10_whose 3 = .ok (.invokevirtual 125, 3) := by decide +kernel
theorem dX10_whose_6 : decode cX10_whose 6 = .ok (.ifCond .eq 22, 3) := by decide +kernel
theorem dX10_whose_9 : decode cX10_whose 9 = .ok (.aload_n 0, 1) := by decide +kernel
theorem dX10_whose_10 : decode cX10_whose 10 = .ok (.iload_n 1, 1) := by decide +kernel
theorem dX10_whose_11 : decode cX10_whose 11 = .ok (.iload_n 3, 1) := by decide +kernel
theorem dX10_whose_12 : decode cX10_whose 12 = .ok (.invokevirtual 239, 3) := by decide +kernel
theorem dX10_whose_15 : decode cX10_whose 15 = .ok (.ifCond .eq 13, 3) := by decide +kernel
theorem dX10_whose_18 : decode cX10_whose 18 = .ok (.aload_n 0, 1) := by decide +kernel
theorem dX10_whose_19 : decode cX10_whose 19 = .ok (.iload_n 1, 1) := by decide +kernel
theorem dX10_whose_20 : decode cX10_whose 20 = .ok (.iload_n 2, 1) := by decide +kernel
theorem dX10_whose_21 : decode cX10_whose 21 = .ok (.iload_n 3, 1) := by decide +kernel
theorem dX10_whose_22 : decode cX10_whose 22 = .ok (.invokevirtual 230, 3) := by decide +kernel
theorem dX10_whose_25 : decode cX10_whose 25 = .ok (.goto 9, 3) := by decide +kernel
theorem dX10_whose_28 : decode cX10_whose 28 = .ok (.aload_n 0, 1) := by decide +kernel
theorem dX10_whose_29 : decode cX10_whose 29 = .ok (.bipush (-2), 2) := by decide +kernel
theorem dX10_whose_31 : decode cX10_whose 31 = .ok (.invokevirtual 97, 3) := by decide +kernel
theorem dX10_whose_34 : decode cX10_whose 34 = .ok (.ireturn, 1) := by decide +kernel

def f_X10_whose (fu : Nat) (M : gz_M) (a0 : Nat) (a1 : Int32) (a2 : Int32) (a3 : Int32) : Option (Int32 × gz_M) :=
  gz_gd M 10 a0 <|
  (f_X10_isFoot fu M a0 a1 a2).bind fun x1 =>
  gz_jn (fun (x6 : Int32) (M7 : gz_M) =>
  some (x6, M7)) fun j34 =>
  gz_jn (gz_b2 (f_X10_refuse fu M a0 (-2 : Int32)) fun x4 M5 =>
    j34 x4 M5) fun j28 =>
  if x1 = 0 then
    j28
  else
    (f_X10_isSet fu M a0 a1 a3).bind fun x2 =>
    if x2 = 0 then
      j28
    else
      (f_X10_ownOf fu M a0 a1 a2 a3).bind fun x3 =>
      j34 x3 M

set_option maxHeartbeats 4000000 in
theorem ct_X10_whose (l : Launch) (G : gz_G) (fu : Nat) (M : gz_M) (a0 : Nat) (a1 : Int32) (a2 : Int32) (a3 : Int32) (y : Int32 × gz_M) (hF : f_X10_whose fu M a0 a1 a2 a3 = some y) : gz_ct l yX10_whose cX10_whose 4 (some .int) 3 83 0 0 G [.ref a0, .int a1, .int a2, .int a3] M (some (.int y.1)) y.2 := by
  refine gz_ct.of (by decide) (Nat.le_of_ble_eq_true rfl) (fun C hC hX => ?_)
  unfold f_X10_whose at hF
  obtain ⟨-, hF⟩ := gz_gd_some hF
  show gz_go C 0 0 M [(0, .ref a0), (1, .int a1), (2, .int a2), (3, .int a3)] 0 []
  refine gz_aload_n 0 hC 0 dX10_whose_0 rfl rfl ?_
  refine gz_iload_n 1 hC 1 dX10_whose_1 rfl rfl ?_
  refine gz_iload_n 2 hC 2 dX10_whose_2 rfl rfl ?_
  refine gz_cvP (st := []) 3 hC hX [.int a1, .int a2] Value.int yl_X10_isFoot yv_X10_isFoot q_1213 ⟨Nat.le_of_ble_eq_true rfl, Nat.le_of_ble_eq_true rfl⟩ ⟨_, rfl⟩ (fun r h => ct_X10_isFoot _ _ fu M a0 a1 a2 r h) rfl rfl (Nat.le_of_ble_eq_true rfl) dX10_whose_3 gz_00 hF (fun x1 hF => ?_)
  refine gz_join (fun (j : Int32 → gz_M → Option (Int32 × gz_M)) => ∀ (x6 : Int32) (M7 : gz_M), j x6 M7 = some y → gz_go C 0 0 M7 [] 34 [.int x6]) hF (fun x6 M7 hF => ?_) (fun j34 hj34 hF => ?_)
  · skip
    exact gz_iretM 34 hC hX dX10_whose_34 hF
  refine gz_join (fun (j : Option (Int32 × gz_M)) => j = some y → gz_go C 0 0 M [(0, .ref a0)] 28 []) hF (fun hF => ?_) (fun j28 hj28 hF => ?_)
  · skip
    refine gz_aload_n 28 hC 0 dX10_whose_28 rfl rfl ?_
    refine gz_bipush 29 hC (-2 : Int32) dX10_whose_29 gz_bm2 ?_
    refine gz_cvM (st := []) 31 hC hX [.int (-2 : Int32)] Value.int yl_X10_refuse yv_X10_refuse q_1175 ⟨Nat.le_of_ble_eq_true rfl, Nat.le_of_ble_eq_true rfl⟩ ⟨_, rfl⟩ (fun r h => ct_X10_refuse _ _ fu M a0 (-2 : Int32) r h) rfl rfl (Nat.le_of_ble_eq_true rfl) dX10_whose_31 gz_00 hF (fun x4 M5 hF => ?_)
    refine gz_sub [] [] rfl ?_
    exact hj34 _ _ hF
  refine gz_if_eq 6 28 hC dX10_whose_6 (by decide) hF (fun hF => ?_) (fun hF => ?_)
  · skip
    refine gz_sub [0] [(0, .ref a0)] rfl ?_
    exact hj28 hF
  · skip
    refine gz_aload_n 9 hC 0 dX10_whose_9 rfl rfl ?_
    refine gz_iload_n 10 hC 1 dX10_whose_10 rfl rfl ?_
    refine gz_iload_n 11 hC 3 dX10_whose_11 rfl rfl ?_
    refine gz_cvP (st := []) 12 hC hX [.int a1, .int a3] Value.int yl_X10_isSet yv_X10_isSet q_1375 ⟨Nat.le_of_ble_eq_true rfl, Nat.le_of_ble_eq_true rfl⟩ ⟨_, rfl⟩ (fun r h => ct_X10_isSet _ _ fu M a0 a1 a3 r h) rfl rfl (Nat.le_of_ble_eq_true rfl) dX10_whose_12 gz_00 hF (fun x2 hF => ?_)
    refine gz_if_eq 15 28 hC dX10_whose_15 (by decide) hF (fun hF => ?_) (fun hF => ?_)
    · skip
      refine gz_sub [0] [(0, .ref a0)] rfl ?_
      exact hj28 hF
    · skip
      refine gz_aload_n 18 hC 0 dX10_whose_18 rfl rfl ?_
      refine gz_iload_n 19 hC 1 dX10_whose_19 rfl rfl ?_
      refine gz_iload_n 20 hC 2 dX10_whose_20 rfl rfl ?_
      refine gz_iload_n 21 hC 3 dX10_whose_21 rfl rfl ?_
      refine gz_cvP (st := []) 22 hC hX [.int a1, .int a2, .int a3] Value.int yl_X10_ownOf yv_X10_ownOf q_1383 ⟨Nat.le_of_ble_eq_true rfl, Nat.le_of_ble_eq_true rfl⟩ ⟨_, rfl⟩ (fun r h => ct_X10_ownOf _ _ fu M a0 a1 a2 a3 r h) rfl rfl (Nat.le_of_ble_eq_true rfl) dX10_whose_22 gz_00 hF (fun x3 hF => ?_)
      refine gz_goto 25 34 hC dX10_whose_25 (by decide) ?_
      refine gz_sub [] [] rfl ?_
      exact hj34 _ _ hF

theorem dX10_total_0 : decode cX10_total 0 = .ok (.aload_n 0, 1) := by decide +kernel
theorem dX10_total_1 : decode cX10_total 1 = .ok (.iload_n 1, 1) := by decide +kernel
theorem dX10_total_2 : decode cX10_total 2 = .ok (.iload_n 2, 1) := by decide +kernel
theorem dX10_total_3 : decode cX10_total 3 = .ok (.invokevirtual 239, 3) := by decide +kernel
theorem dX10_total_6 : decode cX10_total 6 = .ok (.ifCond .eq 13, 3) := by decide +kernel
theorem dX10_total_9 : decode cX10_total 9 = .ok (.aload_n 0, 1) := by decide +kernel
theorem dX10_total_10 : decode cX10_total 10 = .ok (.iload_n 1, 1) := by decide +kernel
theorem dX10_total_11 : decode cX10_total 11 = .ok (.iload_n 2, 1) := by decide +kernel
theorem dX10_total_12 : decode cX10_total 12 = .ok (.iconst (-1), 1) := by decide +kernel
theorem dX10_total_13 : decode cX10_total 13 = .ok (.invokevirtual 242, 3) := by decide +kernel
theorem dX10_total_16 : decode cX10_total 16 = .ok (.goto 9, 3) := by decide +kernel
theorem dX10_total_19 : decode cX10_total 19 = .ok (.aload_n 0, 1) := by decide +kernel
theorem dX10_total_20 : decode cX10_total 20 = .ok (.bipush (-2), 2) := by decide +kernel
theorem dX10_total_22 : decode cX10_total 22 = .ok (.invokevirtual 97, 3) := by decide +kernel
theorem dX10_total_25 : decode cX10_total 25 = .ok (.ireturn, 1) := by decide +kernel

def f_X10_total (fu : Nat) (M : gz_M) (a0 : Nat) (a1 : Int32) (a2 : Int32) : Option (Int32 × gz_M) :=
  gz_gd M 10 a0 <|
  (f_X10_isSet fu M a0 a1 a2).bind fun x1 =>
  gz_jn (fun (x5 : Int32) (M6 : gz_M) =>
  some (x5, M6)) fun j25 =>
  if x1 = 0 then
    gz_b2 (f_X10_refuse fu M a0 (-2 : Int32)) fun x3 M4 =>
    j25 x3 M4
  else
    (f_X10_totalOf fu M a0 a1 a2 (-1 : Int32)).bind fun x2 =>
    j25 x2 M

set_option maxHeartbeats 4000000 in
theorem ct_X10_total (l : Launch) (G : gz_G) (fu : Nat) (M : gz_M) (a0 : Nat) (a1 : Int32) (a2 : Int32) (y : Int32 × gz_M) (hF : f_X10_total fu M a0 a1 a2 = some y) : gz_ct l yX10_total cX10_total 3 (some .int) 5 132 0 0 G [.ref a0, .int a1, .int a2] M (some (.int y.1)) y.2 := by
  refine gz_ct.of (by decide) (Nat.le_of_ble_eq_true rfl) (fun C hC hX => ?_)
  unfold f_X10_total at hF
  obtain ⟨-, hF⟩ := gz_gd_some hF
  show gz_go C 0 0 M [(0, .ref a0), (1, .int a1), (2, .int a2)] 0 []
  refine gz_aload_n 0 hC 0 dX10_total_0 rfl rfl ?_
  refine gz_iload_n 1 hC 1 dX10_total_1 rfl rfl ?_
  refine gz_iload_n 2 hC 2 dX10_total_2 rfl rfl ?_
  refine gz_cvP (st := []) 3 hC hX [.int a1, .int a2] Value.int yl_X10_isSet yv_X10_isSet q_1375 ⟨Nat.le_of_ble_eq_true rfl, Nat.le_of_ble_eq_true rfl⟩ ⟨_, rfl⟩ (fun r h => ct_X10_isSet _ _ fu M a0 a1 a2 r h) rfl rfl (Nat.le_of_ble_eq_true rfl) dX10_total_3 gz_00 hF (fun x1 hF => ?_)
  refine gz_join (fun (j : Int32 → gz_M → Option (Int32 × gz_M)) => ∀ (x5 : Int32) (M6 : gz_M), j x5 M6 = some y → gz_go C 0 0 M6 [] 25 [.int x5]) hF (fun x5 M6 hF => ?_) (fun j25 hj25 hF => ?_)
  · skip
    exact gz_iretM 25 hC hX dX10_total_25 hF
  refine gz_if_eq 6 19 hC dX10_total_6 (by decide) hF (fun hF => ?_) (fun hF => ?_)
  · skip
    refine gz_aload_n 19 hC 0 dX10_total_19 rfl rfl ?_
    refine gz_bipush 20 hC (-2 : Int32) dX10_total_20 gz_bm2 ?_
    refine gz_cvM (st := []) 22 hC hX [.int (-2 : Int32)] Value.int yl_X10_refuse yv_X10_refuse q_1175 ⟨Nat.le_of_ble_eq_true rfl, Nat.le_of_ble_eq_true rfl⟩ ⟨_, rfl⟩ (fun r h => ct_X10_refuse _ _ fu M a0 (-2 : Int32) r h) rfl rfl (Nat.le_of_ble_eq_true rfl) dX10_total_22 gz_00 hF (fun x3 M4 hF => ?_)
    refine gz_sub [] [] rfl ?_
    exact hj25 _ _ hF
  · skip
    refine gz_aload_n 9 hC 0 dX10_total_9 rfl rfl ?_
    refine gz_iload_n 10 hC 1 dX10_total_10 rfl rfl ?_
    refine gz_iload_n 11 hC 2 dX10_total_11 rfl rfl ?_
    refine gz_iconst 12 hC (-1 : Int32) dX10_total_12 gz_km1 ?_
    refine gz_cvP (st := []) 13 hC hX [.int a1, .int a2, .int (-1 : Int32)] Value.int yl_X10_totalOf yv_X10_totalOf q_1391 ⟨Nat.le_of_ble_eq_true rfl, Nat.le_of_ble_eq_true rfl⟩ ⟨_, rfl⟩ (fun r h => ct_X10_totalOf _ _ fu M a0 a1 a2 (-1 : Int32) r h) rfl rfl (Nat.le_of_ble_eq_true rfl) dX10_total_13 gz_00 hF (fun x2 hF => ?_)
    refine gz_goto 16 25 hC dX10_total_16 (by decide) ?_
    refine gz_sub [] [] rfl ?_
    exact hj25 _ _ hF

theorem dX10_out_0 : decode cX10_out 0 = .ok (.aload_n 0, 1) := by decide +kernel
theorem dX10_out_1 : decode cX10_out 1 = .ok (.iload_n 1, 1) := by decide +kernel
theorem dX10_out_2 : decode cX10_out 2 = .ok (.iload_n 2, 1) := by decide +kernel
theorem dX10_out_3 : decode cX10_out 3 = .ok (.invokevirtual 239, 3) := by decide +kernel
theorem dX10_out_6 : decode cX10_out 6 = .ok (.ifCond .ne 10, 3) := by decide +kernel
theorem dX10_out_9 : decode cX10_out 9 = .ok (.aload_n 0, 1) := by decide +kernel
theorem dX10_out_10 : decode cX10_out 10 = .ok (.bipush (-2), 2) := by decide +kernel
theorem dX10_out_12 : decode cX10_out 12 = .ok (.invokevirtual 97, 3) := by decide +kernel
theorem dX10_out_15 : decode cX10_out 15 = .ok (.ireturn, 1) := by decide +kernel
theorem dX10_out_16 : decode cX10_out 16 = .ok (.iconst 0, 1) := by decide +kernel
theorem dX10_out_17 : decode cX10_out 17 = .ok (.istore_n 3, 1) := by decide +kernel
theorem dX10_out_18 : decode cX10_out 18 = .ok (.iconst 0, 1) := by decide +kernel
theorem dX10_out_19 : decode cX10_out 19 = .ok (.istore 4, 2) := by decide +kernel
theorem dX10_out_21 : decode cX10_out 21 = .ok (.iload 4, 2) := by decide +kernel
theorem dX10_out_23 : decode cX10_out 23 = .ok (.aload_n 0, 1) := by decide +kernel
theorem dX10_out_24 : decode cX10_out 24 = .ok (.iload_n 1, 1) := by decide +kernel
theorem dX10_out_25 : decode cX10_out 25 = .ok (.invokevirtual 81, 3) := by decide +kernel
theorem dX10_out_28 : decode cX10_out 28 = .ok (.if_icmp .ge 32, 3) := by decide +kernel
theorem dX10_out_31 : decode cX10_out 31 = .ok (.iload_n 3, 1) := by decide +kernel
theorem dX10_out_32 : decode cX10_out 32 = .ok (.aload_n 0, 1) := by decide +kernel
theorem dX10_out_33 : decode cX10_out 33 = .ok (.iload_n 1, 1) := by decide +kernel
theorem dX10_out_34 : decode cX10_out 34 = .ok (.iload 4, 2) := by decide +kernel
theorem dX10_out_36 : decode cX10_out 36 = .ok (.iload_n 2, 1) := by decide +kernel
theorem dX10_out_37 : decode cX10_out 37 = .ok (.invokevirtual 230, 3) := by decide +kernel
theorem dX10_out_40 : decode cX10_out 40 = .ok (.iconst (-1), 1) := by decide +kernel
theorem dX10_out_41 : decode cX10_out 41 = .ok (.if_icmp .ne 10, 3) := by decide +kernel
theorem dX10_out_44 : decode cX10_out 44 = .ok (.iconst 1, 1) := by decide +kernel
theorem dX10_out_45 : decode cX10_out 45 = .ok (.iload 4, 2) := by decide +kernel
theorem dX10_out_47 : decode cX10_out 47 = .ok (.ishl, 1) := by decide +kernel
theorem dX10_out_48 : decode cX10_out 48 = .ok (.goto 4, 3) := by decide +kernel
theorem dX10_out_51 : decode cX10_out 51 = .ok (.iconst 0, 1) := by decide +kernel
theorem dX10_out_52 : decode cX10_out 52 = .ok (.ior, 1) := by decide +kernel
theorem dX10_out_53 : decode cX10_out 53 = .ok (.istore_n 3, 1) := by decide +kernel
theorem dX10_out_54 : decode cX10_out 54 = .ok (.iinc 4 1, 3) := by decide +kernel
theorem dX10_out_57 : decode cX10_out 57 = .ok (.goto (-36), 3) := by decide +kernel
theorem dX10_out_60 : decode cX10_out 60 = .ok (.iload_n 3, 1) := by decide +kernel
theorem dX10_out_61 : decode cX10_out 61 = .ok (.ireturn, 1) := by decide +kernel
def lp_X10_out_21 (j60 : Int32 → Option (Int32 × gz_M)) (fu : Nat) (M : gz_M) (a0 : Nat) (a1 : Int32) (a2 : Int32) : Nat → Int32 → Int32 → Option (Int32 × gz_M)
  | 0, _, _ => none
  | n21 + 1, x4, x5 =>
    (f_X10_feetOf fu M a0 a1).bind fun x6 =>
    if x6 ≤ x5 then
      j60 x4
    else
      (f_X10_ownOf fu M a0 a1 x5 a2).bind fun x7 =>
      gz_jn (fun (x8 : Int32) =>
      lp_X10_out_21 j60 fu M a0 a1 a2 n21 (x4 ||| x8) (x5 + (1 : Int32))) fun j52 =>
      if x7 = (-1 : Int32) then
        j52 ((1 : Int32) <<< (x5 &&& 31))
      else
        j52 (0 : Int32)
def f_X10_out (fu : Nat) (M : gz_M) (a0 : Nat) (a1 : Int32) (a2 : Int32) : Option (Int32 × gz_M) :=
  gz_gd M 10 a0 <|
  (f_X10_isSet fu M a0 a1 a2).bind fun x1 =>
  if x1 = 0 then
    gz_b2 (f_X10_refuse fu M a0 (-2 : Int32)) fun x2 M3 =>
    some (x2, M3)
  else
    lp_X10_out_21 (fun (x9 : Int32) => some (x9, M)) fu M a0 a1 a2 fu (0 : Int32) (0 : Int32)
set_option maxHeartbeats 4000000 in
theorem w_X10_out_21 {C : gz_C} {y : Int32 × gz_M} {fu : Nat} {M : gz_M} {a0 : Nat} {a1 : Int32} {a2 : Int32} {j60 : Int32 → Option (Int32 × gz_M)} (hC : gz_ok C cX10_out RX10 5) (hX : gz_cx C 3 83 0 0 (some .int) (some (.int y.1)) y.2 "out") (hj60 : ∀ (x9 : Int32), j60 x9 = some y → gz_go C 0 0 M [(3, .int x9)] 60 []) : ∀ (n : Nat) (x4 : Int32) (x5 : Int32), lp_X10_out_21 j60 fu M a0 a1 a2 n x4 x5 = some y → gz_go C 0 0 M [(0, .ref a0), (1, .int a1), (2, .int a2), (3, .int x4), (4, .int x5)] 21 [] := by
  intro n
  induction n with
  | zero => intro x4 x5 hF; exact nomatch (show (none : Option (Int32 × gz_M)) = some y from hF)
  | succ n21 ih21 =>
    intro x4 x5 hF
    rw [lp_X10_out_21.eq_2] at hF
    refine gz_iload 21 hC 4 dX10_out_21 rfl ?_
    refine gz_aload_n 23 hC 0 dX10_out_23 rfl rfl ?_
    refine gz_iload_n 24 hC 1 dX10_out_24 rfl rfl ?_
    refine gz_cvP (st := [.int x5]) 25 hC hX [.int a1] Value.int yl_X10_feetOf yv_X10_feetOf q_1221 ⟨Nat.le_of_ble_eq_true rfl, Nat.le_of_ble_eq_true rfl⟩ ⟨_, rfl⟩ (fun r h => ct_X10_feetOf _ _ fu M a0 a1 r h) rfl rfl (Nat.le_of_ble_eq_true rfl) dX10_out_25 gz_00 hF (fun x6 hF => ?_)
    refine gz_icmp_ge 28 60 hC dX10_out_28 (by decide) hF (fun hF => ?_) (fun hF => ?_)
    · skip
      refine gz_sub [3] [(3, .int x4)] rfl ?_
      exact hj60 _ hF
    · skip
      refine gz_iload_n 31 hC 3 dX10_out_31 rfl rfl ?_
      refine gz_aload_n 32 hC 0 dX10_out_32 rfl rfl ?_
      refine gz_iload_n 33 hC 1 dX10_out_33 rfl rfl ?_
      refine gz_iload 34 hC 4 dX10_out_34 rfl ?_
      refine gz_iload_n 36 hC 2 dX10_out_36 rfl rfl ?_
      refine gz_cvP (st := [.int x4]) 37 hC hX [.int a1, .int x5, .int a2] Value.int yl_X10_ownOf yv_X10_ownOf q_1383 ⟨Nat.le_of_ble_eq_true rfl, Nat.le_of_ble_eq_true rfl⟩ ⟨_, rfl⟩ (fun r h => ct_X10_ownOf _ _ fu M a0 a1 x5 a2 r h) rfl rfl (Nat.le_of_ble_eq_true rfl) dX10_out_37 gz_00 hF (fun x7 hF => ?_)
      refine gz_iconst 40 hC (-1 : Int32) dX10_out_40 gz_km1 ?_
      refine gz_join (fun (j : Int32 → Option (Int32 × gz_M)) => ∀ (x8 : Int32), j x8 = some y → gz_go C 0 0 M [(0, .ref a0), (1, .int a1), (2, .int a2), (4, .int x5)] 52 [.int x8, .int x4]) hF (fun x8 hF => ?_) (fun j52 hj52 hF => ?_)
      · skip
        refine gz_ior 52 hC dX10_out_52 ?_
        refine gz_istore_n 53 hC [(3, .int (x4 ||| x8)), (0, .ref a0), (1, .int a1), (2, .int a2), (4, .int x5)] dX10_out_53 rfl (by decide) rfl ?_
        refine gz_iinc 54 hC (x5 + (1 : Int32)) 4 [(4, .int (x5 + (1 : Int32))), (3, .int (x4 ||| x8)), (0, .ref a0), (1, .int a1), (2, .int a2)] dX10_out_54 rfl rfl (by decide) rfl ?_
        refine gz_goto 57 21 hC dX10_out_57 (by decide) ?_
        refine gz_sub [2, 3, 4, 1, 0] [(0, .ref a0), (1, .int a1), (2, .int a2), (3, .int (x4 ||| x8)), (4, .int (x5 + (1 : Int32)))] rfl ?_
        exact ih21 _ _ hF
      refine gz_icmp_ne 41 51 hC dX10_out_41 (by decide) hF (fun hF => ?_) (fun hF => ?_)
      · skip
        refine gz_iconst 51 hC (0 : Int32) dX10_out_51 gz_k0 ?_
        refine gz_sub [0, 1, 2, 4] [(0, .ref a0), (1, .int a1), (2, .int a2), (4, .int x5)] rfl ?_
        exact hj52 _ hF
      · skip
        refine gz_iconst 44 hC (1 : Int32) dX10_out_44 gz_k1 ?_
        refine gz_iload 45 hC 4 dX10_out_45 rfl ?_
        refine gz_ishl 47 hC dX10_out_47 ?_
        refine gz_goto 48 52 hC dX10_out_48 (by decide) ?_
        refine gz_sub [0, 1, 2, 4] [(0, .ref a0), (1, .int a1), (2, .int a2), (4, .int x5)] rfl ?_
        exact hj52 _ hF
set_option maxHeartbeats 4000000 in
theorem ct_X10_out (l : Launch) (G : gz_G) (fu : Nat) (M : gz_M) (a0 : Nat) (a1 : Int32) (a2 : Int32) (y : Int32 × gz_M) (hF : f_X10_out fu M a0 a1 a2 = some y) : gz_ct l yX10_out cX10_out 5 (some .int) 3 83 0 0 G [.ref a0, .int a1, .int a2] M (some (.int y.1)) y.2 := by
  refine gz_ct.of (by decide) (Nat.le_of_ble_eq_true rfl) (fun C hC hX => ?_)
  unfold f_X10_out at hF
  obtain ⟨-, hF⟩ := gz_gd_some hF
  show gz_go C 0 0 M [(0, .ref a0), (1, .int a1), (2, .int a2)] 0 []
  refine gz_aload_n 0 hC 0 dX10_out_0 rfl rfl ?_
  refine gz_iload_n 1 hC 1 dX10_out_1 rfl rfl ?_
  refine gz_iload_n 2 hC 2 dX10_out_2 rfl rfl ?_
  refine gz_cvP (st := []) 3 hC hX [.int a1, .int a2] Value.int yl_X10_isSet yv_X10_isSet q_1375 ⟨Nat.le_of_ble_eq_true rfl, Nat.le_of_ble_eq_true rfl⟩ ⟨_, rfl⟩ (fun r h => ct_X10_isSet _ _ fu M a0 a1 a2 r h) rfl rfl (Nat.le_of_ble_eq_true rfl) dX10_out_3 gz_00 hF (fun x1 hF => ?_)
  refine gz_if_ne 6 16 hC dX10_out_6 (by decide) hF (fun hF => ?_) (fun hF => ?_)
  · skip
    refine gz_iconst 16 hC (0 : Int32) dX10_out_16 gz_k0 ?_
    refine gz_istore_n 17 hC [(3, .int (0 : Int32)), (0, .ref a0), (1, .int a1), (2, .int a2)] dX10_out_17 rfl (by decide) rfl ?_
    refine gz_iconst 18 hC (0 : Int32) dX10_out_18 gz_k0 ?_
    refine gz_istore 19 hC [(4, .int (0 : Int32)), (3, .int (0 : Int32)), (0, .ref a0), (1, .int a1), (2, .int a2)] dX10_out_19 (by decide) rfl ?_
    refine gz_sub [2, 3, 4, 1, 0] [(0, .ref a0), (1, .int a1), (2, .int a2), (3, .int (0 : Int32)), (4, .int (0 : Int32))] rfl ?_
    refine w_X10_out_21 hC hX ?_ _ _ _ hF
    intro x9 hF
    refine gz_iload_n 60 hC 0 dX10_out_60 rfl rfl ?_
    exact gz_iretM 61 hC hX dX10_out_61 hF
  · skip
    refine gz_aload_n 9 hC 0 dX10_out_9 rfl rfl ?_
    refine gz_bipush 10 hC (-2 : Int32) dX10_out_10 gz_bm2 ?_
    refine gz_cvM (st := []) 12 hC hX [.int (-2 : Int32)] Value.int yl_X10_refuse yv_X10_refuse q_1175 ⟨Nat.le_of_ble_eq_true rfl, Nat.le_of_ble_eq_true rfl⟩ ⟨_, rfl⟩ (fun r h => ct_X10_refuse _ _ fu M a0 (-2 : Int32) r h) rfl rfl (Nat.le_of_ble_eq_true rfl) dX10_out_12 gz_00 hF (fun x2 M3 hF => ?_)
    exact gz_iretM 15 hC hX dX10_out_15 hF

theorem dX10_judge_0 : decode cX10_judge 0 = .ok (.aload_n 0, 1) := by decide +kernel
theorem dX10_judge_1 : decode cX10_judge 1 = .ok (.iload_n 1, 1) := by decide +kernel
theorem dX10_judge_2 : decode cX10_judge 2 = .ok (.iload_n 2, 1) := by decide +kernel
theorem dX10_judge_3 : decode cX10_judge 3 = .ok (.invokevirtual 239, 3) := by decide +kernel
theorem dX10_judge_6 : decode cX10_judge 6 = .ok (.ifCond .eq 15, 3) := by decide +kernel
theorem dX10_judge_9 : decode cX10_judge 9 = .ok (.iload_n 3, 1) := by decide +kernel
theorem dX10_judge_10 : decode cX10_judge 10 = .ok (.i2l, 1) := by decide +kernel
theorem dX10_judge_11 : decode cX10_judge 11 = .ok (.lconst 0, 1) := by decide +kernel
theorem dX10_judge_12 : decode cX10_judge 12 = .ok (.ldc2_w 91, 3) := by decide +kernel
theorem dX10_judge_15 : decode cX10_judge 15 = .ok (.invokestatic 73, 3) := by decide +kernel
theorem dX10_judge_18 : decode cX10_judge 18 = .ok (.ifCond .ne 10, 3) := by decide +kernel
theorem dX10_judge_21 : decode cX10_judge 21 = .ok (.aload_n 0, 1) := by decide +kernel
theorem dX10_judge_22 : decode cX10_judge 22 = .ok (.bipush (-2), 2) := by decide +kernel
theorem dX10_judge_24 : decode cX10_judge 24 = .ok (.invokevirtual 97, 3) := by decide +kernel
theorem dX10_judge_27 : decode cX10_judge 27 = .ok (.ireturn, 1) := by decide +kernel
theorem dX10_judge_28 : decode cX10_judge 28 = .ok (.aload_n 0, 1) := by decide +kernel
theorem dX10_judge_29 : decode cX10_judge 29 = .ok (.getfield 7, 3) := by decide +kernel
theorem dX10_judge_32 : decode cX10_judge 32 = .ok (.iload_n 3, 1) := by decide +kernel
theorem dX10_judge_33 : decode cX10_judge 33 = .ok (.iaload, 1) := by decide +kernel
theorem dX10_judge_34 : decode cX10_judge 34 = .ok (.iconst 2, 1) := by decide +kernel
theorem dX10_judge_35 : decode cX10_judge 35 = .ok (.if_icmp .ne 10, 3) := by decide +kernel
theorem dX10_judge_38 : decode cX10_judge 38 = .ok (.aload_n 0, 1) := by decide +kernel
theorem dX10_judge_39 : decode cX10_judge 39 = .ok (.bipush (-3), 2) := by decide +kernel
theorem dX10_judge_41 : decode cX10_judge 41 = .ok (.invokevirtual 97, 3) := by decide +kernel
theorem dX10_judge_44 : decode cX10_judge 44 = .ok (.ireturn, 1) := by decide +kernel
theorem dX10_judge_45 : decode cX10_judge 45 = .ok (.aload_n 0, 1) := by decide +kernel
theorem dX10_judge_46 : decode cX10_judge 46 = .ok (.getfield 7, 3) := by decide +kernel
theorem dX10_judge_49 : decode cX10_judge 49 = .ok (.iload_n 3, 1) := by decide +kernel
theorem dX10_judge_50 : decode cX10_judge 50 = .ok (.iaload, 1) := by decide +kernel
theorem dX10_judge_51 : decode cX10_judge 51 = .ok (.ifCond .ne 10, 3) := by decide +kernel
theorem dX10_judge_54 : decode cX10_judge 54 = .ok (.aload_n 0, 1) := by decide +kernel
theorem dX10_judge_55 : decode cX10_judge 55 = .ok (.bipush (-4), 2) := by decide +kernel
theorem dX10_judge_57 : decode cX10_judge 57 = .ok (.invokevirtual 97, 3) := by decide +kernel
theorem dX10_judge_60 : decode cX10_judge 60 = .ok (.ireturn, 1) := by decide +kernel
theorem dX10_judge_61 : decode cX10_judge 61 = .ok (.iconst 0, 1) := by decide +kernel
theorem dX10_judge_62 : decode cX10_judge 62 = .ok (.istore 4, 2) := by decide +kernel
theorem dX10_judge_64 : decode cX10_judge 64 = .ok (.iload 4, 2) := by decide +kernel
theorem dX10_judge_66 : decode cX10_judge 66 = .ok (.aload_n 0, 1) := by decide +kernel
theorem dX10_judge_67 : decode cX10_judge 67 = .ok (.iload_n 1, 1) := by decide +kernel
theorem dX10_judge_68 : decode cX10_judge 68 = .ok (.invokevirtual 81, 3) := by decide +kernel
theorem dX10_judge_71 : decode cX10_judge 71 = .ok (.if_icmp .ge 88, 3) := by decide +kernel
theorem dX10_judge_74 : decode cX10_judge 74 = .ok (.iload 4, 2) := by decide +kernel
theorem dX10_judge_76 : decode cX10_judge 76 = .ok (.aload_n 0, 1) := by decide +kernel
theorem dX10_judge_77 : decode cX10_judge 77 = .ok (.getfield 16, 3) := by decide +kernel
theorem dX10_judge_80 : decode cX10_judge 80 = .ok (.iload_n 3, 1) := by decide +kernel
theorem dX10_judge_81 : decode cX10_judge 81 = .ok (.iaload, 1) := by decide +kernel
theorem dX10_judge_82 : decode cX10_judge 82 = .ok (.if_icmp .ge 31, 3) := by decide +kernel
theorem dX10_judge_85 : decode cX10_judge 85 = .ok (.aload_n 0, 1) := by decide +kernel
theorem dX10_judge_86 : decode cX10_judge 86 = .ok (.getfield 21, 3) := by decide +kernel
theorem dX10_judge_89 : decode cX10_judge 89 = .ok (.iload_n 3, 1) := by decide +kernel
theorem dX10_judge_90 : decode cX10_judge 90 = .ok (.aaload, 1) := by decide +kernel
theorem dX10_judge_91 : decode cX10_judge 91 = .ok (.iload 4, 2) := by decide +kernel
theorem dX10_judge_93 : decode cX10_judge 93 = .ok (.laload, 1) := by decide +kernel
theorem dX10_judge_94 : decode cX10_judge 94 = .ok (.lconst 0, 1) := by decide +kernel
theorem dX10_judge_95 : decode cX10_judge 95 = .ok (.aload_n 0, 1) := by decide +kernel
theorem dX10_judge_96 : decode cX10_judge 96 = .ok (.iload_n 1, 1) := by decide +kernel
theorem dX10_judge_97 : decode cX10_judge 97 = .ok (.invokevirtual 85, 3) := by decide +kernel
theorem dX10_judge_100 : decode cX10_judge 100 = .ok (.iconst 1, 1) := by decide +kernel
theorem dX10_judge_101 : decode cX10_judge 101 = .ok (.isub, 1) := by decide +kernel
theorem dX10_judge_102 : decode cX10_judge 102 = .ok (.i2l, 1) := by decide +kernel
theorem dX10_judge_103 : decode cX10_judge 103 = .ok (.invokestatic 73, 3) := by decide +kernel
theorem dX10_judge_106 : decode cX10_judge 106 = .ok (.ifCond .eq 7, 3) := by decide +kernel
theorem dX10_judge_109 : decode cX10_judge 109 = .ok (.iconst 1, 1) := by decide +kernel
theorem dX10_judge_110 : decode cX10_judge 110 = .ok (.goto 4, 3) := by decide +kernel
theorem dX10_judge_113 : decode cX10_judge 113 = .ok (.iconst 0, 1) := by decide +kernel
theorem dX10_judge_114 : decode cX10_judge 114 = .ok (.istore 5, 2) := by decide +kernel
theorem dX10_judge_116 : decode cX10_judge 116 = .ok (.iload 5, 2) := by decide +kernel
theorem dX10_judge_118 : decode cX10_judge 118 = .ok (.ifCond .eq 16, 3) := by decide +kernel
theorem dX10_judge_121 : decode cX10_judge 121 = .ok (.aload_n 0, 1) := by decide +kernel
theorem dX10_judge_122 : decode cX10_judge 122 = .ok (.getfield 21, 3) := by decide +kernel
theorem dX10_judge_125 : decode cX10_judge 125 = .ok (.iload_n 3, 1) := by decide +kernel
theorem dX10_judge_126 : decode cX10_judge 126 = .ok (.aaload, 1) := by decide +kernel
theorem dX10_judge_127 : decode cX10_judge 127 = .ok (.iload 4, 2) := by decide +kernel
theorem dX10_judge_129 : decode cX10_judge 129 = .ok (.laload, 1) := by decide +kernel
theorem dX10_judge_130 : decode cX10_judge 130 = .ok (.l2i, 1) := by decide +kernel
theorem dX10_judge_131 : decode cX10_judge 131 = .ok (.goto 4, 3) := by decide +kernel
theorem dX10_judge_134 : decode cX10_judge 134 = .ok (.iconst (-1), 1) := by decide +kernel
theorem dX10_judge_135 : decode cX10_judge 135 = .ok (.istore 6, 2) := by decide +kernel
theorem dX10_judge_137 : decode cX10_judge 137 = .ok (.iload 6, 2) := by decide +kernel
theorem dX10_judge_139 : decode cX10_judge 139 = .ok (.aload_n 0, 1) := by decide +kernel
theorem dX10_judge_140 : decode cX10_judge 140 = .ok (.iload_n 1, 1) := by decide +kernel
theorem dX10_judge_141 : decode cX10_judge 141 = .ok (.iload 4, 2) := by decide +kernel
theorem dX10_judge_143 : decode cX10_judge 143 = .ok (.iload_n 2, 1) := by decide +kernel
theorem dX10_judge_144 : decode cX10_judge 144 = .ok (.invokevirtual 230, 3) := by decide +kernel
theorem dX10_judge_147 : decode cX10_judge 147 = .ok (.if_icmp .eq 6, 3) := by decide +kernel
theorem dX10_judge_150 : decode cX10_judge 150 = .ok (.iload 4, 2) := by decide +kernel
theorem dX10_judge_152 : decode cX10_judge 152 = .ok (.ireturn, 1) := by decide +kernel
theorem dX10_judge_153 : decode cX10_judge 153 = .ok (.iinc 4 1, 3) := by decide +kernel
theorem dX10_judge_156 : decode cX10_judge 156 = .ok (.goto (-92), 3) := by decide +kernel
theorem dX10_judge_159 : decode cX10_judge 159 = .ok (.iconst (-1), 1) := by decide +kernel
theorem dX10_judge_160 : decode cX10_judge 160 = .ok (.ireturn, 1) := by decide +kernel
def lp_X10_judge_64 (j159 : Option (Int32 × gz_M)) (fu : Nat) (M : gz_M) (a0 : Nat) (a1 : Int32) (a2 : Int32) (a3 : Int32) : Nat → Int32 → Option (Int32 × gz_M)
  | 0, _ => none
  | n64 + 1, x11 =>
    (f_X10_feetOf fu M a0 a1).bind fun x12 =>
    if x12 ≤ x11 then
      j159
    else
      (gz_gR M 10 2 a0).bind fun x13 =>
      (gz_aI M x13 a3).bind fun x14 =>
      gz_jn (fun (x20 : Int32) =>
      gz_jn (fun (x24 : Int32) =>
        (f_X10_ownOf fu M a0 a1 x11 a2).bind fun x25 =>
          if x24 = x25 then
            lp_X10_judge_64 j159 fu M a0 a1 a2 a3 n64 (x11 + (1 : Int32))
          else
            some (x11, M)) fun j135 =>
        if x20 = 0 then
          j135 (-1 : Int32)
        else
          (gz_gR M 10 3 a0).bind fun x21 =>
          (gz_aR M x21 a3).bind fun x22 =>
          (gz_aL M x22 x11).bind fun x23 =>
          j135 (x23).toInt32) fun j114 =>
      gz_jn (j114 (0 : Int32)) fun j113 =>
      if x14 ≤ x11 then
        j113
      else
        (gz_gR M 10 3 a0).bind fun x15 =>
        (gz_aR M x15 a3).bind fun x16 =>
        (gz_aL M x16 x11).bind fun x17 =>
        (f_X10_lastsOf fu M a0 a1).bind fun x18 =>
        (f_X10_in fu M x17 (0 : Int64) ((x18 - (1 : Int32))).toInt64).bind fun x19 =>
        if x19 = 0 then
          j113
        else
          j114 (1 : Int32)
def f_X10_judge (fu : Nat) (M : gz_M) (a0 : Nat) (a1 : Int32) (a2 : Int32) (a3 : Int32) : Option (Int32 × gz_M) :=
  gz_gd M 10 a0 <|
  (f_X10_isSet fu M a0 a1 a2).bind fun x1 =>
  gz_jn (gz_b2 (f_X10_refuse fu M a0 (-2 : Int32)) fun x26 M27 =>
    some (x26, M27)) fun j21 =>
  if x1 = 0 then
    j21
  else
    (f_X10_in fu M (a3).toInt64 (0 : Int64) (7 : Int64)).bind fun x2 =>
    if x2 = 0 then
      j21
    else
      (gz_gR M 10 0 a0).bind fun x3 =>
      (gz_aI M x3 a3).bind fun x4 =>
      if x4 = (2 : Int32) then
        gz_b2 (f_X10_refuse fu M a0 (-3 : Int32)) fun x5 M6 =>
        some (x5, M6)
      else
        (gz_gR M 10 0 a0).bind fun x7 =>
        (gz_aI M x7 a3).bind fun x8 =>
        if x8 = 0 then
          gz_b2 (f_X10_refuse fu M a0 (-4 : Int32)) fun x9 M10 =>
          some (x9, M10)
        else
          lp_X10_judge_64 (some ((-1 : Int32), M)) fu M a0 a1 a2 a3 fu (0 : Int32)
set_option maxHeartbeats 4000000 in
theorem w_X10_judge_64 {C : gz_C} {y : Int32 × gz_M} {fu : Nat} {M : gz_M} {a0 : Nat} {a1 : Int32} {a2 : Int32} {a3 : Int32} {j159 : Option (Int32 × gz_M)} (hC : gz_ok C cX10_judge RX10 7) (hX : gz_cx C 3 83 0 0 (some .int) (some (.int y.1)) y.2 "judge") (hj159 : j159 = some y → gz_go C 0 0 M [] 159 []) : ∀ (n : Nat) (x11 : Int32), lp_X10_judge_64 j159 fu M a0 a1 a2 a3 n x11 = some y → gz_go C 0 0 M [(0, .ref a0), (1, .int a1), (2, .int a2), (3, .int a3), (4, .int x11)] 64 [] := by
  intro n
  induction n with
  | zero => intro x11 hF; exact nomatch (show (none : Option (Int32 × gz_M)) = some y from hF)
  | succ n64 ih64 =>
    intro x11 hF
    rw [lp_X10_judge_64.eq_2] at hF
    refine gz_iload 64 hC 4 dX10_judge_64 rfl ?_
    refine gz_aload_n 66 hC 0 dX10_judge_66 rfl rfl ?_
    refine gz_iload_n 67 hC 1 dX10_judge_67 rfl rfl ?_
    refine gz_cvP (st := [.int x11]) 68 hC hX [.int a1] Value.int yl_X10_feetOf yv_X10_feetOf q_1221 ⟨Nat.le_of_ble_eq_true rfl, Nat.le_of_ble_eq_true rfl⟩ ⟨_, rfl⟩ (fun r h => ct_X10_feetOf _ _ fu M a0 a1 r h) rfl rfl (Nat.le_of_ble_eq_true rfl) dX10_judge_68 gz_00 hF (fun x12 hF => ?_)
    refine gz_icmp_ge 71 159 hC dX10_judge_71 (by decide) hF (fun hF => ?_) (fun hF => ?_)
    · skip
      refine gz_sub [] [] rfl ?_
      exact hj159 hF
    · skip
      refine gz_iload 74 hC 4 dX10_judge_74 rfl ?_
      refine gz_aload_n 76 hC 0 dX10_judge_76 rfl rfl ?_
      refine gz_getR 77 hC fl_X10_16 fk_10_2 dX10_judge_77 hF (fun x13 hF => ?_)
      refine gz_iload_n 80 hC 3 dX10_judge_80 rfl rfl ?_
      refine gz_iald 81 hC dX10_judge_81 hF (fun x14 hF => ?_)
      refine gz_join (fun (j : Int32 → Option (Int32 × gz_M)) => ∀ (x20 : Int32), j x20 = some y → gz_go C 0 0 M [(0, .ref a0), (1, .int a1), (2, .int a2), (3, .int a3), (4, .int x11)] 114 [.int x20]) hF (fun x20 hF => ?_) (fun j114 hj114 hF => ?_)
      · skip
        refine gz_istore 114 hC [(5, .int x20), (0, .ref a0), (1, .int a1), (2, .int a2), (3, .int a3), (4, .int x11)] dX10_judge_114 (by decide) rfl ?_
        refine gz_iload 116 hC 0 dX10_judge_116 rfl ?_
        refine gz_join (fun (j : Int32 → Option (Int32 × gz_M)) => ∀ (x24 : Int32), j x24 = some y → gz_go C 0 0 M [(0, .ref a0), (1, .int a1), (2, .int a2), (3, .int a3), (4, .int x11)] 135 [.int x24]) hF (fun x24 hF => ?_) (fun j135 hj135 hF => ?_)
        · skip
          refine gz_istore 135 hC [(6, .int x24), (0, .ref a0), (1, .int a1), (2, .int a2), (3, .int a3), (4, .int x11)] dX10_judge_135 (by decide) rfl ?_
          refine gz_iload 137 hC 0 dX10_judge_137 rfl ?_
          refine gz_aload_n 139 hC 1 dX10_judge_139 rfl rfl ?_
          refine gz_iload_n 140 hC 2 dX10_judge_140 rfl rfl ?_
          refine gz_iload 141 hC 5 dX10_judge_141 rfl ?_
          refine gz_iload_n 143 hC 3 dX10_judge_143 rfl rfl ?_
          refine gz_cvP (st := [.int x24]) 144 hC hX [.int a1, .int x11, .int a2] Value.int yl_X10_ownOf yv_X10_ownOf q_1383 ⟨Nat.le_of_ble_eq_true rfl, Nat.le_of_ble_eq_true rfl⟩ ⟨_, rfl⟩ (fun r h => ct_X10_ownOf _ _ fu M a0 a1 x11 a2 r h) rfl rfl (Nat.le_of_ble_eq_true rfl) dX10_judge_144 gz_00 hF (fun x25 hF => ?_)
          refine gz_icmp_eq 147 153 hC dX10_judge_147 (by decide) hF (fun hF => ?_) (fun hF => ?_)
          · skip
            refine gz_iinc 153 hC (x11 + (1 : Int32)) 5 [(4, .int (x11 + (1 : Int32))), (6, .int x24), (0, .ref a0), (1, .int a1), (2, .int a2), (3, .int a3)] dX10_judge_153 rfl rfl (by decide) rfl ?_
            refine gz_goto 156 64 hC dX10_judge_156 (by decide) ?_
            refine gz_sub [2, 3, 4, 5, 0] [(0, .ref a0), (1, .int a1), (2, .int a2), (3, .int a3), (4, .int (x11 + (1 : Int32)))] rfl ?_
            exact ih64 _ hF
          · skip
            refine gz_iload 150 hC 5 dX10_judge_150 rfl ?_
            exact gz_iretM 152 hC hX dX10_judge_152 hF
        refine gz_if_eq 118 134 hC dX10_judge_118 (by decide) hF (fun hF => ?_) (fun hF => ?_)
        · skip
          refine gz_iconst 134 hC (-1 : Int32) dX10_judge_134 gz_km1 ?_
          refine gz_sub [1, 2, 3, 4, 5] [(0, .ref a0), (1, .int a1), (2, .int a2), (3, .int a3), (4, .int x11)] rfl ?_
          exact hj135 _ hF
        · skip
          refine gz_aload_n 121 hC 1 dX10_judge_121 rfl rfl ?_
          refine gz_getR 122 hC fl_X10_21 fk_10_3 dX10_judge_122 hF (fun x21 hF => ?_)
          refine gz_iload_n 125 hC 4 dX10_judge_125 rfl rfl ?_
          refine gz_aald 126 hC dX10_judge_126 hF (fun x22 hF => ?_)
          refine gz_iload 127 hC 5 dX10_judge_127 rfl ?_
          refine gz_lald 129 hC dX10_judge_129 hF (fun x23 hF => ?_)
          refine gz_l2i 130 hC dX10_judge_130 ?_
          refine gz_goto 131 135 hC dX10_judge_131 (by decide) ?_
          refine gz_sub [1, 2, 3, 4, 5] [(0, .ref a0), (1, .int a1), (2, .int a2), (3, .int a3), (4, .int x11)] rfl ?_
          exact hj135 _ hF
      refine gz_join (fun (j : Option (Int32 × gz_M)) => j = some y → gz_go C 0 0 M [(0, .ref a0), (1, .int a1), (2, .int a2), (3, .int a3), (4, .int x11)] 113 []) hF (fun hF => ?_) (fun j113 hj113 hF => ?_)
      · skip
        refine gz_iconst 113 hC (0 : Int32) dX10_judge_113 gz_k0 ?_
        exact hj114 _ hF
      refine gz_icmp_ge 82 113 hC dX10_judge_82 (by decide) hF (fun hF => ?_) (fun hF => ?_)
      · skip
        exact hj113 hF
      · skip
        refine gz_aload_n 85 hC 0 dX10_judge_85 rfl rfl ?_
        refine gz_getR 86 hC fl_X10_21 fk_10_3 dX10_judge_86 hF (fun x15 hF => ?_)
        refine gz_iload_n 89 hC 3 dX10_judge_89 rfl rfl ?_
        refine gz_aald 90 hC dX10_judge_90 hF (fun x16 hF => ?_)
        refine gz_iload 91 hC 4 dX10_judge_91 rfl ?_
        refine gz_lald 93 hC dX10_judge_93 hF (fun x17 hF => ?_)
        refine gz_lconst 94 hC (0 : Int64) dX10_judge_94 gz_l0 ?_
        refine gz_aload_n 95 hC 0 dX10_judge_95 rfl rfl ?_
        refine gz_iload_n 96 hC 1 dX10_judge_96 rfl rfl ?_
        refine gz_cvP (st := [.long (0 : Int64), .long x17]) 97 hC hX [.int a1] Value.int yl_X10_lastsOf yv_X10_lastsOf q_1229 ⟨Nat.le_of_ble_eq_true rfl, Nat.le_of_ble_eq_true rfl⟩ ⟨_, rfl⟩ (fun r h => ct_X10_lastsOf _ _ fu M a0 a1 r h) rfl rfl (Nat.le_of_ble_eq_true rfl) dX10_judge_97 gz_00 hF (fun x18 hF => ?_)
        refine gz_iconst 100 hC (1 : Int32) dX10_judge_100 gz_k1 ?_
        refine gz_isub 101 hC dX10_judge_101 ?_
        refine gz_i2l 102 hC dX10_judge_102 ?_
        refine gz_csP (st := []) 103 hC hX [.long x17, .long (0 : Int64), .long ((x18 - (1 : Int32))).toInt64] Value.int yl_X10_in yv_X10_in q_1170 ⟨Nat.le_of_ble_eq_true rfl, Nat.le_of_ble_eq_true rfl⟩ (fun r h => ct_X10_in _ _ fu M x17 (0 : Int64) ((x18 - (1 : Int32))).toInt64 r h) rfl rfl (Nat.le_of_ble_eq_true rfl) dX10_judge_103 gz_00 hF (fun x19 hF => ?_)
        refine gz_if_eq 106 113 hC dX10_judge_106 (by decide) hF (fun hF => ?_) (fun hF => ?_)
        · skip
          exact hj113 hF
        · skip
          refine gz_iconst 109 hC (1 : Int32) dX10_judge_109 gz_k1 ?_
          refine gz_goto 110 114 hC dX10_judge_110 (by decide) ?_
          exact hj114 _ hF
set_option maxHeartbeats 4000000 in
theorem ct_X10_judge (l : Launch) (G : gz_G) (fu : Nat) (M : gz_M) (a0 : Nat) (a1 : Int32) (a2 : Int32) (a3 : Int32) (y : Int32 × gz_M) (hF : f_X10_judge fu M a0 a1 a2 a3 = some y) : gz_ct l yX10_judge cX10_judge 7 (some .int) 3 83 0 0 G [.ref a0, .int a1, .int a2, .int a3] M (some (.int y.1)) y.2 := by
  refine gz_ct.of (by decide) (Nat.le_of_ble_eq_true rfl) (fun C hC hX => ?_)
  unfold f_X10_judge at hF
  obtain ⟨-, hF⟩ := gz_gd_some hF
  show gz_go C 0 0 M [(0, .ref a0), (1, .int a1), (2, .int a2), (3, .int a3)] 0 []
  refine gz_aload_n 0 hC 0 dX10_judge_0 rfl rfl ?_
  refine gz_iload_n 1 hC 1 dX10_judge_1 rfl rfl ?_
  refine gz_iload_n 2 hC 2 dX10_judge_2 rfl rfl ?_
  refine gz_cvP (st := []) 3 hC hX [.int a1, .int a2] Value.int yl_X10_isSet yv_X10_isSet q_1375 ⟨Nat.le_of_ble_eq_true rfl, Nat.le_of_ble_eq_true rfl⟩ ⟨_, rfl⟩ (fun r h => ct_X10_isSet _ _ fu M a0 a1 a2 r h) rfl rfl (Nat.le_of_ble_eq_true rfl) dX10_judge_3 gz_00 hF (fun x1 hF => ?_)
  refine gz_join (fun (j : Option (Int32 × gz_M)) => j = some y → gz_go C 0 0 M [(0, .ref a0)] 21 []) hF (fun hF => ?_) (fun j21 hj21 hF => ?_)
  · skip
    refine gz_aload_n 21 hC 0 dX10_judge_21 rfl rfl ?_
    refine gz_bipush 22 hC (-2 : Int32) dX10_judge_22 gz_bm2 ?_
    refine gz_cvM (st := []) 24 hC hX [.int (-2 : Int32)] Value.int yl_X10_refuse yv_X10_refuse q_1175 ⟨Nat.le_of_ble_eq_true rfl, Nat.le_of_ble_eq_true rfl⟩ ⟨_, rfl⟩ (fun r h => ct_X10_refuse _ _ fu M a0 (-2 : Int32) r h) rfl rfl (Nat.le_of_ble_eq_true rfl) dX10_judge_24 gz_00 hF (fun x26 M27 hF => ?_)
    exact gz_iretM 27 hC hX dX10_judge_27 hF
  refine gz_if_eq 6 21 hC dX10_judge_6 (by decide) hF (fun hF => ?_) (fun hF => ?_)
  · skip
    refine gz_sub [0] [(0, .ref a0)] rfl ?_
    exact hj21 hF
  · skip
    refine gz_iload_n 9 hC 3 dX10_judge_9 rfl rfl ?_
    refine gz_i2l 10 hC dX10_judge_10 ?_
    refine gz_lconst 11 hC (0 : Int64) dX10_judge_11 gz_l0 ?_
    refine gz_ldc2 12 hC dX10_judge_12 q_1169 ?_
    refine gz_csP (st := []) 15 hC hX [.long (a3).toInt64, .long (0 : Int64), .long (7 : Int64)] Value.int yl_X10_in yv_X10_in q_1170 ⟨Nat.le_of_ble_eq_true rfl, Nat.le_of_ble_eq_true rfl⟩ (fun r h => ct_X10_in _ _ fu M (a3).toInt64 (0 : Int64) (7 : Int64) r h) rfl rfl (Nat.le_of_ble_eq_true rfl) dX10_judge_15 gz_00 hF (fun x2 hF => ?_)
    refine gz_if_ne 18 28 hC dX10_judge_18 (by decide) hF (fun hF => ?_) (fun hF => ?_)
    · skip
      refine gz_aload_n 28 hC 0 dX10_judge_28 rfl rfl ?_
      refine gz_getR 29 hC fl_X10_7 fk_10_0 dX10_judge_29 hF (fun x3 hF => ?_)
      refine gz_iload_n 32 hC 3 dX10_judge_32 rfl rfl ?_
      refine gz_iald 33 hC dX10_judge_33 hF (fun x4 hF => ?_)
      refine gz_iconst 34 hC (2 : Int32) dX10_judge_34 gz_k2 ?_
      refine gz_icmp_ne 35 45 hC dX10_judge_35 (by decide) hF (fun hF => ?_) (fun hF => ?_)
      · skip
        refine gz_aload_n 45 hC 0 dX10_judge_45 rfl rfl ?_
        refine gz_getR 46 hC fl_X10_7 fk_10_0 dX10_judge_46 hF (fun x7 hF => ?_)
        refine gz_iload_n 49 hC 3 dX10_judge_49 rfl rfl ?_
        refine gz_iald 50 hC dX10_judge_50 hF (fun x8 hF => ?_)
        refine gz_if_ne 51 61 hC dX10_judge_51 (by decide) hF (fun hF => ?_) (fun hF => ?_)
        · skip
          refine gz_iconst 61 hC (0 : Int32) dX10_judge_61 gz_k0 ?_
          refine gz_istore 62 hC [(4, .int (0 : Int32)), (0, .ref a0), (1, .int a1), (2, .int a2), (3, .int a3)] dX10_judge_62 (by decide) rfl ?_
          refine gz_sub [1, 2, 3, 4, 0] [(0, .ref a0), (1, .int a1), (2, .int a2), (3, .int a3), (4, .int (0 : Int32))] rfl ?_
          refine w_X10_judge_64 hC hX ?_ _ _ hF
          intro hF
          refine gz_iconst 159 hC (-1 : Int32) dX10_judge_159 gz_km1 ?_
          exact gz_iretM 160 hC hX dX10_judge_160 hF
        · skip
          refine gz_aload_n 54 hC 0 dX10_judge_54 rfl rfl ?_
          refine gz_bipush 55 hC (-4 : Int32) dX10_judge_55 gz_bm4 ?_
          refine gz_cvM (st := []) 57 hC hX [.int (-4 : Int32)] Value.int yl_X10_refuse yv_X10_refuse q_1175 ⟨Nat.le_of_ble_eq_true rfl, Nat.le_of_ble_eq_true rfl⟩ ⟨_, rfl⟩ (fun r h => ct_X10_refuse _ _ fu M a0 (-4 : Int32) r h) rfl rfl (Nat.le_of_ble_eq_true rfl) dX10_judge_57 gz_00 hF (fun x9 M10 hF => ?_)
          exact gz_iretM 60 hC hX dX10_judge_60 hF
      · skip
        refine gz_aload_n 38 hC 0 dX10_judge_38 rfl rfl ?_
        refine gz_bipush 39 hC (-3 : Int32) dX10_judge_39 gz_bm3 ?_
        refine gz_cvM (st := []) 41 hC hX [.int (-3 : Int32)] Value.int yl_X10_refuse yv_X10_refuse q_1175 ⟨Nat.le_of_ble_eq_true rfl, Nat.le_of_ble_eq_true rfl⟩ ⟨_, rfl⟩ (fun r h => ct_X10_refuse _ _ fu M a0 (-3 : Int32) r h) rfl rfl (Nat.le_of_ble_eq_true rfl) dX10_judge_41 gz_00 hF (fun x5 M6 hF => ?_)
        exact gz_iretM 44 hC hX dX10_judge_44 hF
    · skip
      refine gz_sub [0] [(0, .ref a0)] rfl ?_
      exact hj21 hF

theorem dX10_bestOf_0 : decode cX10_bestOf 0 = .ok (.iconst (-1), 1) := by decide +kernel
theorem dX10_bestOf_1 : decode cX10_bestOf 1 = .ok (.istore 4, 2) := by decide +kernel
theorem dX10_bestOf_3 : decode cX10_bestOf 3 = .ok (.iconst 0, 1) := by decide +kernel
theorem dX10_bestOf_4 : decode cX10_bestOf 4 = .ok (.istore 5, 2) := by decide +kernel
theorem dX10_bestOf_6 : decode cX10_bestOf 6 = .ok (.iconst 0, 1) := by decide +kernel
theorem dX10_bestOf_7 : decode cX10_bestOf 7 = .ok (.istore 6, 2) := by decide +kernel
theorem dX10_bestOf_9 : decode cX10_bestOf 9 = .ok (.iload 6, 2) := by decide +kernel
theorem dX10_bestOf_11 : decode cX10_bestOf 11 = .ok (.aload_n 0, 1) := by decide +kernel
theorem dX10_bestOf_12 : decode cX10_bestOf 12 = .ok (.iload_n 1, 1) := by decide +kernel
theorem dX10_bestOf_13 : decode cX10_bestOf 13 = .ok (.invokevirtual 88, 3) := by decide +kernel
theorem dX10_bestOf_16 : decode cX10_bestOf 16 = .ok (.if_icmp .gt 49, 3) := by decide +kernel
theorem dX10_bestOf_19 : decode cX10_bestOf 19 = .ok (.iload 6, 2) := by decide +kernel
theorem dX10_bestOf_21 : decode cX10_bestOf 21 = .ok (.invokestatic 245, 3) := by decide +kernel
theorem dX10_bestOf_24 : decode cX10_bestOf 24 = .ok (.iload_n 2, 1) := by decide +kernel
theorem dX10_bestOf_25 : decode cX10_bestOf 25 = .ok (.if_icmp .gt 34, 3) := by decide +kernel
theorem dX10_bestOf_28 : decode cX10_bestOf 28 = .ok (.aload_n 0, 1) := by decide +kernel
theorem dX10_bestOf_29 : decode cX10_bestOf 29 = .ok (.iload_n 1, 1) := by decide +kernel
theorem dX10_bestOf_30 : decode cX10_bestOf 30 = .ok (.iload 6, 2) := by decide +kernel
theorem dX10_bestOf_32 : decode cX10_bestOf 32 = .ok (.iload_n 3, 1) := by decide +kernel
theorem dX10_bestOf_33 : decode cX10_bestOf 33 = .ok (.invokevirtual 242, 3) := by decide +kernel
theorem dX10_bestOf_36 : decode cX10_bestOf 36 = .ok (.istore 7, 2) := by decide +kernel
theorem dX10_bestOf_38 : decode cX10_bestOf 38 = .ok (.iload 4, 2) := by decide +kernel
theorem dX10_bestOf_40 : decode cX10_bestOf 40 = .ok (.iconst (-1), 1) := by decide +kernel
theorem dX10_bestOf_41 : decode cX10_bestOf 41 = .ok (.if_icmp .eq 10, 3) := by decide +kernel
theorem dX10_bestOf_44 : decode cX10_bestOf 44 = .ok (.iload 7, 2) := by decide +kernel
theorem dX10_bestOf_46 : decode cX10_bestOf 46 = .ok (.iload 5, 2) := by decide +kernel
theorem dX10_bestOf_48 : decode cX10_bestOf 48 = .ok (.if_icmp .ge 11, 3) := by decide +kernel
theorem dX10_bestOf_51 : decode cX10_bestOf 51 = .ok (.iload 6, 2) := by decide +kernel
theorem dX10_bestOf_53 : decode cX10_bestOf 53 = .ok (.istore 4, 2) := by decide +kernel
theorem dX10_bestOf_55 : decode cX10_bestOf 55 = .ok (.iload 7, 2) := by decide +kernel
theorem dX10_bestOf_57 : decode cX10_bestOf 57 = .ok (.istore 5, 2) := by decide +kernel
theorem dX10_bestOf_59 : decode cX10_bestOf 59 = .ok (.iinc 6 1, 3) := by decide +kernel
theorem dX10_bestOf_62 : decode cX10_bestOf 62 = .ok (.goto (-53), 3) := by decide +kernel
theorem dX10_bestOf_65 : decode cX10_bestOf 65 = .ok (.iload 4, 2) := by decide +kernel
theorem dX10_bestOf_67 : decode cX10_bestOf 67 = .ok (.ireturn, 1) := by decide +kernel
def lp_X10_bestOf_9 (j65 : Int32 → Option (Int32)) (fu : Nat) (M : gz_M) (a0 : Nat) (a1 : Int32) (a2 : Int32) (a3 : Int32) : Nat → Int32 → Int32 → Int32 → Option (Int32)
  | 0, _, _, _ => none
  | n9 + 1, x1, x2, x3 =>
    (f_X10_all fu M a0 a1).bind fun x4 =>
    if x4 < x3 then
      j65 x1
    else
      (f_X10_bits fu M x3).bind fun x5 =>
      gz_jn (fun (x7 : Int32) (x8 : Int32) =>
      lp_X10_bestOf_9 j65 fu M a0 a1 a2 a3 n9 x7 x8 (x3 + (1 : Int32))) fun j59 =>
      if a2 < x5 then
        j59 x1 x2
      else
        (f_X10_totalOf fu M a0 a1 x3 a3).bind fun x6 =>
        gz_jn (j59 x3 x6) fun j51 =>
        if x1 = (-1 : Int32) then
          j51
        else
          if x2 ≤ x6 then
            j59 x1 x2
          else
            j51
def f_X10_bestOf (fu : Nat) (M : gz_M) (a0 : Nat) (a1 : Int32) (a2 : Int32) (a3 : Int32) : Option (Int32) :=
  gz_gd M 10 a0 <|
  lp_X10_bestOf_9 (fun (x9 : Int32) => some x9) fu M a0 a1 a2 a3 fu (-1 : Int32) (0 : Int32) (0 : Int32)
set_option maxHeartbeats 4000000 in
theorem w_X10_bestOf_9 {C : gz_C} {y : Int32} {fu : Nat} {M : gz_M} {a0 : Nat} {a1 : Int32} {a2 : Int32} {a3 : Int32} {j65 : Int32 → Option (Int32)} (hC : gz_ok C cX10_bestOf RX10 8) (hX : gz_cx C 5 132 0 0 (some .int) (some (.int y)) M "bestOf") (hj65 : ∀ (x9 : Int32), j65 x9 = some y → gz_go C 0 0 M [(4, .int x9)] 65 []) : ∀ (n : Nat) (x1 : Int32) (x2 : Int32) (x3 : Int32), lp_X10_bestOf_9 j65 fu M a0 a1 a2 a3 n x1 x2 x3 = some y → gz_go C 0 0 M [(0, .ref a0), (1, .int a1), (2, .int a2), (3, .int a3), (4, .int x1), (5, .int x2), (6, .int x3)] 9 [] := by
  intro n
  induction n with
  | zero => intro x1 x2 x3 hF; exact nomatch (show (none : Option (Int32)) = some y from hF)
  | succ n9 ih9 =>
    intro x1 x2 x3 hF
    rw [lp_X10_bestOf_9.eq_2] at hF
    refine gz_iload 9 hC 6 dX10_bestOf_9 rfl ?_
    refine gz_aload_n 11 hC 0 dX10_bestOf_11 rfl rfl ?_
    refine gz_iload_n 12 hC 1 dX10_bestOf_12 rfl rfl ?_
    refine gz_cvP (st := [.int x3]) 13 hC hX [.int a1] Value.int yl_X10_all yv_X10_all q_1379 ⟨Nat.le_of_ble_eq_true rfl, Nat.le_of_ble_eq_true rfl⟩ ⟨_, rfl⟩ (fun r h => ct_X10_all _ _ fu M a0 a1 r h) rfl rfl (Nat.le_of_ble_eq_true rfl) dX10_bestOf_13 gz_00 hF (fun x4 hF => ?_)
    refine gz_icmp_gt 16 65 hC dX10_bestOf_16 (by decide) hF (fun hF => ?_) (fun hF => ?_)
    · skip
      refine gz_sub [4] [(4, .int x1)] rfl ?_
      exact hj65 _ hF
    · skip
      refine gz_iload 19 hC 6 dX10_bestOf_19 rfl ?_
      refine gz_csP (st := []) 21 hC hX [.int x3] Value.int yl_X10_bits yv_X10_bits q_1423 ⟨Nat.le_of_ble_eq_true rfl, Nat.le_of_ble_eq_true rfl⟩ (fun r h => ct_X10_bits _ _ fu M x3 r h) rfl rfl (Nat.le_of_ble_eq_true rfl) dX10_bestOf_21 gz_00 hF (fun x5 hF => ?_)
      refine gz_iload_n 24 hC 2 dX10_bestOf_24 rfl rfl ?_
      refine gz_join (fun (j : Int32 → Int32 → Option (Int32)) => ∀ (x7 : Int32) (x8 : Int32), j x7 x8 = some y → gz_go C 0 0 M [(0, .ref a0), (1, .int a1), (2, .int a2), (3, .int a3), (4, .int x7), (5, .int x8), (6, .int x3)] 59 []) hF (fun x7 x8 hF => ?_) (fun j59 hj59 hF => ?_)
      · skip
        refine gz_iinc 59 hC (x3 + (1 : Int32)) 6 [(6, .int (x3 + (1 : Int32))), (0, .ref a0), (1, .int a1), (2, .int a2), (3, .int a3), (4, .int x7), (5, .int x8)] dX10_bestOf_59 rfl rfl (by decide) rfl ?_
        refine gz_goto 62 9 hC dX10_bestOf_62 (by decide) ?_
        refine gz_sub [1, 2, 3, 4, 5, 6, 0] [(0, .ref a0), (1, .int a1), (2, .int a2), (3, .int a3), (4, .int x7), (5, .int x8), (6, .int (x3 + (1 : Int32)))] rfl ?_
        exact ih9 _ _ _ hF
      refine gz_icmp_gt 25 59 hC dX10_bestOf_25 (by decide) hF (fun hF => ?_) (fun hF => ?_)
      · skip
        exact hj59 _ _ hF
      · skip
        refine gz_aload_n 28 hC 0 dX10_bestOf_28 rfl rfl ?_
        refine gz_iload_n 29 hC 1 dX10_bestOf_29 rfl rfl ?_
        refine gz_iload 30 hC 6 dX10_bestOf_30 rfl ?_
        refine gz_iload_n 32 hC 3 dX10_bestOf_32 rfl rfl ?_
        refine gz_cvP (st := []) 33 hC hX [.int a1, .int x3, .int a3] Value.int yl_X10_totalOf yv_X10_totalOf q_1391 ⟨Nat.le_of_ble_eq_true rfl, Nat.le_of_ble_eq_true rfl⟩ ⟨_, rfl⟩ (fun r h => ct_X10_totalOf _ _ fu M a0 a1 x3 a3 r h) rfl rfl (Nat.le_of_ble_eq_true rfl) dX10_bestOf_33 gz_00 hF (fun x6 hF => ?_)
        refine gz_istore 36 hC [(7, .int x6), (0, .ref a0), (1, .int a1), (2, .int a2), (3, .int a3), (4, .int x1), (5, .int x2), (6, .int x3)] dX10_bestOf_36 (by decide) rfl ?_
        refine gz_iload 38 hC 5 dX10_bestOf_38 rfl ?_
        refine gz_iconst 40 hC (-1 : Int32) dX10_bestOf_40 gz_km1 ?_
        refine gz_join (fun (j : Option (Int32)) => j = some y → gz_go C 0 0 M [(0, .ref a0), (1, .int a1), (2, .int a2), (3, .int a3), (6, .int x3), (7, .int x6)] 51 []) hF (fun hF => ?_) (fun j51 hj51 hF => ?_)
        · skip
          refine gz_iload 51 hC 4 dX10_bestOf_51 rfl ?_
          refine gz_istore 53 hC [(4, .int x3), (0, .ref a0), (1, .int a1), (2, .int a2), (3, .int a3), (6, .int x3), (7, .int x6)] dX10_bestOf_53 (by decide) rfl ?_
          refine gz_iload 55 hC 6 dX10_bestOf_55 rfl ?_
          refine gz_istore 57 hC [(5, .int x6), (4, .int x3), (0, .ref a0), (1, .int a1), (2, .int a2), (3, .int a3), (6, .int x3), (7, .int x6)] dX10_bestOf_57 (by decide) rfl ?_
          refine gz_sub [2, 3, 4, 5, 1, 0, 6] [(0, .ref a0), (1, .int a1), (2, .int a2), (3, .int a3), (4, .int x3), (5, .int x6), (6, .int x3)] rfl ?_
          exact hj59 _ _ hF
        refine gz_icmp_eq 41 51 hC dX10_bestOf_41 (by decide) hF (fun hF => ?_) (fun hF => ?_)
        · skip
          refine gz_sub [1, 2, 3, 4, 7, 0] [(0, .ref a0), (1, .int a1), (2, .int a2), (3, .int a3), (6, .int x3), (7, .int x6)] rfl ?_
          exact hj51 hF
        · skip
          refine gz_iload 44 hC 0 dX10_bestOf_44 rfl ?_
          refine gz_iload 46 hC 6 dX10_bestOf_46 rfl ?_
          refine gz_icmp_ge 48 59 hC dX10_bestOf_48 (by decide) hF (fun hF => ?_) (fun hF => ?_)
          · skip
            refine gz_sub [1, 2, 3, 4, 5, 6, 7] [(0, .ref a0), (1, .int a1), (2, .int a2), (3, .int a3), (4, .int x1), (5, .int x2), (6, .int x3)] rfl ?_
            exact hj59 _ _ hF
          · skip
            refine gz_sub [1, 2, 3, 4, 7, 0] [(0, .ref a0), (1, .int a1), (2, .int a2), (3, .int a3), (6, .int x3), (7, .int x6)] rfl ?_
            exact hj51 hF
set_option maxHeartbeats 4000000 in
theorem ct_X10_bestOf (l : Launch) (G : gz_G) (fu : Nat) (M : gz_M) (a0 : Nat) (a1 : Int32) (a2 : Int32) (a3 : Int32) (y : Int32) (hF : f_X10_bestOf fu M a0 a1 a2 a3 = some y) : gz_ct l yX10_bestOf cX10_bestOf 8 (some .int) 5 132 0 0 G [.ref a0, .int a1, .int a2, .int a3] M (some (.int y)) M := by
  refine gz_ct.of (by decide) (Nat.le_of_ble_eq_true rfl) (fun C hC hX => ?_)
  unfold f_X10_bestOf at hF
  obtain ⟨-, hF⟩ := gz_gd_some hF
  show gz_go C 0 0 M [(0, .ref a0), (1, .int a1), (2, .int a2), (3, .int a3)] 0 []
  refine gz_iconst 0 hC (-1 : Int32) dX10_bestOf_0 gz_km1 ?_
  refine gz_istore 1 hC [(4, .int (-1 : Int32)), (0, .ref a0), (1, .int a1), (2, .int a2), (3, .int a3)] dX10_bestOf_1 (by decide) rfl ?_
  refine gz_iconst 3 hC (0 : Int32) dX10_bestOf_3 gz_k0 ?_
  refine gz_istore 4 hC [(5, .int (0 : Int32)), (4, .int (-1 : Int32)), (0, .ref a0), (1, .int a1), (2, .int a2), (3, .int a3)] dX10_bestOf_4 (by decide) rfl ?_
  refine gz_iconst 6 hC (0 : Int32) dX10_bestOf_6 gz_k0 ?_
  refine gz_istore 7 hC [(6, .int (0 : Int32)), (5, .int (0 : Int32)), (4, .int (-1 : Int32)), (0, .ref a0), (1, .int a1), (2, .int a2), (3, .int a3)] dX10_bestOf_7 (by decide) rfl ?_
  refine gz_sub [3, 4, 5, 6, 2, 1, 0] [(0, .ref a0), (1, .int a1), (2, .int a2), (3, .int a3), (4, .int (-1 : Int32)), (5, .int (0 : Int32)), (6, .int (0 : Int32))] rfl ?_
  refine w_X10_bestOf_9 hC hX ?_ _ _ _ _ hF
  intro x9 hF
  refine gz_iload 65 hC 0 dX10_bestOf_65 rfl ?_
  exact gz_iretP 67 hC hX dX10_bestOf_67 hF

theorem dX10_isMany_0 : decode cX10_isMany 0 = .ok (.aload_n 0, 1) := by decide +kernel
theorem dX10_isMany_1 : decode cX10_isMany 1 = .ok (.iload_n 1, 1) := by decide +kernel
theorem dX10_isMany_2 : decode cX10_isMany 2 = .ok (.invokevirtual 77, 3) := by decide +kernel
theorem dX10_isMany_5 : decode cX10_isMany 5 = .ok (.ifCond .eq 18, 3) := by decide +kernel
theorem dX10_isMany_8 : decode cX10_isMany 8 = .ok (.iload_n 2, 1) := by decide +kernel
theorem dX10_isMany_9 : decode cX10_isMany 9 = .ok (.i2l, 1) := by decide +kernel
theorem dX10_isMany_10 : decode cX10_isMany 10 = .ok (.lconst 0, 1) := by decide +kernel
theorem dX10_isMany_11 : decode cX10_isMany 11 = .ok (.iload_n 3, 1) := by decide +kernel
theorem dX10_isMany_12 : decode cX10_isMany 12 = .ok (.i2l, 1) := by decide +kernel
theorem dX10_isMany_13 : decode cX10_isMany 13 = .ok (.invokestatic 73, 3) := by decide +kernel
theorem dX10_isMany_16 : decode cX10_isMany 16 = .ok (.ifCond .eq 7, 3) := by decide +kernel
theorem dX10_isMany_19 : decode cX10_isMany 19 = .ok (.iconst 1, 1) := by decide +kernel
theorem dX10_isMany_20 : decode cX10_isMany 20 = .ok (.goto 4, 3) := by decide +kernel
theorem dX10_isMany_23 : decode cX10_isMany 23 = .ok (.iconst 0, 1) := by decide +kernel
theorem dX10_isMany_24 : decode cX10_isMany 24 = .ok (.ireturn, 1) := by decide +kernel

def f_X10_isMany (fu : Nat) (M : gz_M) (a0 : Nat) (a1 : Int32) (a2 : Int32) (a3 : Int32) : Option (Int32) :=
  gz_gd M 10 a0 <|
  (f_X10_isValley fu M a0 a1).bind fun x1 =>
  gz_jn (fun (x3 : Int32) =>
  gz_z x3 (some x3)) fun j24 =>
  gz_jn (j24 (0 : Int32)) fun j23 =>
  if x1 = 0 then
    j23
  else
    (f_X10_in fu M (a2).toInt64 (0 : Int64) (a3).toInt64).bind fun x2 =>
    if x2 = 0 then
      j23
    else
      j24 (1 : Int32)

set_option maxHeartbeats 4000000 in
theorem ct_X10_isMany (l : Launch) (G : gz_G) (fu : Nat) (M : gz_M) (a0 : Nat) (a1 : Int32) (a2 : Int32) (a3 : Int32) (y : Int32) (hF : f_X10_isMany fu M a0 a1 a2 a3 = some y) : gz_ct l yX10_isMany cX10_isMany 4 (some .boolean) 2 46 0 0 G [.ref a0, .int a1, .int a2, .int a3] M (some (.int y)) M := by
  refine gz_ct.of (by decide) (Nat.le_of_ble_eq_true rfl) (fun C hC hX => ?_)
  unfold f_X10_isMany at hF
  obtain ⟨-, hF⟩ := gz_gd_some hF
  show gz_go C 0 0 M [(0, .ref a0), (1, .int a1), (2, .int a2), (3, .int a3)] 0 []
  refine gz_aload_n 0 hC 0 dX10_isMany_0 rfl rfl ?_
  refine gz_iload_n 1 hC 1 dX10_isMany_1 rfl rfl ?_
  refine gz_cvP (st := []) 2 hC hX [.int a1] Value.int yl_X10_isValley yv_X10_isValley q_1217 ⟨Nat.le_of_ble_eq_true rfl, Nat.le_of_ble_eq_true rfl⟩ ⟨_, rfl⟩ (fun r h => ct_X10_isValley _ _ fu M a0 a1 r h) rfl rfl (Nat.le_of_ble_eq_true rfl) dX10_isMany_2 gz_00 hF (fun x1 hF => ?_)
  refine gz_join (fun (j : Int32 → Option (Int32)) => ∀ (x3 : Int32), j x3 = some y → gz_go C 0 0 M [] 24 [.int x3]) hF (fun x3 hF => ?_) (fun j24 hj24 hF => ?_)
  · skip
    exact gz_zretP 24 hC hX dX10_isMany_24 hF
  refine gz_join (fun (j : Option (Int32)) => j = some y → gz_go C 0 0 M [] 23 []) hF (fun hF => ?_) (fun j23 hj23 hF => ?_)
  · skip
    refine gz_iconst 23 hC (0 : Int32) dX10_isMany_23 gz_k0 ?_
    exact hj24 _ hF
  refine gz_if_eq 5 23 hC dX10_isMany_5 (by decide) hF (fun hF => ?_) (fun hF => ?_)
  · skip
    refine gz_sub [] [] rfl ?_
    exact hj23 hF
  · skip
    refine gz_iload_n 8 hC 2 dX10_isMany_8 rfl rfl ?_
    refine gz_i2l 9 hC dX10_isMany_9 ?_
    refine gz_lconst 10 hC (0 : Int64) dX10_isMany_10 gz_l0 ?_
    refine gz_iload_n 11 hC 3 dX10_isMany_11 rfl rfl ?_
    refine gz_i2l 12 hC dX10_isMany_12 ?_
    refine gz_csP (st := []) 13 hC hX [.long (a2).toInt64, .long (0 : Int64), .long (a3).toInt64] Value.int yl_X10_in yv_X10_in q_1170 ⟨Nat.le_of_ble_eq_true rfl, Nat.le_of_ble_eq_true rfl⟩ (fun r h => ct_X10_in _ _ fu M (a2).toInt64 (0 : Int64) (a3).toInt64 r h) rfl rfl (Nat.le_of_ble_eq_true rfl) dX10_isMany_13 gz_00 hF (fun x2 hF => ?_)
    refine gz_if_eq 16 23 hC dX10_isMany_16 (by decide) hF (fun hF => ?_) (fun hF => ?_)
    · skip
      refine gz_sub [] [] rfl ?_
      exact hj23 hF
    · skip
      refine gz_iconst 19 hC (1 : Int32) dX10_isMany_19 gz_k1 ?_
      refine gz_goto 20 24 hC dX10_isMany_20 (by decide) ?_
      refine gz_sub [] [] rfl ?_
      exact hj24 _ hF

theorem dX10_best_0 : decode cX10_best 0 = .ok (.aload_n 0, 1) := by decide +kernel
theorem dX10_best_1 : decode cX10_best 1 = .ok (.iload_n 1, 1) := by decide +kernel
theorem dX10_best_2 : decode cX10_best 2 = .ok (.iload_n 2, 1) := by decide +kernel
theorem dX10_best_3 : decode cX10_best 3 = .ok (.bipush 10, 2) := by decide +kernel
theorem dX10_best_5 : decode cX10_best 5 = .ok (.invokevirtual 248, 3) := by decide +kernel
theorem dX10_best_8 : decode cX10_best 8 = .ok (.ifCond .eq 13, 3) := by decide +kernel
theorem dX10_best_11 : decode cX10_best 11 = .ok (.aload_n 0, 1) := by decide +kernel
theorem dX10_best_12 : decode cX10_best 12 = .ok (.iload_n 1, 1) := by decide +kernel
theorem dX10_best_13 : decode cX10_best 13 = .ok (.iload_n 2, 1) := by decide +kernel
theorem dX10_best_14 : decode cX10_best 14 = .ok (.iconst (-1), 1) := by decide +kernel
theorem dX10_best_15 : decode cX10_best 15 = .ok (.invokevirtual 252, 3) := by decide +kernel
theorem dX10_best_18 : decode cX10_best 18 = .ok (.goto 9, 3) := by decide +kernel
theorem dX10_best_21 : decode cX10_best 21 = .ok (.aload_n 0, 1) := by decide +kernel
theorem dX10_best_22 : decode cX10_best 22 = .ok (.bipush (-2), 2) := by decide +kernel
theorem dX10_best_24 : decode cX10_best 24 = .ok (.invokevirtual 97, 3) := by decide +kernel
theorem dX10_best_27 : decode cX10_best 27 = .ok (.ireturn, 1) := by decide +kernel

def f_X10_best (fu : Nat) (M : gz_M) (a0 : Nat) (a1 : Int32) (a2 : Int32) : Option (Int32 × gz_M) :=
  gz_gd M 10 a0 <|
  (f_X10_isMany fu M a0 a1 a2 (10 : Int32)).bind fun x1 =>
  gz_jn (fun (x5 : Int32) (M6 : gz_M) =>
  some (x5, M6)) fun j27 =>
  if x1 = 0 then
    gz_b2 (f_X10_refuse fu M a0 (-2 : Int32)) fun x3 M4 =>
    j27 x3 M4
  else
    (f_X10_bestOf fu M a0 a1 a2 (-1 : Int32)).bind fun x2 =>
    j27 x2 M

set_option maxHeartbeats 4000000 in
theorem ct_X10_best (l : Launch) (G : gz_G) (fu : Nat) (M : gz_M) (a0 : Nat) (a1 : Int32) (a2 : Int32) (y : Int32 × gz_M) (hF : f_X10_best fu M a0 a1 a2 = some y) : gz_ct l yX10_best cX10_best 3 (some .int) 6 159 0 0 G [.ref a0, .int a1, .int a2] M (some (.int y.1)) y.2 := by
  refine gz_ct.of (by decide) (Nat.le_of_ble_eq_true rfl) (fun C hC hX => ?_)
  unfold f_X10_best at hF
  obtain ⟨-, hF⟩ := gz_gd_some hF
  show gz_go C 0 0 M [(0, .ref a0), (1, .int a1), (2, .int a2)] 0 []
  refine gz_aload_n 0 hC 0 dX10_best_0 rfl rfl ?_
  refine gz_iload_n 1 hC 1 dX10_best_1 rfl rfl ?_
  refine gz_iload_n 2 hC 2 dX10_best_2 rfl rfl ?_
  refine gz_bipush 3 hC (10 : Int32) dX10_best_3 gz_b10 ?_
  refine gz_cvP (st := []) 5 hC hX [.int a1, .int a2, .int (10 : Int32)] Value.int yl_X10_isMany yv_X10_isMany q_1415 ⟨Nat.le_of_ble_eq_true rfl, Nat.le_of_ble_eq_true rfl⟩ ⟨_, rfl⟩ (fun r h => ct_X10_isMany _ _ fu M a0 a1 a2 (10 : Int32) r h) rfl rfl (Nat.le_of_ble_eq_true rfl) dX10_best_5 gz_00 hF (fun x1 hF => ?_)
  refine gz_join (fun (j : Int32 → gz_M → Option (Int32 × gz_M)) => ∀ (x5 : Int32) (M6 : gz_M), j x5 M6 = some y → gz_go C 0 0 M6 [] 27 [.int x5]) hF (fun x5 M6 hF => ?_) (fun j27 hj27 hF => ?_)
  · skip
    exact gz_iretM 27 hC hX dX10_best_27 hF
  refine gz_if_eq 8 21 hC dX10_best_8 (by decide) hF (fun hF => ?_) (fun hF => ?_)
  · skip
    refine gz_aload_n 21 hC 0 dX10_best_21 rfl rfl ?_
    refine gz_bipush 22 hC (-2 : Int32) dX10_best_22 gz_bm2 ?_
    refine gz_cvM (st := []) 24 hC hX [.int (-2 : Int32)] Value.int yl_X10_refuse yv_X10_refuse q_1175 ⟨Nat.le_of_ble_eq_true rfl, Nat.le_of_ble_eq_true rfl⟩ ⟨_, rfl⟩ (fun r h => ct_X10_refuse _ _ fu M a0 (-2 : Int32) r h) rfl rfl (Nat.le_of_ble_eq_true rfl) dX10_best_24 gz_00 hF (fun x3 M4 hF => ?_)
    refine gz_sub [] [] rfl ?_
    exact hj27 _ _ hF
  · skip
    refine gz_aload_n 11 hC 0 dX10_best_11 rfl rfl ?_
    refine gz_iload_n 12 hC 1 dX10_best_12 rfl rfl ?_
    refine gz_iload_n 13 hC 2 dX10_best_13 rfl rfl ?_
    refine gz_iconst 14 hC (-1 : Int32) dX10_best_14 gz_km1 ?_
    refine gz_cvP (st := []) 15 hC hX [.int a1, .int a2, .int (-1 : Int32)] Value.int yl_X10_bestOf yv_X10_bestOf q_1419 ⟨Nat.le_of_ble_eq_true rfl, Nat.le_of_ble_eq_true rfl⟩ ⟨_, rfl⟩ (fun r h => ct_X10_bestOf _ _ fu M a0 a1 a2 (-1 : Int32) r h) rfl rfl (Nat.le_of_ble_eq_true rfl) dX10_best_15 gz_00 hF (fun x2 hF => ?_)
    refine gz_goto 18 27 hC dX10_best_18 (by decide) ?_
    refine gz_sub [] [] rfl ?_
    exact hj27 _ _ hF

theorem dX10_leastOf_0 : decode cX10_leastOf 0 = .ok (.aload_n 0, 1) := by decide +kernel
theorem dX10_leastOf_1 : decode cX10_leastOf 1 = .ok (.iload_n 1, 1) := by decide +kernel
theorem dX10_leastOf_2 : decode cX10_leastOf 2 = .ok (.aload_n 0, 1) := by decide +kernel
theorem dX10_leastOf_3 : decode cX10_leastOf 3 = .ok (.iload_n 1, 1) := by decide +kernel
theorem dX10_leastOf_4 : decode cX10_leastOf 4 = .ok (.iload_n 2, 1) := by decide +kernel
theorem dX10_leastOf_5 : decode cX10_leastOf 5 = .ok (.iconst (-1), 1) := by decide +kernel
theorem dX10_leastOf_6 : decode cX10_leastOf 6 = .ok (.invokevirtual 252, 3) := by decide +kernel
theorem dX10_leastOf_9 : decode cX10_leastOf 9 = .ok (.iconst (-1), 1) := by decide +kernel
theorem dX10_leastOf_10 : decode cX10_leastOf 10 = .ok (.invokevirtual 242, 3) := by decide +kernel
theorem dX10_leastOf_13 : decode cX10_leastOf 13 = .ok (.ireturn, 1) := by decide +kernel

def f_X10_leastOf (fu : Nat) (M : gz_M) (a0 : Nat) (a1 : Int32) (a2 : Int32) : Option (Int32) :=
  gz_gd M 10 a0 <|
  (f_X10_bestOf fu M a0 a1 a2 (-1 : Int32)).bind fun x1 =>
  (f_X10_totalOf fu M a0 a1 x1 (-1 : Int32)).bind fun x2 =>
  some x2

set_option maxHeartbeats 4000000 in
theorem ct_X10_leastOf (l : Launch) (G : gz_G) (fu : Nat) (M : gz_M) (a0 : Nat) (a1 : Int32) (a2 : Int32) (y : Int32) (hF : f_X10_leastOf fu M a0 a1 a2 = some y) : gz_ct l yX10_leastOf cX10_leastOf 3 (some .int) 6 159 0 0 G [.ref a0, .int a1, .int a2] M (some (.int y)) M := by
  refine gz_ct.of (by decide) (Nat.le_of_ble_eq_true rfl) (fun C hC hX => ?_)
  unfold f_X10_leastOf at hF
  obtain ⟨-, hF⟩ := gz_gd_some hF
  show gz_go C 0 0 M [(0, .ref a0), (1, .int a1), (2, .int a2)] 0 []
  refine gz_aload_n 0 hC 0 dX10_leastOf_0 rfl rfl ?_
  refine gz_iload_n 1 hC 1 dX10_leastOf_1 rfl rfl ?_
  refine gz_aload_n 2 hC 0 dX10_leastOf_2 rfl rfl ?_
  refine gz_iload_n 3 hC 1 dX10_leastOf_3 rfl rfl ?_
  refine gz_iload_n 4 hC 2 dX10_leastOf_4 rfl rfl ?_
  refine gz_iconst 5 hC (-1 : Int32) dX10_leastOf_5 gz_km1 ?_
  refine gz_cvP (st := [.int a1, .ref a0]) 6 hC hX [.int a1, .int a2, .int (-1 : Int32)] Value.int yl_X10_bestOf yv_X10_bestOf q_1419 ⟨Nat.le_of_ble_eq_true rfl, Nat.le_of_ble_eq_true rfl⟩ ⟨_, rfl⟩ (fun r h => ct_X10_bestOf _ _ fu M a0 a1 a2 (-1 : Int32) r h) rfl rfl (Nat.le_of_ble_eq_true rfl) dX10_leastOf_6 gz_00 hF (fun x1 hF => ?_)
  refine gz_iconst 9 hC (-1 : Int32) dX10_leastOf_9 gz_km1 ?_
  refine gz_cvP (st := []) 10 hC hX [.int a1, .int x1, .int (-1 : Int32)] Value.int yl_X10_totalOf yv_X10_totalOf q_1391 ⟨Nat.le_of_ble_eq_true rfl, Nat.le_of_ble_eq_true rfl⟩ ⟨_, rfl⟩ (fun r h => ct_X10_totalOf _ _ fu M a0 a1 x1 (-1 : Int32) r h) rfl rfl (Nat.le_of_ble_eq_true rfl) dX10_leastOf_10 gz_00 hF (fun x2 hF => ?_)
  exact gz_iretP 13 hC hX dX10_leastOf_13 hF

theorem dX10_more_0 : decode cX10_more 0 = .ok (.aload_n 0, 1) := by decide +kernel
theorem dX10_more_1 : decode cX10_more 1 = .ok (.iload_n 1, 1) := by decide +kernel
theorem dX10_more_2 : decode cX10_more 2 = .ok (.iload_n 2, 1) := by decide +kernel
theorem dX10_more_3 : decode cX10_more 3 = .ok (.bipush 9, 2) := by decide +kernel
theorem dX10_more_5 : decode cX10_more 5 = .ok (.invokevirtual 248, 3) := by decide +kernel
theorem dX10_more_8 : decode cX10_more 8 = .ok (.ifCond .eq 21, 3) := by decide +kernel
theorem dX10_more_11 : decode cX10_more 11 = .ok (.aload_n 0, 1) := by decide +kernel
theorem dX10_more_12 : decode cX10_more 12 = .ok (.iload_n 1, 1) := by decide +kernel
theorem dX10_more_13 : decode cX10_more 13 = .ok (.iload_n 2, 1) := by decide +kernel
theorem dX10_more_14 : decode cX10_more 14 = .ok (.invokevirtual 255, 3) := by decide +kernel
theorem dX10_more_17 : decode cX10_more 17 = .ok (.aload_n 0, 1) := by decide +kernel
theorem dX10_more_18 : decode cX10_more 18 = .ok (.iload_n 1, 1) := by decide +kernel
theorem dX10_more_19 : decode cX10_more 19 = .ok (.iload_n 2, 1) := by decide +kernel
theorem dX10_more_20 : decode cX10_more 20 = .ok (.iconst 1, 1) := by decide +kernel
theorem dX10_more_21 : decode cX10_more 21 = .ok (.iadd, 1) := by decide +kernel
theorem dX10_more_22 : decode cX10_more 22 = .ok (.invokevirtual 255, 3) := by decide +kernel
theorem dX10_more_25 : decode cX10_more 25 = .ok (.isub, 1) := by decide +kernel
theorem dX10_more_26 : decode cX10_more 26 = .ok (.goto 9, 3) := by decide +kernel
theorem dX10_more_29 : decode cX10_more 29 = .ok (.aload_n 0, 1) := by decide +kernel
theorem dX10_more_30 : decode cX10_more 30 = .ok (.bipush (-2), 2) := by decide +kernel
theorem dX10_more_32 : decode cX10_more 32 = .ok (.invokevirtual 97, 3) := by decide +kernel
theorem dX10_more_35 : decode cX10_more 35 = .ok (.ireturn, 1) := by decide +kernel

def f_X10_more (fu : Nat) (M : gz_M) (a0 : Nat) (a1 : Int32) (a2 : Int32) : Option (Int32 × gz_M) :=
  gz_gd M 10 a0 <|
  (f_X10_isMany fu M a0 a1 a2 (9 : Int32)).bind fun x1 =>
  gz_jn (fun (x6 : Int32) (M7 : gz_M) =>
  some (x6, M7)) fun j35 =>
  if x1 = 0 then
    gz_b2 (f_X10_refuse fu M a0 (-2 : Int32)) fun x4 M5 =>
    j35 x4 M5
  else
    (f_X10_leastOf fu M a0 a1 a2).bind fun x2 =>
    (f_X10_leastOf fu M a0 a1 (a2 + (1 : Int32))).bind fun x3 =>
    j35 (x2 - x3) M

set_option maxHeartbeats 4000000 in
theorem ct_X10_more (l : Launch) (G : gz_G) (fu : Nat) (M : gz_M) (a0 : Nat) (a1 : Int32) (a2 : Int32) (y : Int32 × gz_M) (hF : f_X10_more fu M a0 a1 a2 = some y) : gz_ct l yX10_more cX10_more 3 (some .int) 7 181 0 0 G [.ref a0, .int a1, .int a2] M (some (.int y.1)) y.2 := by
  refine gz_ct.of (by decide) (Nat.le_of_ble_eq_true rfl) (fun C hC hX => ?_)
  unfold f_X10_more at hF
  obtain ⟨-, hF⟩ := gz_gd_some hF
  show gz_go C 0 0 M [(0, .ref a0), (1, .int a1), (2, .int a2)] 0 []
  refine gz_aload_n 0 hC 0 dX10_more_0 rfl rfl ?_
  refine gz_iload_n 1 hC 1 dX10_more_1 rfl rfl ?_
  refine gz_iload_n 2 hC 2 dX10_more_2 rfl rfl ?_
  refine gz_bipush 3 hC (9 : Int32) dX10_more_3 gz_b9 ?_
  refine gz_cvP (st := []) 5 hC hX [.int a1, .int a2, .int (9 : Int32)] Value.int yl_X10_isMany yv_X10_isMany q_1415 ⟨Nat.le_of_ble_eq_true rfl, Nat.le_of_ble_eq_true rfl⟩ ⟨_, rfl⟩ (fun r h => ct_X10_isMany _ _ fu M a0 a1 a2 (9 : Int32) r h) rfl rfl (Nat.le_of_ble_eq_true rfl) dX10_more_5 gz_00 hF (fun x1 hF => ?_)
  refine gz_join (fun (j : Int32 → gz_M → Option (Int32 × gz_M)) => ∀ (x6 : Int32) (M7 : gz_M), j x6 M7 = some y → gz_go C 0 0 M7 [] 35 [.int x6]) hF (fun x6 M7 hF => ?_) (fun j35 hj35 hF => ?_)
  · skip
    exact gz_iretM 35 hC hX dX10_more_35 hF
  refine gz_if_eq 8 29 hC dX10_more_8 (by decide) hF (fun hF => ?_) (fun hF => ?_)
  · skip
    refine gz_aload_n 29 hC 0 dX10_more_29 rfl rfl ?_
    refine gz_bipush 30 hC (-2 : Int32) dX10_more_30 gz_bm2 ?_
    refine gz_cvM (st := []) 32 hC hX [.int (-2 : Int32)] Value.int yl_X10_refuse yv_X10_refuse q_1175 ⟨Nat.le_of_ble_eq_true rfl, Nat.le_of_ble_eq_true rfl⟩ ⟨_, rfl⟩ (fun r h => ct_X10_refuse _ _ fu M a0 (-2 : Int32) r h) rfl rfl (Nat.le_of_ble_eq_true rfl) dX10_more_32 gz_00 hF (fun x4 M5 hF => ?_)
    refine gz_sub [] [] rfl ?_
    exact hj35 _ _ hF
  · skip
    refine gz_aload_n 11 hC 0 dX10_more_11 rfl rfl ?_
    refine gz_iload_n 12 hC 1 dX10_more_12 rfl rfl ?_
    refine gz_iload_n 13 hC 2 dX10_more_13 rfl rfl ?_
    refine gz_cvP (st := []) 14 hC hX [.int a1, .int a2] Value.int yl_X10_leastOf yv_X10_leastOf q_1430 ⟨Nat.le_of_ble_eq_true rfl, Nat.le_of_ble_eq_true rfl⟩ ⟨_, rfl⟩ (fun r h => ct_X10_leastOf _ _ fu M a0 a1 a2 r h) rfl rfl (Nat.le_of_ble_eq_true rfl) dX10_more_14 gz_00 hF (fun x2 hF => ?_)
    refine gz_aload_n 17 hC 0 dX10_more_17 rfl rfl ?_
    refine gz_iload_n 18 hC 1 dX10_more_18 rfl rfl ?_
    refine gz_iload_n 19 hC 2 dX10_more_19 rfl rfl ?_
    refine gz_iconst 20 hC (1 : Int32) dX10_more_20 gz_k1 ?_
    refine gz_iadd 21 hC dX10_more_21 ?_
    refine gz_cvP (st := [.int x2]) 22 hC hX [.int a1, .int (a2 + (1 : Int32))] Value.int yl_X10_leastOf yv_X10_leastOf q_1430 ⟨Nat.le_of_ble_eq_true rfl, Nat.le_of_ble_eq_true rfl⟩ ⟨_, rfl⟩ (fun r h => ct_X10_leastOf _ _ fu M a0 a1 (a2 + (1 : Int32)) r h) rfl rfl (Nat.le_of_ble_eq_true rfl) dX10_more_22 gz_00 hF (fun x3 hF => ?_)
    refine gz_isub 25 hC dX10_more_25 ?_
    refine gz_goto 26 35 hC dX10_more_26 (by decide) ?_
    refine gz_sub [] [] rfl ?_
    exact hj35 _ _ hF

theorem dX10_enough_0 : decode cX10_enough 0 = .ok (.aload_n 0, 1) := by decide +kernel
theorem dX10_enough_1 : decode cX10_enough 1 = .ok (.iload_n 1, 1) := by decide +kernel
theorem dX10_enough_2 : decode cX10_enough 2 = .ok (.invokevirtual 77, 3) := by decide +kernel
theorem dX10_enough_5 : decode cX10_enough 5 = .ok (.ifCond .eq 7, 3) := by decide +kernel
theorem dX10_enough_8 : decode cX10_enough 8 = .ok (.iload_n 2, 1) := by decide +kernel
theorem dX10_enough_9 : decode cX10_enough 9 = .ok (.ifCond .ge 10, 3) := by decide +kernel
theorem dX10_enough_12 : decode cX10_enough 12 = .ok (.aload_n 0, 1) := by decide +kernel
theorem dX10_enough_13 : decode cX10_enough 13 = .ok (.bipush (-2), 2) := by decide +kernel
theorem dX10_enough_15 : decode cX10_enough 15 = .ok (.invokevirtual 97, 3) := by decide +kernel
theorem dX10_enough_18 : decode cX10_enough 18 = .ok (.ireturn, 1) := by decide +kernel
theorem dX10_enough_19 : decode cX10_enough 19 = .ok (.iconst 0, 1) := by decide +kernel
theorem dX10_enough_20 : decode cX10_enough 20 = .ok (.istore_n 3, 1) := by decide +kernel
theorem dX10_enough_21 : decode cX10_enough 21 = .ok (.iload_n 3, 1) := by decide +kernel
theorem dX10_enough_22 : decode cX10_enough 22 = .ok (.bipush 10, 2) := by decide +kernel
theorem dX10_enough_24 : decode cX10_enough 24 = .ok (.if_icmp .gt 21, 3) := by decide +kernel
theorem dX10_enough_27 : decode cX10_enough 27 = .ok (.aload_n 0, 1) := by decide +kernel
theorem dX10_enough_28 : decode cX10_enough 28 = .ok (.iload_n 1, 1) := by decide +kernel
theorem dX10_enough_29 : decode cX10_enough 29 = .ok (.iload_n 3, 1) := by decide +kernel
theorem dX10_enough_30 : decode cX10_enough 30 = .ok (.invokevirtual 255, 3) := by decide +kernel
theorem dX10_enough_33 : decode cX10_enough 33 = .ok (.iload_n 2, 1) := by decide +kernel
theorem dX10_enough_34 : decode cX10_enough 34 = .ok (.if_icmp .gt 5, 3) := by decide +kernel
theorem dX10_enough_37 : decode cX10_enough 37 = .ok (.iload_n 3, 1) := by decide +kernel
theorem dX10_enough_38 : decode cX10_enough 38 = .ok (.ireturn, 1) := by decide +kernel
theorem dX10_enough_39 : decode cX10_enough 39 = .ok (.iinc 3 1, 3) := by decide +kernel
theorem dX10_enough_42 : decode cX10_enough 42 = .ok (.goto (-21), 3) := by decide +kernel
theorem dX10_enough_45 : decode cX10_enough 45 = .ok (.iconst (-1), 1) := by decide +kernel
theorem dX10_enough_46 : decode cX10_enough 46 = .ok (.ireturn, 1) := by decide +kernel
def lp_X10_enough_21 (j45 : Option (Int32 × gz_M)) (fu : Nat) (M : gz_M) (a0 : Nat) (a1 : Int32) (a2 : Int32) : Nat → Int32 → Option (Int32 × gz_M)
  | 0, _ => none
  | n21 + 1, x2 =>
    if (10 : Int32) < x2 then
      j45
    else
      (f_X10_leastOf fu M a0 a1 x2).bind fun x3 =>
      if a2 < x3 then
        lp_X10_enough_21 j45 fu M a0 a1 a2 n21 (x2 + (1 : Int32))
      else
        some (x2, M)
def f_X10_enough (fu : Nat) (M : gz_M) (a0 : Nat) (a1 : Int32) (a2 : Int32) : Option (Int32 × gz_M) :=
  gz_gd M 10 a0 <|
  (f_X10_isValley fu M a0 a1).bind fun x1 =>
  gz_jn (gz_b2 (f_X10_refuse fu M a0 (-2 : Int32)) fun x4 M5 =>
    some (x4, M5)) fun j12 =>
  if x1 = 0 then
    j12
  else
    if 0 ≤ a2 then
      lp_X10_enough_21 (some ((-1 : Int32), M)) fu M a0 a1 a2 fu (0 : Int32)
    else
      j12
set_option maxHeartbeats 4000000 in
theorem w_X10_enough_21 {C : gz_C} {y : Int32 × gz_M} {fu : Nat} {M : gz_M} {a0 : Nat} {a1 : Int32} {a2 : Int32} {j45 : Option (Int32 × gz_M)} (hC : gz_ok C cX10_enough RX10 4) (hX : gz_cx C 7 181 0 0 (some .int) (some (.int y.1)) y.2 "enough") (hj45 : j45 = some y → gz_go C 0 0 M [] 45 []) : ∀ (n : Nat) (x2 : Int32), lp_X10_enough_21 j45 fu M a0 a1 a2 n x2 = some y → gz_go C 0 0 M [(0, .ref a0), (1, .int a1), (2, .int a2), (3, .int x2)] 21 [] := by
  intro n
  induction n with
  | zero => intro x2 hF; exact nomatch (show (none : Option (Int32 × gz_M)) = some y from hF)
  | succ n21 ih21 =>
    intro x2 hF
    rw [lp_X10_enough_21.eq_2] at hF
    refine gz_iload_n 21 hC 3 dX10_enough_21 rfl rfl ?_
    refine gz_bipush 22 hC (10 : Int32) dX10_enough_22 gz_b10 ?_
    refine gz_icmp_gt 24 45 hC dX10_enough_24 (by decide) hF (fun hF => ?_) (fun hF => ?_)
    · skip
      refine gz_sub [] [] rfl ?_
      exact hj45 hF
    · skip
      refine gz_aload_n 27 hC 0 dX10_enough_27 rfl rfl ?_
      refine gz_iload_n 28 hC 1 dX10_enough_28 rfl rfl ?_
      refine gz_iload_n 29 hC 3 dX10_enough_29 rfl rfl ?_
      refine gz_cvP (st := []) 30 hC hX [.int a1, .int x2] Value.int yl_X10_leastOf yv_X10_leastOf q_1430 ⟨Nat.le_of_ble_eq_true rfl, Nat.le_of_ble_eq_true rfl⟩ ⟨_, rfl⟩ (fun r h => ct_X10_leastOf _ _ fu M a0 a1 x2 r h) rfl rfl (Nat.le_of_ble_eq_true rfl) dX10_enough_30 gz_00 hF (fun x3 hF => ?_)
      refine gz_iload_n 33 hC 2 dX10_enough_33 rfl rfl ?_
      refine gz_icmp_gt 34 39 hC dX10_enough_34 (by decide) hF (fun hF => ?_) (fun hF => ?_)
      · skip
        refine gz_iinc 39 hC (x2 + (1 : Int32)) 3 [(3, .int (x2 + (1 : Int32))), (0, .ref a0), (1, .int a1), (2, .int a2)] dX10_enough_39 rfl rfl (by decide) rfl ?_
        refine gz_goto 42 21 hC dX10_enough_42 (by decide) ?_
        refine gz_sub [1, 2, 3, 0] [(0, .ref a0), (1, .int a1), (2, .int a2), (3, .int (x2 + (1 : Int32)))] rfl ?_
        exact ih21 _ hF
      · skip
        refine gz_iload_n 37 hC 3 dX10_enough_37 rfl rfl ?_
        exact gz_iretM 38 hC hX dX10_enough_38 hF
set_option maxHeartbeats 4000000 in
theorem ct_X10_enough (l : Launch) (G : gz_G) (fu : Nat) (M : gz_M) (a0 : Nat) (a1 : Int32) (a2 : Int32) (y : Int32 × gz_M) (hF : f_X10_enough fu M a0 a1 a2 = some y) : gz_ct l yX10_enough cX10_enough 4 (some .int) 7 181 0 0 G [.ref a0, .int a1, .int a2] M (some (.int y.1)) y.2 := by
  refine gz_ct.of (by decide) (Nat.le_of_ble_eq_true rfl) (fun C hC hX => ?_)
  unfold f_X10_enough at hF
  obtain ⟨-, hF⟩ := gz_gd_some hF
  show gz_go C 0 0 M [(0, .ref a0), (1, .int a1), (2, .int a2)] 0 []
  refine gz_aload_n 0 hC 0 dX10_enough_0 rfl rfl ?_
  refine gz_iload_n 1 hC 1 dX10_enough_1 rfl rfl ?_
  refine gz_cvP (st := []) 2 hC hX [.int a1] Value.int yl_X10_isValley yv_X10_isValley q_1217 ⟨Nat.le_of_ble_eq_true rfl, Nat.le_of_ble_eq_true rfl⟩ ⟨_, rfl⟩ (fun r h => ct_X10_isValley _ _ fu M a0 a1 r h) rfl rfl (Nat.le_of_ble_eq_true rfl) dX10_enough_2 gz_00 hF (fun x1 hF => ?_)
  refine gz_join (fun (j : Option (Int32 × gz_M)) => j = some y → gz_go C 0 0 M [(0, .ref a0)] 12 []) hF (fun hF => ?_) (fun j12 hj12 hF => ?_)
  · skip
    refine gz_aload_n 12 hC 0 dX10_enough_12 rfl rfl ?_
    refine gz_bipush 13 hC (-2 : Int32) dX10_enough_13 gz_bm2 ?_
    refine gz_cvM (st := []) 15 hC hX [.int (-2 : Int32)] Value.int yl_X10_refuse yv_X10_refuse q_1175 ⟨Nat.le_of_ble_eq_true rfl, Nat.le_of_ble_eq_true rfl⟩ ⟨_, rfl⟩ (fun r h => ct_X10_refuse _ _ fu M a0 (-2 : Int32) r h) rfl rfl (Nat.le_of_ble_eq_true rfl) dX10_enough_15 gz_00 hF (fun x4 M5 hF => ?_)
    exact gz_iretM 18 hC hX dX10_enough_18 hF
  refine gz_if_eq 5 12 hC dX10_enough_5 (by decide) hF (fun hF => ?_) (fun hF => ?_)
  · skip
    refine gz_sub [0] [(0, .ref a0)] rfl ?_
    exact hj12 hF
  · skip
    refine gz_iload_n 8 hC 2 dX10_enough_8 rfl rfl ?_
    refine gz_if_ge 9 19 hC dX10_enough_9 (by decide) hF (fun hF => ?_) (fun hF => ?_)
    · skip
      refine gz_iconst 19 hC (0 : Int32) dX10_enough_19 gz_k0 ?_
      refine gz_istore_n 20 hC [(3, .int (0 : Int32)), (0, .ref a0), (1, .int a1), (2, .int a2)] dX10_enough_20 rfl (by decide) rfl ?_
      refine gz_sub [1, 2, 3, 0] [(0, .ref a0), (1, .int a1), (2, .int a2), (3, .int (0 : Int32))] rfl ?_
      refine w_X10_enough_21 hC hX ?_ _ _ hF
      intro hF
      refine gz_iconst 45 hC (-1 : Int32) dX10_enough_45 gz_km1 ?_
      exact gz_iretM 46 hC hX dX10_enough_46 hF
    · skip
      refine gz_sub [0] [(0, .ref a0)] rfl ?_
      exact hj12 hF
