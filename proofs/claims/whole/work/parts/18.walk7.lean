theorem dX9_line_0 : decode cX9_line 0 = .ok (.aload_n 0, 1) := by decide +kernel
theorem dX9_line_1 : decode cX9_line 1 = .ok (.iload_n 1, 1) := by decide +kernel
theorem dX9_line_2 : decode cX9_line 2 = .ok (.invokevirtual 159, 3) := by decide +kernel
theorem dX9_line_5 : decode cX9_line 5 = .ok (.ifCond .eq 22, 3) := by decide +kernel
theorem dX9_line_8 : decode cX9_line 8 = .ok (.iload_n 2, 1) := by decide +kernel
theorem dX9_line_9 : decode cX9_line 9 = .ok (.iconst 0, 1) := by decide +kernel
theorem dX9_line_10 : decode cX9_line 10 = .ok (.iconst 2, 1) := by decide +kernel
theorem dX9_line_11 : decode cX9_line 11 = .ok (.invokestatic 75, 3) := by decide +kernel
theorem dX9_line_14 : decode cX9_line 14 = .ok (.ifCond .eq 13, 3) := by decide +kernel
theorem dX9_line_17 : decode cX9_line 17 = .ok (.iload_n 3, 1) := by decide +kernel
theorem dX9_line_18 : decode cX9_line 18 = .ok (.iconst 1, 1) := by decide +kernel
theorem dX9_line_19 : decode cX9_line 19 = .ok (.bipush 6, 2) := by decide +kernel
theorem dX9_line_21 : decode cX9_line 21 = .ok (.invokestatic 75, 3) := by decide +kernel
theorem dX9_line_24 : decode cX9_line 24 = .ok (.ifCond .ne 10, 3) := by decide +kernel
theorem dX9_line_27 : decode cX9_line 27 = .ok (.aload_n 0, 1) := by decide +kernel
theorem dX9_line_28 : decode cX9_line 28 = .ok (.bipush (-2), 2) := by decide +kernel
theorem dX9_line_30 : decode cX9_line 30 = .ok (.invokevirtual 79, 3) := by decide +kernel
theorem dX9_line_33 : decode cX9_line 33 = .ok (.ireturn, 1) := by decide +kernel
theorem dX9_line_34 : decode cX9_line 34 = .ok (.aload_n 0, 1) := by decide +kernel
theorem dX9_line_35 : decode cX9_line 35 = .ok (.getfield 34, 3) := by decide +kernel
theorem dX9_line_38 : decode cX9_line 38 = .ok (.getfield 147, 3) := by decide +kernel
theorem dX9_line_41 : decode cX9_line 41 = .ok (.iload_n 1, 1) := by decide +kernel
theorem dX9_line_42 : decode cX9_line 42 = .ok (.aaload, 1) := by decide +kernel
theorem dX9_line_43 : decode cX9_line 43 = .ok (.astore 5, 2) := by decide +kernel
theorem dX9_line_45 : decode cX9_line 45 = .ok (.iload 4, 2) := by decide +kernel
theorem dX9_line_47 : decode cX9_line 47 = .ok (.ifCond .eq 21, 3) := by decide +kernel
theorem dX9_line_50 : decode cX9_line 50 = .ok (.iload 4, 2) := by decide +kernel
theorem dX9_line_52 : decode cX9_line 52 = .ok (.iconst 1, 1) := by decide +kernel
theorem dX9_line_53 : decode cX9_line 53 = .ok (.if_icmp .eq 15, 3) := by decide +kernel
theorem dX9_line_56 : decode cX9_line 56 = .ok (.iload 4, 2) := by decide +kernel
theorem dX9_line_58 : decode cX9_line 58 = .ok (.bipush 10, 2) := by decide +kernel
theorem dX9_line_60 : decode cX9_line 60 = .ok (.bipush 15, 2) := by decide +kernel
theorem dX9_line_62 : decode cX9_line 62 = .ok (.invokestatic 75, 3) := by decide +kernel
theorem dX9_line_65 : decode cX9_line 65 = .ok (.ifCond .eq 7, 3) := by decide +kernel
theorem dX9_line_68 : decode cX9_line 68 = .ok (.iconst 1, 1) := by decide +kernel
theorem dX9_line_69 : decode cX9_line 69 = .ok (.goto 4, 3) := by decide +kernel
theorem dX9_line_72 : decode cX9_line 72 = .ok (.iconst 0, 1) := by decide +kernel
theorem dX9_line_73 : decode cX9_line 73 = .ok (.istore 6, 2) := by decide +kernel
theorem dX9_line_75 : decode cX9_line 75 = .ok (.aload 5, 2) := by decide +kernel
theorem dX9_line_77 : decode cX9_line 77 = .ok (.getfield 162, 3) := by decide +kernel
theorem dX9_line_80 : decode cX9_line 80 = .ok (.ifCond .eq 8, 3) := by decide +kernel
theorem dX9_line_83 : decode cX9_line 83 = .ok (.iload 6, 2) := by decide +kernel
theorem dX9_line_85 : decode cX9_line 85 = .ok (.ifCond .ne 10, 3) := by decide +kernel
theorem dX9_line_88 : decode cX9_line 88 = .ok (.aload_n 0, 1) := by decide +kernel
theorem dX9_line_89 : decode cX9_line 89 = .ok (.bipush (-2), 2) := by decide +kernel
theorem dX9_line_91 : decode cX9_line 91 = .ok (.invokevirtual 79, 3) := by decide +kernel
theorem dX9_line_94 : decode cX9_line 94 = .ok (.ireturn, 1) := by decide +kernel
theorem dX9_line_95 : decode cX9_line 95 = .ok (.aload_n 0, 1) := by decide +kernel
theorem dX9_line_96 : decode cX9_line 96 = .ok (.getfield 59, 3) := by decide +kernel
theorem dX9_line_99 : decode cX9_line 99 = .ok (.aload 5, 2) := by decide +kernel
theorem dX9_line_101 : decode cX9_line 101 = .ok (.iload_n 2, 1) := by decide +kernel
theorem dX9_line_102 : decode cX9_line 102 = .ok (.iload_n 3, 1) := by decide +kernel
theorem dX9_line_103 : decode cX9_line 103 = .ok (.invokevirtual 276, 3) := by decide +kernel
theorem dX9_line_106 : decode cX9_line 106 = .ok (.iload 4, 2) := by decide +kernel
theorem dX9_line_108 : decode cX9_line 108 = .ok (.ifCond .ne 11, 3) := by decide +kernel
theorem dX9_line_111 : decode cX9_line 111 = .ok (.aload_n 0, 1) := by decide +kernel
theorem dX9_line_112 : decode cX9_line 112 = .ok (.getfield 59, 3) := by decide +kernel
theorem dX9_line_115 : decode cX9_line 115 = .ok (.getfield 280, 3) := by decide +kernel
theorem dX9_line_118 : decode cX9_line 118 = .ok (.ireturn, 1) := by decide +kernel
theorem dX9_line_119 : decode cX9_line 119 = .ok (.iload 4, 2) := by decide +kernel
theorem dX9_line_121 : decode cX9_line 121 = .ok (.iconst 1, 1) := by decide +kernel
theorem dX9_line_122 : decode cX9_line 122 = .ok (.if_icmp .ne 11, 3) := by decide +kernel
theorem dX9_line_125 : decode cX9_line 125 = .ok (.aload_n 0, 1) := by decide +kernel
theorem dX9_line_126 : decode cX9_line 126 = .ok (.getfield 59, 3) := by decide +kernel
theorem dX9_line_129 : decode cX9_line 129 = .ok (.getfield 283, 3) := by decide +kernel
theorem dX9_line_132 : decode cX9_line 132 = .ok (.ireturn, 1) := by decide +kernel
theorem dX9_line_133 : decode cX9_line 133 = .ok (.iload 4, 2) := by decide +kernel
theorem dX9_line_135 : decode cX9_line 135 = .ok (.bipush 10, 2) := by decide +kernel
theorem dX9_line_137 : decode cX9_line 137 = .ok (.isub, 1) := by decide +kernel
theorem dX9_line_138 : decode cX9_line 138 = .ok (.aload_n 0, 1) := by decide +kernel
theorem dX9_line_139 : decode cX9_line 139 = .ok (.getfield 59, 3) := by decide +kernel
theorem dX9_line_142 : decode cX9_line 142 = .ok (.getfield 283, 3) := by decide +kernel
theorem dX9_line_145 : decode cX9_line 145 = .ok (.if_icmp .ge 19, 3) := by decide +kernel
theorem dX9_line_148 : decode cX9_line 148 = .ok (.aload_n 0, 1) := by decide +kernel
theorem dX9_line_149 : decode cX9_line 149 = .ok (.getfield 59, 3) := by decide +kernel
theorem dX9_line_152 : decode cX9_line 152 = .ok (.getfield 286, 3) := by decide +kernel
theorem dX9_line_155 : decode cX9_line 155 = .ok (.iload 4, 2) := by decide +kernel
theorem dX9_line_157 : decode cX9_line 157 = .ok (.bipush 10, 2) := by decide +kernel
theorem dX9_line_159 : decode cX9_line 159 = .ok (.isub, 1) := by decide +kernel
theorem dX9_line_160 : decode cX9_line 160 = .ok (.iaload, 1) := by decide +kernel
theorem dX9_line_161 : decode cX9_line 161 = .ok (.goto 9, 3) := by decide +kernel
theorem dX9_line_164 : decode cX9_line 164 = .ok (.aload_n 0, 1) := by decide +kernel
theorem dX9_line_165 : decode cX9_line 165 = .ok (.bipush (-2), 2) := by decide +kernel
theorem dX9_line_167 : decode cX9_line 167 = .ok (.invokevirtual 79, 3) := by decide +kernel
theorem dX9_line_170 : decode cX9_line 170 = .ok (.ireturn, 1) := by decide +kernel

def f_X9_line (fu : Nat) (M : gz_M) (a0 : Nat) (a1 : Int32) (a2 : Int32) (a3 : Int32) (a4 : Int32) : Option (Int32 × gz_M) :=
  gz_gd M 9 a0 <|
  (f_X9_isValley fu M a0 a1).bind fun x1 =>
  gz_jn (gz_b2 (f_X9_refuse fu M a0 (-2 : Int32)) fun x27 M28 =>
    some (x27, M28)) fun j27 =>
  if x1 = 0 then
    j27
  else
    (f_X9_isWithin fu M a2 (0 : Int32) (2 : Int32)).bind fun x2 =>
    if x2 = 0 then
      j27
    else
      (f_X9_isWithin fu M a3 (1 : Int32) (6 : Int32)).bind fun x3 =>
      if x3 = 0 then
        j27
      else
        (gz_gR M 9 3 a0).bind fun x4 =>
        (gz_gR M 8 0 x4).bind fun x5 =>
        (gz_aR M x5 a1).bind fun x6 =>
        gz_jn (fun (x8 : Int32) =>
        (gz_gI M 7 4 x6).bind fun x9 =>
          gz_jn (gz_b2 (f_X9_refuse fu M a0 (-2 : Int32)) fun x25 M26 =>
            some (x25, M26)) fun j88 =>
          if x9 = 0 then
            j88
          else
            if x8 = 0 then
              j88
            else
              (gz_gR M 9 8 a0).bind fun x10 =>
              (f_X5_solve fu M x10 x6 a2 a3).bind fun M11 =>
              if a4 = 0 then
                (gz_gR M11 9 8 a0).bind fun x12 =>
                (gz_gI M11 5 2 x12).bind fun x13 =>
                some (x13, M11)
              else
                if a4 = (1 : Int32) then
                  (gz_gR M11 9 8 a0).bind fun x14 =>
                  (gz_gI M11 5 1 x14).bind fun x15 =>
                  some (x15, M11)
                else
                  (gz_gR M11 9 8 a0).bind fun x16 =>
                  (gz_gI M11 5 1 x16).bind fun x17 =>
                  gz_jn (fun (x23 : Int32) (M24 : gz_M) =>
                  some (x23, M24)) fun j170 =>
                  if x17 ≤ (a4 - (10 : Int32)) then
                    gz_b2 (f_X9_refuse fu M11 a0 (-2 : Int32)) fun x21 M22 =>
                    j170 x21 M22
                  else
                    (gz_gR M11 9 8 a0).bind fun x18 =>
                    (gz_gR M11 5 0 x18).bind fun x19 =>
                    (gz_aI M11 x19 (a4 - (10 : Int32))).bind fun x20 =>
                    j170 x20 M11) fun j73 =>
        gz_jn (j73 (1 : Int32)) fun j68 =>
        if a4 = 0 then
          j68
        else
          if a4 = (1 : Int32) then
            j68
          else
            (f_X9_isWithin fu M a4 (10 : Int32) (15 : Int32)).bind fun x7 =>
            if x7 = 0 then
              j73 (0 : Int32)
            else
              j68

set_option maxHeartbeats 4000000 in
theorem ct_X9_line (l : Launch) (G : gz_G) (fu : Nat) (M : gz_M) (a0 : Nat) (a1 : Int32) (a2 : Int32) (a3 : Int32) (a4 : Int32) (y : Int32 × gz_M) (hF : f_X9_line fu M a0 a1 a2 a3 a4 = some y) : gz_ct l yX9_line cX9_line 7 (some .int) 4 93 0 0 G [.ref a0, .int a1, .int a2, .int a3, .int a4] M (some (.int y.1)) y.2 := by
  refine gz_ct.of (by decide) (Nat.le_of_ble_eq_true rfl) (fun C hC hX => ?_)
  unfold f_X9_line at hF
  obtain ⟨-, hF⟩ := gz_gd_some hF
  show gz_go C 0 0 M [(0, .ref a0), (1, .int a1), (2, .int a2), (3, .int a3), (4, .int a4)] 0 []
  refine gz_aload_n 0 hC 0 dX9_line_0 rfl rfl ?_
  refine gz_iload_n 1 hC 1 dX9_line_1 rfl rfl ?_
  refine gz_cvP (st := []) 2 hC hX [.int a1] Value.int yl_X9_isValley yv_X9_isValley q_509 ⟨Nat.le_of_ble_eq_true rfl, Nat.le_of_ble_eq_true rfl⟩ ⟨_, rfl⟩ (fun r h => ct_X9_isValley _ _ fu M a0 a1 r h) rfl rfl (Nat.le_of_ble_eq_true rfl) dX9_line_2 gz_00 hF (fun x1 hF => ?_)
  refine gz_join (fun (j : Option (Int32 × gz_M)) => j = some y → gz_go C 0 0 M [(0, .ref a0)] 27 []) hF (fun hF => ?_) (fun j27 hj27 hF => ?_)
  · skip
    refine gz_aload_n 27 hC 0 dX9_line_27 rfl rfl ?_
    refine gz_bipush 28 hC (-2 : Int32) dX9_line_28 gz_bm2 ?_
    refine gz_cvM (st := []) 30 hC hX [.int (-2 : Int32)] Value.int yl_X9_refuse yv_X9_refuse q_417 ⟨Nat.le_of_ble_eq_true rfl, Nat.le_of_ble_eq_true rfl⟩ ⟨_, rfl⟩ (fun r h => ct_X9_refuse _ _ fu M a0 (-2 : Int32) r h) rfl rfl (Nat.le_of_ble_eq_true rfl) dX9_line_30 gz_00 hF (fun x27 M28 hF => ?_)
    exact gz_iretM 33 hC hX dX9_line_33 hF
  refine gz_if_eq 5 27 hC dX9_line_5 (by decide) hF (fun hF => ?_) (fun hF => ?_)
  · skip
    refine gz_sub [0] [(0, .ref a0)] rfl ?_
    exact hj27 hF
  · skip
    refine gz_iload_n 8 hC 2 dX9_line_8 rfl rfl ?_
    refine gz_iconst 9 hC (0 : Int32) dX9_line_9 gz_k0 ?_
    refine gz_iconst 10 hC (2 : Int32) dX9_line_10 gz_k2 ?_
    refine gz_csP (st := []) 11 hC hX [.int a2, .int (0 : Int32), .int (2 : Int32)] Value.int yl_X9_isWithin yv_X9_isWithin q_414 ⟨Nat.le_of_ble_eq_true rfl, Nat.le_of_ble_eq_true rfl⟩ (fun r h => ct_X9_isWithin _ _ fu M a2 (0 : Int32) (2 : Int32) r h) rfl rfl (Nat.le_of_ble_eq_true rfl) dX9_line_11 gz_00 hF (fun x2 hF => ?_)
    refine gz_if_eq 14 27 hC dX9_line_14 (by decide) hF (fun hF => ?_) (fun hF => ?_)
    · skip
      refine gz_sub [0] [(0, .ref a0)] rfl ?_
      exact hj27 hF
    · skip
      refine gz_iload_n 17 hC 3 dX9_line_17 rfl rfl ?_
      refine gz_iconst 18 hC (1 : Int32) dX9_line_18 gz_k1 ?_
      refine gz_bipush 19 hC (6 : Int32) dX9_line_19 gz_b6 ?_
      refine gz_csP (st := []) 21 hC hX [.int a3, .int (1 : Int32), .int (6 : Int32)] Value.int yl_X9_isWithin yv_X9_isWithin q_414 ⟨Nat.le_of_ble_eq_true rfl, Nat.le_of_ble_eq_true rfl⟩ (fun r h => ct_X9_isWithin _ _ fu M a3 (1 : Int32) (6 : Int32) r h) rfl rfl (Nat.le_of_ble_eq_true rfl) dX9_line_21 gz_00 hF (fun x3 hF => ?_)
      refine gz_if_ne 24 34 hC dX9_line_24 (by decide) hF (fun hF => ?_) (fun hF => ?_)
      · skip
        refine gz_aload_n 34 hC 0 dX9_line_34 rfl rfl ?_
        refine gz_getR 35 hC fl_X9_34 fk_9_3 dX9_line_35 hF (fun x4 hF => ?_)
        refine gz_getR 38 hC fl_X9_147 fk_8_0 dX9_line_38 hF (fun x5 hF => ?_)
        refine gz_iload_n 41 hC 1 dX9_line_41 rfl rfl ?_
        refine gz_aald 42 hC dX9_line_42 hF (fun x6 hF => ?_)
        refine gz_astore 43 hC [(5, .ref x6), (0, .ref a0), (1, .int a1), (2, .int a2), (3, .int a3), (4, .int a4)] dX9_line_43 (by decide) rfl ?_
        refine gz_iload 45 hC 5 dX9_line_45 rfl ?_
        refine gz_join (fun (j : Int32 → Option (Int32 × gz_M)) => ∀ (x8 : Int32), j x8 = some y → gz_go C 0 0 M [(0, .ref a0), (2, .int a2), (3, .int a3), (4, .int a4), (5, .ref x6)] 73 [.int x8]) hF (fun x8 hF => ?_) (fun j73 hj73 hF => ?_)
        · skip
          refine gz_istore 73 hC [(6, .int x8), (0, .ref a0), (2, .int a2), (3, .int a3), (4, .int a4), (5, .ref x6)] dX9_line_73 (by decide) rfl ?_
          refine gz_aload 75 hC 5 dX9_line_75 rfl ?_
          refine gz_getI 77 hC fl_X9_162 fk_7_4 dX9_line_77 hF (fun x9 hF => ?_)
          refine gz_join (fun (j : Option (Int32 × gz_M)) => j = some y → gz_go C 0 0 M [(0, .ref a0)] 88 []) hF (fun hF => ?_) (fun j88 hj88 hF => ?_)
          · skip
            refine gz_aload_n 88 hC 0 dX9_line_88 rfl rfl ?_
            refine gz_bipush 89 hC (-2 : Int32) dX9_line_89 gz_bm2 ?_
            refine gz_cvM (st := []) 91 hC hX [.int (-2 : Int32)] Value.int yl_X9_refuse yv_X9_refuse q_417 ⟨Nat.le_of_ble_eq_true rfl, Nat.le_of_ble_eq_true rfl⟩ ⟨_, rfl⟩ (fun r h => ct_X9_refuse _ _ fu M a0 (-2 : Int32) r h) rfl rfl (Nat.le_of_ble_eq_true rfl) dX9_line_91 gz_00 hF (fun x25 M26 hF => ?_)
            exact gz_iretM 94 hC hX dX9_line_94 hF
          refine gz_if_eq 80 88 hC dX9_line_80 (by decide) hF (fun hF => ?_) (fun hF => ?_)
          · skip
            refine gz_sub [1] [(0, .ref a0)] rfl ?_
            exact hj88 hF
          · skip
            refine gz_iload 83 hC 0 dX9_line_83 rfl ?_
            refine gz_if_ne 85 95 hC dX9_line_85 (by decide) hF (fun hF => ?_) (fun hF => ?_)
            · skip
              refine gz_aload_n 95 hC 1 dX9_line_95 rfl rfl ?_
              refine gz_getR 96 hC fl_X9_59 fk_9_8 dX9_line_96 hF (fun x10 hF => ?_)
              refine gz_aload 99 hC 5 dX9_line_99 rfl ?_
              refine gz_iload_n 101 hC 2 dX9_line_101 rfl rfl ?_
              refine gz_iload_n 102 hC 3 dX9_line_102 rfl rfl ?_
              refine gz_cvV (st := []) 103 hC hX [.ref x6, .int a2, .int a3] yl_X5_solve yv_X5_solve q_909 ⟨Nat.le_of_ble_eq_true rfl, Nat.le_of_ble_eq_true rfl⟩ ⟨_, rfl⟩ (fun r h => ct_X5_solve _ _ fu M x10 x6 a2 a3 r h) rfl rfl (Nat.le_of_ble_eq_true rfl) dX9_line_103 gz_00 hF (fun M11 hF => ?_)
              refine gz_iload 106 hC 4 dX9_line_106 rfl ?_
              refine gz_if_ne 108 119 hC dX9_line_108 (by decide) hF (fun hF => ?_) (fun hF => ?_)
              · skip
                refine gz_iload 119 hC 4 dX9_line_119 rfl ?_
                refine gz_iconst 121 hC (1 : Int32) dX9_line_121 gz_k1 ?_
                refine gz_icmp_ne 122 133 hC dX9_line_122 (by decide) hF (fun hF => ?_) (fun hF => ?_)
                · skip
                  refine gz_iload 133 hC 4 dX9_line_133 rfl ?_
                  refine gz_bipush 135 hC (10 : Int32) dX9_line_135 gz_b10 ?_
                  refine gz_isub 137 hC dX9_line_137 ?_
                  refine gz_aload_n 138 hC 1 dX9_line_138 rfl rfl ?_
                  refine gz_getR 139 hC fl_X9_59 fk_9_8 dX9_line_139 hF (fun x16 hF => ?_)
                  refine gz_getI 142 hC fl_X9_283 fk_5_1 dX9_line_142 hF (fun x17 hF => ?_)
                  refine gz_join (fun (j : Int32 → gz_M → Option (Int32 × gz_M)) => ∀ (x23 : Int32) (M24 : gz_M), j x23 M24 = some y → gz_go C 0 0 M24 [] 170 [.int x23]) hF (fun x23 M24 hF => ?_) (fun j170 hj170 hF => ?_)
                  · skip
                    exact gz_iretM 170 hC hX dX9_line_170 hF
                  refine gz_icmp_ge 145 164 hC dX9_line_145 (by decide) hF (fun hF => ?_) (fun hF => ?_)
                  · skip
                    refine gz_aload_n 164 hC 1 dX9_line_164 rfl rfl ?_
                    refine gz_bipush 165 hC (-2 : Int32) dX9_line_165 gz_bm2 ?_
                    refine gz_cvM (st := []) 167 hC hX [.int (-2 : Int32)] Value.int yl_X9_refuse yv_X9_refuse q_417 ⟨Nat.le_of_ble_eq_true rfl, Nat.le_of_ble_eq_true rfl⟩ ⟨_, rfl⟩ (fun r h => ct_X9_refuse _ _ fu M11 a0 (-2 : Int32) r h) rfl rfl (Nat.le_of_ble_eq_true rfl) dX9_line_167 gz_00 hF (fun x21 M22 hF => ?_)
                    refine gz_sub [] [] rfl ?_
                    exact hj170 _ _ hF
                  · skip
                    refine gz_aload_n 148 hC 1 dX9_line_148 rfl rfl ?_
                    refine gz_getR 149 hC fl_X9_59 fk_9_8 dX9_line_149 hF (fun x18 hF => ?_)
                    refine gz_getR 152 hC fl_X9_286 fk_5_0 dX9_line_152 hF (fun x19 hF => ?_)
                    refine gz_iload 155 hC 4 dX9_line_155 rfl ?_
                    refine gz_bipush 157 hC (10 : Int32) dX9_line_157 gz_b10 ?_
                    refine gz_isub 159 hC dX9_line_159 ?_
                    refine gz_iald 160 hC dX9_line_160 hF (fun x20 hF => ?_)
                    refine gz_goto 161 170 hC dX9_line_161 (by decide) ?_
                    refine gz_sub [] [] rfl ?_
                    exact hj170 _ _ hF
                · skip
                  refine gz_aload_n 125 hC 1 dX9_line_125 rfl rfl ?_
                  refine gz_getR 126 hC fl_X9_59 fk_9_8 dX9_line_126 hF (fun x14 hF => ?_)
                  refine gz_getI 129 hC fl_X9_283 fk_5_1 dX9_line_129 hF (fun x15 hF => ?_)
                  exact gz_iretM 132 hC hX dX9_line_132 hF
              · skip
                refine gz_aload_n 111 hC 1 dX9_line_111 rfl rfl ?_
                refine gz_getR 112 hC fl_X9_59 fk_9_8 dX9_line_112 hF (fun x12 hF => ?_)
                refine gz_getI 115 hC fl_X9_280 fk_5_2 dX9_line_115 hF (fun x13 hF => ?_)
                exact gz_iretM 118 hC hX dX9_line_118 hF
            · skip
              refine gz_sub [1] [(0, .ref a0)] rfl ?_
              exact hj88 hF
        refine gz_join (fun (j : Option (Int32 × gz_M)) => j = some y → gz_go C 0 0 M [(0, .ref a0), (2, .int a2), (3, .int a3), (4, .int a4), (5, .ref x6)] 68 []) hF (fun hF => ?_) (fun j68 hj68 hF => ?_)
        · skip
          refine gz_iconst 68 hC (1 : Int32) dX9_line_68 gz_k1 ?_
          refine gz_goto 69 73 hC dX9_line_69 (by decide) ?_
          exact hj73 _ hF
        refine gz_if_eq 47 68 hC dX9_line_47 (by decide) hF (fun hF => ?_) (fun hF => ?_)
        · skip
          refine gz_sub [1, 3, 4, 5, 0] [(0, .ref a0), (2, .int a2), (3, .int a3), (4, .int a4), (5, .ref x6)] rfl ?_
          exact hj68 hF
        · skip
          refine gz_iload 50 hC 5 dX9_line_50 rfl ?_
          refine gz_iconst 52 hC (1 : Int32) dX9_line_52 gz_k1 ?_
          refine gz_icmp_eq 53 68 hC dX9_line_53 (by decide) hF (fun hF => ?_) (fun hF => ?_)
          · skip
            refine gz_sub [1, 3, 4, 5, 0] [(0, .ref a0), (2, .int a2), (3, .int a3), (4, .int a4), (5, .ref x6)] rfl ?_
            exact hj68 hF
          · skip
            refine gz_iload 56 hC 5 dX9_line_56 rfl ?_
            refine gz_bipush 58 hC (10 : Int32) dX9_line_58 gz_b10 ?_
            refine gz_bipush 60 hC (15 : Int32) dX9_line_60 gz_b15 ?_
            refine gz_csP (st := []) 62 hC hX [.int a4, .int (10 : Int32), .int (15 : Int32)] Value.int yl_X9_isWithin yv_X9_isWithin q_414 ⟨Nat.le_of_ble_eq_true rfl, Nat.le_of_ble_eq_true rfl⟩ (fun r h => ct_X9_isWithin _ _ fu M a4 (10 : Int32) (15 : Int32) r h) rfl rfl (Nat.le_of_ble_eq_true rfl) dX9_line_62 gz_00 hF (fun x7 hF => ?_)
            refine gz_if_eq 65 72 hC dX9_line_65 (by decide) hF (fun hF => ?_) (fun hF => ?_)
            · skip
              refine gz_iconst 72 hC (0 : Int32) dX9_line_72 gz_k0 ?_
              refine gz_sub [1, 3, 4, 5, 0] [(0, .ref a0), (2, .int a2), (3, .int a3), (4, .int a4), (5, .ref x6)] rfl ?_
              exact hj73 _ hF
            · skip
              refine gz_sub [1, 3, 4, 5, 0] [(0, .ref a0), (2, .int a2), (3, .int a3), (4, .int a4), (5, .ref x6)] rfl ?_
              exact hj68 hF
      · skip
        refine gz_sub [0] [(0, .ref a0)] rfl ?_
        exact hj27 hF

theorem dX9_corners_0 : decode cX9_corners 0 = .ok (.aload_n 0, 1) := by decide +kernel
theorem dX9_corners_1 : decode cX9_corners 1 = .ok (.iload_n 1, 1) := by decide +kernel
theorem dX9_corners_2 : decode cX9_corners 2 = .ok (.invokevirtual 159, 3) := by decide +kernel
theorem dX9_corners_5 : decode cX9_corners 5 = .ok (.ifCond .ne 10, 3) := by decide +kernel
theorem dX9_corners_8 : decode cX9_corners 8 = .ok (.aload_n 0, 1) := by decide +kernel
theorem dX9_corners_9 : decode cX9_corners 9 = .ok (.bipush (-2), 2) := by decide +kernel
theorem dX9_corners_11 : decode cX9_corners 11 = .ok (.invokevirtual 79, 3) := by decide +kernel
theorem dX9_corners_14 : decode cX9_corners 14 = .ok (.ireturn, 1) := by decide +kernel
theorem dX9_corners_15 : decode cX9_corners 15 = .ok (.aload_n 0, 1) := by decide +kernel
theorem dX9_corners_16 : decode cX9_corners 16 = .ok (.getfield 66, 3) := by decide +kernel
theorem dX9_corners_19 : decode cX9_corners 19 = .ok (.aload_n 0, 1) := by decide +kernel
theorem dX9_corners_20 : decode cX9_corners 20 = .ok (.getfield 34, 3) := by decide +kernel
theorem dX9_corners_23 : decode cX9_corners 23 = .ok (.getfield 147, 3) := by decide +kernel
theorem dX9_corners_26 : decode cX9_corners 26 = .ok (.iload_n 1, 1) := by decide +kernel
theorem dX9_corners_27 : decode cX9_corners 27 = .ok (.aaload, 1) := by decide +kernel
theorem dX9_corners_28 : decode cX9_corners 28 = .ok (.invokevirtual 289, 3) := by decide +kernel
theorem dX9_corners_31 : decode cX9_corners 31 = .ok (.ireturn, 1) := by decide +kernel

def f_X9_corners (fu : Nat) (M : gz_M) (a0 : Nat) (a1 : Int32) : Option (Int32 × gz_M) :=
  gz_gd M 9 a0 <|
  (f_X9_isValley fu M a0 a1).bind fun x1 =>
  if x1 = 0 then
    gz_b2 (f_X9_refuse fu M a0 (-2 : Int32)) fun x2 M3 =>
    some (x2, M3)
  else
    (gz_gR M 9 9 a0).bind fun x4 =>
    (gz_gR M 9 3 a0).bind fun x5 =>
    (gz_gR M 8 0 x5).bind fun x6 =>
    (gz_aR M x6 a1).bind fun x7 =>
    gz_b2 (f_X0_countIn fu M x4 x7) fun x8 M9 =>
    some (x8, M9)

set_option maxHeartbeats 4000000 in
theorem ct_X9_corners (l : Launch) (G : gz_G) (fu : Nat) (M : gz_M) (a0 : Nat) (a1 : Int32) (y : Int32 × gz_M) (hF : f_X9_corners fu M a0 a1 = some y) : gz_ct l yX9_corners cX9_corners 2 (some .int) 4 92 0 0 G [.ref a0, .int a1] M (some (.int y.1)) y.2 := by
  refine gz_ct.of (by decide) (Nat.le_of_ble_eq_true rfl) (fun C hC hX => ?_)
  unfold f_X9_corners at hF
  obtain ⟨-, hF⟩ := gz_gd_some hF
  show gz_go C 0 0 M [(0, .ref a0), (1, .int a1)] 0 []
  refine gz_aload_n 0 hC 0 dX9_corners_0 rfl rfl ?_
  refine gz_iload_n 1 hC 1 dX9_corners_1 rfl rfl ?_
  refine gz_cvP (st := []) 2 hC hX [.int a1] Value.int yl_X9_isValley yv_X9_isValley q_509 ⟨Nat.le_of_ble_eq_true rfl, Nat.le_of_ble_eq_true rfl⟩ ⟨_, rfl⟩ (fun r h => ct_X9_isValley _ _ fu M a0 a1 r h) rfl rfl (Nat.le_of_ble_eq_true rfl) dX9_corners_2 gz_00 hF (fun x1 hF => ?_)
  refine gz_if_ne 5 15 hC dX9_corners_5 (by decide) hF (fun hF => ?_) (fun hF => ?_)
  · skip
    refine gz_aload_n 15 hC 0 dX9_corners_15 rfl rfl ?_
    refine gz_getR 16 hC fl_X9_66 fk_9_9 dX9_corners_16 hF (fun x4 hF => ?_)
    refine gz_aload_n 19 hC 0 dX9_corners_19 rfl rfl ?_
    refine gz_getR 20 hC fl_X9_34 fk_9_3 dX9_corners_20 hF (fun x5 hF => ?_)
    refine gz_getR 23 hC fl_X9_147 fk_8_0 dX9_corners_23 hF (fun x6 hF => ?_)
    refine gz_iload_n 26 hC 1 dX9_corners_26 rfl rfl ?_
    refine gz_aald 27 hC dX9_corners_27 hF (fun x7 hF => ?_)
    refine gz_cvM (st := []) 28 hC hX [.ref x7] Value.int yl_X0_countIn yv_X0_countIn q_944 ⟨Nat.le_of_ble_eq_true rfl, Nat.le_of_ble_eq_true rfl⟩ ⟨_, rfl⟩ (fun r h => ct_X0_countIn _ _ fu M x4 x7 r h) rfl rfl (Nat.le_of_ble_eq_true rfl) dX9_corners_28 gz_00 hF (fun x8 M9 hF => ?_)
    exact gz_iretM 31 hC hX dX9_corners_31 hF
  · skip
    refine gz_aload_n 8 hC 0 dX9_corners_8 rfl rfl ?_
    refine gz_bipush 9 hC (-2 : Int32) dX9_corners_9 gz_bm2 ?_
    refine gz_cvM (st := []) 11 hC hX [.int (-2 : Int32)] Value.int yl_X9_refuse yv_X9_refuse q_417 ⟨Nat.le_of_ble_eq_true rfl, Nat.le_of_ble_eq_true rfl⟩ ⟨_, rfl⟩ (fun r h => ct_X9_refuse _ _ fu M a0 (-2 : Int32) r h) rfl rfl (Nat.le_of_ble_eq_true rfl) dX9_corners_11 gz_00 hF (fun x2 M3 hF => ?_)
    exact gz_iretM 14 hC hX dX9_corners_14 hF

theorem dX9_corner_0 : decode cX9_corner 0 = .ok (.aload_n 0, 1) := by decide +kernel
theorem dX9_corner_1 : decode cX9_corner 1 = .ok (.iload_n 1, 1) := by decide +kernel
theorem dX9_corner_2 : decode cX9_corner 2 = .ok (.invokevirtual 159, 3) := by decide +kernel
theorem dX9_corner_5 : decode cX9_corner 5 = .ok (.ifCond .eq 27, 3) := by decide +kernel
theorem dX9_corner_8 : decode cX9_corner 8 = .ok (.iload_n 2, 1) := by decide +kernel
theorem dX9_corner_9 : decode cX9_corner 9 = .ok (.iconst 0, 1) := by decide +kernel
theorem dX9_corner_10 : decode cX9_corner 10 = .ok (.iconst 4, 1) := by decide +kernel
theorem dX9_corner_11 : decode cX9_corner 11 = .ok (.invokestatic 75, 3) := by decide +kernel
theorem dX9_corner_14 : decode cX9_corner 14 = .ok (.ifCond .eq 18, 3) := by decide +kernel
theorem dX9_corner_17 : decode cX9_corner 17 = .ok (.aload_n 0, 1) := by decide +kernel
theorem dX9_corner_18 : decode cX9_corner 18 = .ok (.getfield 34, 3) := by decide +kernel
theorem dX9_corner_21 : decode cX9_corner 21 = .ok (.getfield 147, 3) := by decide +kernel
theorem dX9_corner_24 : decode cX9_corner 24 = .ok (.iload_n 1, 1) := by decide +kernel
theorem dX9_corner_25 : decode cX9_corner 25 = .ok (.aaload, 1) := by decide +kernel
theorem dX9_corner_26 : decode cX9_corner 26 = .ok (.getfield 162, 3) := by decide +kernel
theorem dX9_corner_29 : decode cX9_corner 29 = .ok (.ifCond .ne 10, 3) := by decide +kernel
theorem dX9_corner_32 : decode cX9_corner 32 = .ok (.aload_n 0, 1) := by decide +kernel
theorem dX9_corner_33 : decode cX9_corner 33 = .ok (.bipush (-2), 2) := by decide +kernel
theorem dX9_corner_35 : decode cX9_corner 35 = .ok (.invokevirtual 79, 3) := by decide +kernel
theorem dX9_corner_38 : decode cX9_corner 38 = .ok (.ireturn, 1) := by decide +kernel
theorem dX9_corner_39 : decode cX9_corner 39 = .ok (.aload_n 0, 1) := by decide +kernel
theorem dX9_corner_40 : decode cX9_corner 40 = .ok (.getfield 66, 3) := by decide +kernel
theorem dX9_corner_43 : decode cX9_corner 43 = .ok (.aload_n 0, 1) := by decide +kernel
theorem dX9_corner_44 : decode cX9_corner 44 = .ok (.getfield 34, 3) := by decide +kernel
theorem dX9_corner_47 : decode cX9_corner 47 = .ok (.getfield 147, 3) := by decide +kernel
theorem dX9_corner_50 : decode cX9_corner 50 = .ok (.iload_n 1, 1) := by decide +kernel
theorem dX9_corner_51 : decode cX9_corner 51 = .ok (.aaload, 1) := by decide +kernel
theorem dX9_corner_52 : decode cX9_corner 52 = .ok (.invokevirtual 292, 3) := by decide +kernel
theorem dX9_corner_55 : decode cX9_corner 55 = .ok (.iload_n 2, 1) := by decide +kernel
theorem dX9_corner_56 : decode cX9_corner 56 = .ok (.lookupswitch 44 #[(0, 28), (1, 36)], 28) := by decide +kernel
theorem dX9_corner_84 : decode cX9_corner 84 = .ok (.aload_n 0, 1) := by decide +kernel
theorem dX9_corner_85 : decode cX9_corner 85 = .ok (.getfield 66, 3) := by decide +kernel
theorem dX9_corner_88 : decode cX9_corner 88 = .ok (.getfield 295, 3) := by decide +kernel
theorem dX9_corner_91 : decode cX9_corner 91 = .ok (.ireturn, 1) := by decide +kernel
theorem dX9_corner_92 : decode cX9_corner 92 = .ok (.aload_n 0, 1) := by decide +kernel
theorem dX9_corner_93 : decode cX9_corner 93 = .ok (.getfield 66, 3) := by decide +kernel
theorem dX9_corner_96 : decode cX9_corner 96 = .ok (.getfield 298, 3) := by decide +kernel
theorem dX9_corner_99 : decode cX9_corner 99 = .ok (.ireturn, 1) := by decide +kernel
theorem dX9_corner_100 : decode cX9_corner 100 = .ok (.aload_n 0, 1) := by decide +kernel
theorem dX9_corner_101 : decode cX9_corner 101 = .ok (.getfield 66, 3) := by decide +kernel
theorem dX9_corner_104 : decode cX9_corner 104 = .ok (.getfield 301, 3) := by decide +kernel
theorem dX9_corner_107 : decode cX9_corner 107 = .ok (.iload_n 2, 1) := by decide +kernel
theorem dX9_corner_108 : decode cX9_corner 108 = .ok (.iconst 2, 1) := by decide +kernel
theorem dX9_corner_109 : decode cX9_corner 109 = .ok (.isub, 1) := by decide +kernel
theorem dX9_corner_110 : decode cX9_corner 110 = .ok (.iaload, 1) := by decide +kernel
theorem dX9_corner_111 : decode cX9_corner 111 = .ok (.ireturn, 1) := by decide +kernel

def f_X9_corner (fu : Nat) (M : gz_M) (a0 : Nat) (a1 : Int32) (a2 : Int32) : Option (Int32 × gz_M) :=
  gz_gd M 9 a0 <|
  (f_X9_isValley fu M a0 a1).bind fun x1 =>
  gz_jn (gz_b2 (f_X9_refuse fu M a0 (-2 : Int32)) fun x19 M20 =>
    some (x19, M20)) fun j32 =>
  if x1 = 0 then
    j32
  else
    (f_X9_isWithin fu M a2 (0 : Int32) (4 : Int32)).bind fun x2 =>
    if x2 = 0 then
      j32
    else
      (gz_gR M 9 3 a0).bind fun x3 =>
      (gz_gR M 8 0 x3).bind fun x4 =>
      (gz_aR M x4 a1).bind fun x5 =>
      (gz_gI M 7 4 x5).bind fun x6 =>
      if x6 = 0 then
        j32
      else
        (gz_gR M 9 9 a0).bind fun x7 =>
        (gz_gR M 9 3 a0).bind fun x8 =>
        (gz_gR M 8 0 x8).bind fun x9 =>
        (gz_aR M x9 a1).bind fun x10 =>
        (f_X0_seekIn fu M x7 x10).bind fun M11 =>
        if a2 = (0 : Int32) then (gz_gR M11 9 9 a0).bind fun x17 =>
          (gz_gI M11 0 1 x17).bind fun x18 =>
          some (x18, M11) else if a2 = (1 : Int32) then (gz_gR M11 9 9 a0).bind fun x15 =>
          (gz_gI M11 0 2 x15).bind fun x16 =>
          some (x16, M11) else (gz_gR M11 9 9 a0).bind fun x12 =>
        (gz_gR M11 0 0 x12).bind fun x13 =>
        (gz_aI M11 x13 (a2 - (2 : Int32))).bind fun x14 =>
        some (x14, M11)

set_option maxHeartbeats 4000000 in
theorem ct_X9_corner (l : Launch) (G : gz_G) (fu : Nat) (M : gz_M) (a0 : Nat) (a1 : Int32) (a2 : Int32) (y : Int32 × gz_M) (hF : f_X9_corner fu M a0 a1 a2 = some y) : gz_ct l yX9_corner cX9_corner 3 (some .int) 5 118 0 0 G [.ref a0, .int a1, .int a2] M (some (.int y.1)) y.2 := by
  refine gz_ct.of (by decide) (Nat.le_of_ble_eq_true rfl) (fun C hC hX => ?_)
  unfold f_X9_corner at hF
  obtain ⟨-, hF⟩ := gz_gd_some hF
  show gz_go C 0 0 M [(0, .ref a0), (1, .int a1), (2, .int a2)] 0 []
  refine gz_aload_n 0 hC 0 dX9_corner_0 rfl rfl ?_
  refine gz_iload_n 1 hC 1 dX9_corner_1 rfl rfl ?_
  refine gz_cvP (st := []) 2 hC hX [.int a1] Value.int yl_X9_isValley yv_X9_isValley q_509 ⟨Nat.le_of_ble_eq_true rfl, Nat.le_of_ble_eq_true rfl⟩ ⟨_, rfl⟩ (fun r h => ct_X9_isValley _ _ fu M a0 a1 r h) rfl rfl (Nat.le_of_ble_eq_true rfl) dX9_corner_2 gz_00 hF (fun x1 hF => ?_)
  refine gz_join (fun (j : Option (Int32 × gz_M)) => j = some y → gz_go C 0 0 M [(0, .ref a0)] 32 []) hF (fun hF => ?_) (fun j32 hj32 hF => ?_)
  · skip
    refine gz_aload_n 32 hC 0 dX9_corner_32 rfl rfl ?_
    refine gz_bipush 33 hC (-2 : Int32) dX9_corner_33 gz_bm2 ?_
    refine gz_cvM (st := []) 35 hC hX [.int (-2 : Int32)] Value.int yl_X9_refuse yv_X9_refuse q_417 ⟨Nat.le_of_ble_eq_true rfl, Nat.le_of_ble_eq_true rfl⟩ ⟨_, rfl⟩ (fun r h => ct_X9_refuse _ _ fu M a0 (-2 : Int32) r h) rfl rfl (Nat.le_of_ble_eq_true rfl) dX9_corner_35 gz_00 hF (fun x19 M20 hF => ?_)
    exact gz_iretM 38 hC hX dX9_corner_38 hF
  refine gz_if_eq 5 32 hC dX9_corner_5 (by decide) hF (fun hF => ?_) (fun hF => ?_)
  · skip
    refine gz_sub [0] [(0, .ref a0)] rfl ?_
    exact hj32 hF
  · skip
    refine gz_iload_n 8 hC 2 dX9_corner_8 rfl rfl ?_
    refine gz_iconst 9 hC (0 : Int32) dX9_corner_9 gz_k0 ?_
    refine gz_iconst 10 hC (4 : Int32) dX9_corner_10 gz_k4 ?_
    refine gz_csP (st := []) 11 hC hX [.int a2, .int (0 : Int32), .int (4 : Int32)] Value.int yl_X9_isWithin yv_X9_isWithin q_414 ⟨Nat.le_of_ble_eq_true rfl, Nat.le_of_ble_eq_true rfl⟩ (fun r h => ct_X9_isWithin _ _ fu M a2 (0 : Int32) (4 : Int32) r h) rfl rfl (Nat.le_of_ble_eq_true rfl) dX9_corner_11 gz_00 hF (fun x2 hF => ?_)
    refine gz_if_eq 14 32 hC dX9_corner_14 (by decide) hF (fun hF => ?_) (fun hF => ?_)
    · skip
      refine gz_sub [0] [(0, .ref a0)] rfl ?_
      exact hj32 hF
    · skip
      refine gz_aload_n 17 hC 0 dX9_corner_17 rfl rfl ?_
      refine gz_getR 18 hC fl_X9_34 fk_9_3 dX9_corner_18 hF (fun x3 hF => ?_)
      refine gz_getR 21 hC fl_X9_147 fk_8_0 dX9_corner_21 hF (fun x4 hF => ?_)
      refine gz_iload_n 24 hC 1 dX9_corner_24 rfl rfl ?_
      refine gz_aald 25 hC dX9_corner_25 hF (fun x5 hF => ?_)
      refine gz_getI 26 hC fl_X9_162 fk_7_4 dX9_corner_26 hF (fun x6 hF => ?_)
      refine gz_if_ne 29 39 hC dX9_corner_29 (by decide) hF (fun hF => ?_) (fun hF => ?_)
      · skip
        refine gz_aload_n 39 hC 0 dX9_corner_39 rfl rfl ?_
        refine gz_getR 40 hC fl_X9_66 fk_9_9 dX9_corner_40 hF (fun x7 hF => ?_)
        refine gz_aload_n 43 hC 0 dX9_corner_43 rfl rfl ?_
        refine gz_getR 44 hC fl_X9_34 fk_9_3 dX9_corner_44 hF (fun x8 hF => ?_)
        refine gz_getR 47 hC fl_X9_147 fk_8_0 dX9_corner_47 hF (fun x9 hF => ?_)
        refine gz_iload_n 50 hC 1 dX9_corner_50 rfl rfl ?_
        refine gz_aald 51 hC dX9_corner_51 hF (fun x10 hF => ?_)
        refine gz_cvV (st := []) 52 hC hX [.ref x10] yl_X0_seekIn yv_X0_seekIn q_953 ⟨Nat.le_of_ble_eq_true rfl, Nat.le_of_ble_eq_true rfl⟩ ⟨_, rfl⟩ (fun r h => ct_X0_seekIn _ _ fu M x7 x10 r h) rfl rfl (Nat.le_of_ble_eq_true rfl) dX9_corner_52 gz_00 hF (fun M11 hF => ?_)
        refine gz_iload_n 55 hC 2 dX9_corner_55 rfl rfl ?_
        refine gz_cse hF (fun e0 hF => ?_) (fun e0 hF => ?_)
        · skip
          refine gz_lku 56 84 hC (off := 28) dX9_corner_56 (by decide) (by rw [e0]; decide) (by decide) ?_
          refine gz_aload_n 84 hC 0 dX9_corner_84 rfl rfl ?_
          refine gz_getR 85 hC fl_X9_66 fk_9_9 dX9_corner_85 hF (fun x17 hF => ?_)
          refine gz_getI 88 hC fl_X9_295 fk_0_1 dX9_corner_88 hF (fun x18 hF => ?_)
          exact gz_iretM 91 hC hX dX9_corner_91 hF
        refine gz_cse hF (fun e1 hF => ?_) (fun e1 hF => ?_)
        · skip
          refine gz_lku 56 92 hC (off := 36) dX9_corner_56 (by decide) (by rw [e1]; decide) (by decide) ?_
          refine gz_aload_n 92 hC 0 dX9_corner_92 rfl rfl ?_
          refine gz_getR 93 hC fl_X9_66 fk_9_9 dX9_corner_93 hF (fun x15 hF => ?_)
          refine gz_getI 96 hC fl_X9_298 fk_0_2 dX9_corner_96 hF (fun x16 hF => ?_)
          exact gz_iretM 99 hC hX dX9_corner_99 hF
        refine gz_lku 56 100 hC (off := 44) dX9_corner_56 (by decide) (by rw [lv_osw e0 (by decide)]; rw [lv_osw e1 (by decide)]; rfl) (by decide) ?_
        refine gz_aload_n 100 hC 0 dX9_corner_100 rfl rfl ?_
        refine gz_getR 101 hC fl_X9_66 fk_9_9 dX9_corner_101 hF (fun x12 hF => ?_)
        refine gz_getR 104 hC fl_X9_301 fk_0_0 dX9_corner_104 hF (fun x13 hF => ?_)
        refine gz_iload_n 107 hC 2 dX9_corner_107 rfl rfl ?_
        refine gz_iconst 108 hC (2 : Int32) dX9_corner_108 gz_k2 ?_
        refine gz_isub 109 hC dX9_corner_109 ?_
        refine gz_iald 110 hC dX9_corner_110 hF (fun x14 hF => ?_)
        exact gz_iretM 111 hC hX dX9_corner_111 hF
      · skip
        refine gz_sub [0] [(0, .ref a0)] rfl ?_
        exact hj32 hF

theorem dX9_keeps_0 : decode cX9_keeps 0 = .ok (.aload_n 0, 1) := by decide +kernel
theorem dX9_keeps_1 : decode cX9_keeps 1 = .ok (.iload_n 1, 1) := by decide +kernel
theorem dX9_keeps_2 : decode cX9_keeps 2 = .ok (.iload_n 2, 1) := by decide +kernel
theorem dX9_keeps_3 : decode cX9_keeps 3 = .ok (.invokevirtual 144, 3) := by decide +kernel
theorem dX9_keeps_6 : decode cX9_keeps 6 = .ok (.ifCond .eq 13, 3) := by decide +kernel
theorem dX9_keeps_9 : decode cX9_keeps 9 = .ok (.iload_n 3, 1) := by decide +kernel
theorem dX9_keeps_10 : decode cX9_keeps 10 = .ok (.iconst 1, 1) := by decide +kernel
theorem dX9_keeps_11 : decode cX9_keeps 11 = .ok (.bipush 9, 2) := by decide +kernel
theorem dX9_keeps_13 : decode cX9_keeps 13 = .ok (.invokestatic 75, 3) := by decide +kernel
theorem dX9_keeps_16 : decode cX9_keeps 16 = .ok (.ifCond .ne 10, 3) := by decide +kernel
theorem dX9_keeps_19 : decode cX9_keeps 19 = .ok (.aload_n 0, 1) := by decide +kernel
theorem dX9_keeps_20 : decode cX9_keeps 20 = .ok (.bipush (-2), 2) := by decide +kernel
theorem dX9_keeps_22 : decode cX9_keeps 22 = .ok (.invokevirtual 79, 3) := by decide +kernel
theorem dX9_keeps_25 : decode cX9_keeps 25 = .ok (.ireturn, 1) := by decide +kernel
theorem dX9_keeps_26 : decode cX9_keeps 26 = .ok (.aload_n 0, 1) := by decide +kernel
theorem dX9_keeps_27 : decode cX9_keeps 27 = .ok (.getfield 34, 3) := by decide +kernel
theorem dX9_keeps_30 : decode cX9_keeps 30 = .ok (.getfield 147, 3) := by decide +kernel
theorem dX9_keeps_33 : decode cX9_keeps 33 = .ok (.iload_n 1, 1) := by decide +kernel
theorem dX9_keeps_34 : decode cX9_keeps 34 = .ok (.aaload, 1) := by decide +kernel
theorem dX9_keeps_35 : decode cX9_keeps 35 = .ok (.astore 4, 2) := by decide +kernel
theorem dX9_keeps_37 : decode cX9_keeps 37 = .ok (.iconst 0, 1) := by decide +kernel
theorem dX9_keeps_38 : decode cX9_keeps 38 = .ok (.istore 5, 2) := by decide +kernel
theorem dX9_keeps_40 : decode cX9_keeps 40 = .ok (.iconst 0, 1) := by decide +kernel
theorem dX9_keeps_41 : decode cX9_keeps 41 = .ok (.istore 6, 2) := by decide +kernel
theorem dX9_keeps_43 : decode cX9_keeps 43 = .ok (.iload 6, 2) := by decide +kernel
theorem dX9_keeps_45 : decode cX9_keeps 45 = .ok (.aload 4, 2) := by decide +kernel
theorem dX9_keeps_47 : decode cX9_keeps 47 = .ok (.getfield 178, 3) := by decide +kernel
theorem dX9_keeps_50 : decode cX9_keeps 50 = .ok (.if_icmp .ge 30, 3) := by decide +kernel
theorem dX9_keeps_53 : decode cX9_keeps 53 = .ok (.aload 4, 2) := by decide +kernel
theorem dX9_keeps_55 : decode cX9_keeps 55 = .ok (.iload 6, 2) := by decide +kernel
theorem dX9_keeps_57 : decode cX9_keeps 57 = .ok (.iload_n 2, 1) := by decide +kernel
theorem dX9_keeps_58 : decode cX9_keeps 58 = .ok (.iload_n 3, 1) := by decide +kernel
theorem dX9_keeps_59 : decode cX9_keeps 59 = .ok (.invokevirtual 304, 3) := by decide +kernel
theorem dX9_keeps_62 : decode cX9_keeps 62 = .ok (.ifCond .eq 12, 3) := by decide +kernel
theorem dX9_keeps_65 : decode cX9_keeps 65 = .ok (.iload 5, 2) := by decide +kernel
theorem dX9_keeps_67 : decode cX9_keeps 67 = .ok (.iconst 1, 1) := by decide +kernel
theorem dX9_keeps_68 : decode cX9_keeps 68 = .ok (.iload 6, 2) := by decide +kernel
theorem dX9_keeps_70 : decode cX9_keeps 70 = .ok (.ishl, 1) := by decide +kernel
theorem dX9_keeps_71 : decode cX9_keeps 71 = .ok (.ior, 1) := by decide +kernel
theorem dX9_keeps_72 : decode cX9_keeps 72 = .ok (.istore 5, 2) := by decide +kernel
theorem dX9_keeps_74 : decode cX9_keeps 74 = .ok (.iinc 6 1, 3) := by decide +kernel
theorem dX9_keeps_77 : decode cX9_keeps 77 = .ok (.goto (-34), 3) := by decide +kernel
theorem dX9_keeps_80 : decode cX9_keeps 80 = .ok (.iload 5, 2) := by decide +kernel
theorem dX9_keeps_82 : decode cX9_keeps 82 = .ok (.ireturn, 1) := by decide +kernel
def lp_X9_keeps_43 (j80 : Int32 → Option (Int32 × gz_M)) (fu : Nat) (M : gz_M) (a2 : Int32) (a3 : Int32) (x5 : Nat) : Nat → Int32 → Int32 → Option (Int32 × gz_M)
  | 0, _, _ => none
  | n43 + 1, x6, x7 =>
    (gz_gI M 7 5 x5).bind fun x8 =>
    if x8 ≤ x7 then
      j80 x6
    else
      (f_X7_doesForYears fu M x5 x7 a2 a3).bind fun x9 =>
      gz_jn (fun (x10 : Int32) =>
      lp_X9_keeps_43 j80 fu M a2 a3 x5 n43 x10 (x7 + (1 : Int32))) fun j74 =>
      if x9 = 0 then
        j74 x6
      else
        j74 (x6 ||| ((1 : Int32) <<< (x7 &&& 31)))
def f_X9_keeps (fu : Nat) (M : gz_M) (a0 : Nat) (a1 : Int32) (a2 : Int32) (a3 : Int32) : Option (Int32 × gz_M) :=
  gz_gd M 9 a0 <|
  (f_X9_isFoot fu M a0 a1 a2).bind fun x1 =>
  gz_jn (gz_b2 (f_X9_refuse fu M a0 (-2 : Int32)) fun x12 M13 =>
    some (x12, M13)) fun j19 =>
  if x1 = 0 then
    j19
  else
    (f_X9_isWithin fu M a3 (1 : Int32) (9 : Int32)).bind fun x2 =>
    if x2 = 0 then
      j19
    else
      (gz_gR M 9 3 a0).bind fun x3 =>
      (gz_gR M 8 0 x3).bind fun x4 =>
      (gz_aR M x4 a1).bind fun x5 =>
      lp_X9_keeps_43 (fun (x11 : Int32) => some (x11, M)) fu M a2 a3 x5 fu (0 : Int32) (0 : Int32)
set_option maxHeartbeats 4000000 in
theorem w_X9_keeps_43 {C : gz_C} {y : Int32 × gz_M} {fu : Nat} {M : gz_M} {a2 : Int32} {a3 : Int32} {x5 : Nat} {j80 : Int32 → Option (Int32 × gz_M)} (hC : gz_ok C cX9_keeps RX9 7) (hX : gz_cx C 4 100 0 0 (some .int) (some (.int y.1)) y.2 "keeps") (hj80 : ∀ (x11 : Int32), j80 x11 = some y → gz_go C 0 0 M [(5, .int x11)] 80 []) : ∀ (n : Nat) (x6 : Int32) (x7 : Int32), lp_X9_keeps_43 j80 fu M a2 a3 x5 n x6 x7 = some y → gz_go C 0 0 M [(2, .int a2), (3, .int a3), (4, .ref x5), (5, .int x6), (6, .int x7)] 43 [] := by
  intro n
  induction n with
  | zero => intro x6 x7 hF; exact nomatch (show (none : Option (Int32 × gz_M)) = some y from hF)
  | succ n43 ih43 =>
    intro x6 x7 hF
    rw [lp_X9_keeps_43.eq_2] at hF
    refine gz_iload 43 hC 4 dX9_keeps_43 rfl ?_
    refine gz_aload 45 hC 2 dX9_keeps_45 rfl ?_
    refine gz_getI 47 hC fl_X9_178 fk_7_5 dX9_keeps_47 hF (fun x8 hF => ?_)
    refine gz_icmp_ge 50 80 hC dX9_keeps_50 (by decide) hF (fun hF => ?_) (fun hF => ?_)
    · skip
      refine gz_sub [3] [(5, .int x6)] rfl ?_
      exact hj80 _ hF
    · skip
      refine gz_aload 53 hC 2 dX9_keeps_53 rfl ?_
      refine gz_iload 55 hC 4 dX9_keeps_55 rfl ?_
      refine gz_iload_n 57 hC 0 dX9_keeps_57 rfl rfl ?_
      refine gz_iload_n 58 hC 1 dX9_keeps_58 rfl rfl ?_
      refine gz_cvP (st := []) 59 hC hX [.int x7, .int a2, .int a3] Value.int yl_X7_doesForYears yv_X7_doesForYears q_976 ⟨Nat.le_of_ble_eq_true rfl, Nat.le_of_ble_eq_true rfl⟩ ⟨_, rfl⟩ (fun r h => ct_X7_doesForYears _ _ fu M x5 x7 a2 a3 r h) rfl rfl (Nat.le_of_ble_eq_true rfl) dX9_keeps_59 gz_00 hF (fun x9 hF => ?_)
      refine gz_join (fun (j : Int32 → Option (Int32 × gz_M)) => ∀ (x10 : Int32), j x10 = some y → gz_go C 0 0 M [(2, .int a2), (3, .int a3), (4, .ref x5), (5, .int x10), (6, .int x7)] 74 []) hF (fun x10 hF => ?_) (fun j74 hj74 hF => ?_)
      · skip
        refine gz_iinc 74 hC (x7 + (1 : Int32)) 4 [(6, .int (x7 + (1 : Int32))), (2, .int a2), (3, .int a3), (4, .ref x5), (5, .int x10)] dX9_keeps_74 rfl rfl (by decide) rfl ?_
        refine gz_goto 77 43 hC dX9_keeps_77 (by decide) ?_
        refine gz_sub [1, 2, 3, 4, 0] [(2, .int a2), (3, .int a3), (4, .ref x5), (5, .int x10), (6, .int (x7 + (1 : Int32)))] rfl ?_
        exact ih43 _ _ hF
      refine gz_if_eq 62 74 hC dX9_keeps_62 (by decide) hF (fun hF => ?_) (fun hF => ?_)
      · skip
        exact hj74 _ hF
      · skip
        refine gz_iload 65 hC 3 dX9_keeps_65 rfl ?_
        refine gz_iconst 67 hC (1 : Int32) dX9_keeps_67 gz_k1 ?_
        refine gz_iload 68 hC 4 dX9_keeps_68 rfl ?_
        refine gz_ishl 70 hC dX9_keeps_70 ?_
        refine gz_ior 71 hC dX9_keeps_71 ?_
        refine gz_istore 72 hC [(5, .int (x6 ||| ((1 : Int32) <<< (x7 &&& 31)))), (2, .int a2), (3, .int a3), (4, .ref x5), (6, .int x7)] dX9_keeps_72 (by decide) rfl ?_
        refine gz_sub [1, 2, 3, 0, 4] [(2, .int a2), (3, .int a3), (4, .ref x5), (5, .int (x6 ||| ((1 : Int32) <<< (x7 &&& 31)))), (6, .int x7)] rfl ?_
        exact hj74 _ hF
set_option maxHeartbeats 4000000 in
theorem ct_X9_keeps (l : Launch) (G : gz_G) (fu : Nat) (M : gz_M) (a0 : Nat) (a1 : Int32) (a2 : Int32) (a3 : Int32) (y : Int32 × gz_M) (hF : f_X9_keeps fu M a0 a1 a2 a3 = some y) : gz_ct l yX9_keeps cX9_keeps 7 (some .int) 4 100 0 0 G [.ref a0, .int a1, .int a2, .int a3] M (some (.int y.1)) y.2 := by
  refine gz_ct.of (by decide) (Nat.le_of_ble_eq_true rfl) (fun C hC hX => ?_)
  unfold f_X9_keeps at hF
  obtain ⟨-, hF⟩ := gz_gd_some hF
  show gz_go C 0 0 M [(0, .ref a0), (1, .int a1), (2, .int a2), (3, .int a3)] 0 []
  refine gz_aload_n 0 hC 0 dX9_keeps_0 rfl rfl ?_
  refine gz_iload_n 1 hC 1 dX9_keeps_1 rfl rfl ?_
  refine gz_iload_n 2 hC 2 dX9_keeps_2 rfl rfl ?_
  refine gz_cvP (st := []) 3 hC hX [.int a1, .int a2] Value.int yl_X9_isFoot yv_X9_isFoot q_505 ⟨Nat.le_of_ble_eq_true rfl, Nat.le_of_ble_eq_true rfl⟩ ⟨_, rfl⟩ (fun r h => ct_X9_isFoot _ _ fu M a0 a1 a2 r h) rfl rfl (Nat.le_of_ble_eq_true rfl) dX9_keeps_3 gz_00 hF (fun x1 hF => ?_)
  refine gz_join (fun (j : Option (Int32 × gz_M)) => j = some y → gz_go C 0 0 M [(0, .ref a0)] 19 []) hF (fun hF => ?_) (fun j19 hj19 hF => ?_)
  · skip
    refine gz_aload_n 19 hC 0 dX9_keeps_19 rfl rfl ?_
    refine gz_bipush 20 hC (-2 : Int32) dX9_keeps_20 gz_bm2 ?_
    refine gz_cvM (st := []) 22 hC hX [.int (-2 : Int32)] Value.int yl_X9_refuse yv_X9_refuse q_417 ⟨Nat.le_of_ble_eq_true rfl, Nat.le_of_ble_eq_true rfl⟩ ⟨_, rfl⟩ (fun r h => ct_X9_refuse _ _ fu M a0 (-2 : Int32) r h) rfl rfl (Nat.le_of_ble_eq_true rfl) dX9_keeps_22 gz_00 hF (fun x12 M13 hF => ?_)
    exact gz_iretM 25 hC hX dX9_keeps_25 hF
  refine gz_if_eq 6 19 hC dX9_keeps_6 (by decide) hF (fun hF => ?_) (fun hF => ?_)
  · skip
    refine gz_sub [0] [(0, .ref a0)] rfl ?_
    exact hj19 hF
  · skip
    refine gz_iload_n 9 hC 3 dX9_keeps_9 rfl rfl ?_
    refine gz_iconst 10 hC (1 : Int32) dX9_keeps_10 gz_k1 ?_
    refine gz_bipush 11 hC (9 : Int32) dX9_keeps_11 gz_b9 ?_
    refine gz_csP (st := []) 13 hC hX [.int a3, .int (1 : Int32), .int (9 : Int32)] Value.int yl_X9_isWithin yv_X9_isWithin q_414 ⟨Nat.le_of_ble_eq_true rfl, Nat.le_of_ble_eq_true rfl⟩ (fun r h => ct_X9_isWithin _ _ fu M a3 (1 : Int32) (9 : Int32) r h) rfl rfl (Nat.le_of_ble_eq_true rfl) dX9_keeps_13 gz_00 hF (fun x2 hF => ?_)
    refine gz_if_ne 16 26 hC dX9_keeps_16 (by decide) hF (fun hF => ?_) (fun hF => ?_)
    · skip
      refine gz_aload_n 26 hC 0 dX9_keeps_26 rfl rfl ?_
      refine gz_getR 27 hC fl_X9_34 fk_9_3 dX9_keeps_27 hF (fun x3 hF => ?_)
      refine gz_getR 30 hC fl_X9_147 fk_8_0 dX9_keeps_30 hF (fun x4 hF => ?_)
      refine gz_iload_n 33 hC 1 dX9_keeps_33 rfl rfl ?_
      refine gz_aald 34 hC dX9_keeps_34 hF (fun x5 hF => ?_)
      refine gz_astore 35 hC [(4, .ref x5), (0, .ref a0), (1, .int a1), (2, .int a2), (3, .int a3)] dX9_keeps_35 (by decide) rfl ?_
      refine gz_iconst 37 hC (0 : Int32) dX9_keeps_37 gz_k0 ?_
      refine gz_istore 38 hC [(5, .int (0 : Int32)), (4, .ref x5), (0, .ref a0), (1, .int a1), (2, .int a2), (3, .int a3)] dX9_keeps_38 (by decide) rfl ?_
      refine gz_iconst 40 hC (0 : Int32) dX9_keeps_40 gz_k0 ?_
      refine gz_istore 41 hC [(6, .int (0 : Int32)), (5, .int (0 : Int32)), (4, .ref x5), (0, .ref a0), (1, .int a1), (2, .int a2), (3, .int a3)] dX9_keeps_41 (by decide) rfl ?_
      refine gz_sub [5, 6, 2, 1, 0] [(2, .int a2), (3, .int a3), (4, .ref x5), (5, .int (0 : Int32)), (6, .int (0 : Int32))] rfl ?_
      refine w_X9_keeps_43 hC hX ?_ _ _ _ hF
      intro x11 hF
      refine gz_iload 80 hC 0 dX9_keeps_80 rfl ?_
      exact gz_iretM 82 hC hX dX9_keeps_82 hF
    · skip
      refine gz_sub [0] [(0, .ref a0)] rfl ?_
      exact hj19 hF

theorem dX9_lentCosts_0 : decode cX9_lentCosts 0 = .ok (.iconst 0, 1) := by decide +kernel
theorem dX9_lentCosts_1 : decode cX9_lentCosts 1 = .ok (.istore 4, 2) := by decide +kernel
theorem dX9_lentCosts_3 : decode cX9_lentCosts 3 = .ok (.iconst 0, 1) := by decide +kernel
theorem dX9_lentCosts_4 : decode cX9_lentCosts 4 = .ok (.istore 5, 2) := by decide +kernel
theorem dX9_lentCosts_6 : decode cX9_lentCosts 6 = .ok (.iload 5, 2) := by decide +kernel
theorem dX9_lentCosts_8 : decode cX9_lentCosts 8 = .ok (.aload_n 0, 1) := by decide +kernel
theorem dX9_lentCosts_9 : decode cX9_lentCosts 9 = .ok (.getfield 162, 3) := by decide +kernel
theorem dX9_lentCosts_12 : decode cX9_lentCosts 12 = .ok (.if_icmp .ge 47, 3) := by decide +kernel
theorem dX9_lentCosts_15 : decode cX9_lentCosts 15 = .ok (.aload_n 0, 1) := by decide +kernel
theorem dX9_lentCosts_16 : decode cX9_lentCosts 16 = .ok (.iload 5, 2) := by decide +kernel
theorem dX9_lentCosts_18 : decode cX9_lentCosts 18 = .ok (.aload_n 0, 1) := by decide +kernel
theorem dX9_lentCosts_19 : decode cX9_lentCosts 19 = .ok (.iload_n 1, 1) := by decide +kernel
theorem dX9_lentCosts_20 : decode cX9_lentCosts 20 = .ok (.invokevirtual 241, 3) := by decide +kernel
theorem dX9_lentCosts_23 : decode cX9_lentCosts 23 = .ok (.istore 6, 2) := by decide +kernel
theorem dX9_lentCosts_25 : decode cX9_lentCosts 25 = .ok (.aload_n 0, 1) := by decide +kernel
theorem dX9_lentCosts_26 : decode cX9_lentCosts 26 = .ok (.iload 5, 2) := by decide +kernel
theorem dX9_lentCosts_28 : decode cX9_lentCosts 28 = .ok (.aload_n 2, 1) := by decide +kernel
theorem dX9_lentCosts_29 : decode cX9_lentCosts 29 = .ok (.iload_n 3, 1) := by decide +kernel
theorem dX9_lentCosts_30 : decode cX9_lentCosts 30 = .ok (.invokevirtual 241, 3) := by decide +kernel
theorem dX9_lentCosts_33 : decode cX9_lentCosts 33 = .ok (.istore 7, 2) := by decide +kernel
theorem dX9_lentCosts_35 : decode cX9_lentCosts 35 = .ok (.iload 4, 2) := by decide +kernel
theorem dX9_lentCosts_37 : decode cX9_lentCosts 37 = .ok (.aload_n 0, 1) := by decide +kernel
theorem dX9_lentCosts_38 : decode cX9_lentCosts 38 = .ok (.iload 5, 2) := by decide +kernel
theorem dX9_lentCosts_40 : decode cX9_lentCosts 40 = .ok (.iload 6, 2) := by decide +kernel
theorem dX9_lentCosts_42 : decode cX9_lentCosts 42 = .ok (.iload 7, 2) := by decide +kernel
theorem dX9_lentCosts_44 : decode cX9_lentCosts 44 = .ok (.invokestatic 221, 3) := by decide +kernel
theorem dX9_lentCosts_47 : decode cX9_lentCosts 47 = .ok (.invokevirtual 245, 3) := by decide +kernel
theorem dX9_lentCosts_50 : decode cX9_lentCosts 50 = .ok (.iadd, 1) := by decide +kernel
theorem dX9_lentCosts_51 : decode cX9_lentCosts 51 = .ok (.istore 4, 2) := by decide +kernel
theorem dX9_lentCosts_53 : decode cX9_lentCosts 53 = .ok (.iinc 5 1, 3) := by decide +kernel
theorem dX9_lentCosts_56 : decode cX9_lentCosts 56 = .ok (.goto (-50), 3) := by decide +kernel
theorem dX9_lentCosts_59 : decode cX9_lentCosts 59 = .ok (.iload 4, 2) := by decide +kernel
theorem dX9_lentCosts_61 : decode cX9_lentCosts 61 = .ok (.ireturn, 1) := by decide +kernel
def lp_X9_lentCosts_6 (j59 : Int32 → Option (Int32)) (fu : Nat) (M : gz_M) (a0 : Nat) (a1 : Int32) (a2 : Nat) (a3 : Int32) : Nat → Int32 → Int32 → Option (Int32)
  | 0, _, _ => none
  | n6 + 1, x1, x2 =>
    (gz_gI M 7 4 a0).bind fun x3 =>
    if x3 ≤ x2 then
      j59 x1
    else
      (f_X7_ownBadness fu M a0 x2 a0 a1).bind fun x4 =>
      (f_X7_ownBadness fu M a0 x2 a2 a3).bind fun x5 =>
      (f_X7_costAt fu M a0 x2 (if x5 < x4 then x5 else x4)).bind fun x6 =>
      lp_X9_lentCosts_6 j59 fu M a0 a1 a2 a3 n6 (x1 + x6) (x2 + (1 : Int32))
def f_X9_lentCosts (fu : Nat) (M : gz_M) (a0 : Nat) (a1 : Int32) (a2 : Nat) (a3 : Int32) : Option (Int32) :=
  lp_X9_lentCosts_6 (fun (x7 : Int32) => some x7) fu M a0 a1 a2 a3 fu (0 : Int32) (0 : Int32)
set_option maxHeartbeats 4000000 in
theorem w_X9_lentCosts_6 {C : gz_C} {y : Int32} {fu : Nat} {M : gz_M} {a0 : Nat} {a1 : Int32} {a2 : Nat} {a3 : Int32} {j59 : Int32 → Option (Int32)} (hC : gz_ok C cX9_lentCosts RX9 8) (hX : gz_cx C 4 102 0 0 (some .int) (some (.int y)) M "lentCosts") (hj59 : ∀ (x7 : Int32), j59 x7 = some y → gz_go C 0 0 M [(4, .int x7)] 59 []) : ∀ (n : Nat) (x1 : Int32) (x2 : Int32), lp_X9_lentCosts_6 j59 fu M a0 a1 a2 a3 n x1 x2 = some y → gz_go C 0 0 M [(0, .ref a0), (1, .int a1), (2, .ref a2), (3, .int a3), (4, .int x1), (5, .int x2)] 6 [] := by
  intro n
  induction n with
  | zero => intro x1 x2 hF; exact nomatch (show (none : Option (Int32)) = some y from hF)
  | succ n6 ih6 =>
    intro x1 x2 hF
    rw [lp_X9_lentCosts_6.eq_2] at hF
    refine gz_iload 6 hC 5 dX9_lentCosts_6 rfl ?_
    refine gz_aload_n 8 hC 0 dX9_lentCosts_8 rfl rfl ?_
    refine gz_getI 9 hC fl_X9_162 fk_7_4 dX9_lentCosts_9 hF (fun x3 hF => ?_)
    refine gz_icmp_ge 12 59 hC dX9_lentCosts_12 (by decide) hF (fun hF => ?_) (fun hF => ?_)
    · skip
      refine gz_sub [4] [(4, .int x1)] rfl ?_
      exact hj59 _ hF
    · skip
      refine gz_aload_n 15 hC 0 dX9_lentCosts_15 rfl rfl ?_
      refine gz_iload 16 hC 5 dX9_lentCosts_16 rfl ?_
      refine gz_aload_n 18 hC 0 dX9_lentCosts_18 rfl rfl ?_
      refine gz_iload_n 19 hC 1 dX9_lentCosts_19 rfl rfl ?_
      refine gz_cvP (st := []) 20 hC hX [.int x2, .ref a0, .int a1] Value.int yl_X7_ownBadness yv_X7_ownBadness q_793 ⟨Nat.le_of_ble_eq_true rfl, Nat.le_of_ble_eq_true rfl⟩ ⟨_, rfl⟩ (fun r h => ct_X7_ownBadness _ _ fu M a0 x2 a0 a1 r h) rfl rfl (Nat.le_of_ble_eq_true rfl) dX9_lentCosts_20 gz_00 hF (fun x4 hF => ?_)
      refine gz_istore 23 hC [(6, .int x4), (0, .ref a0), (1, .int a1), (2, .ref a2), (3, .int a3), (4, .int x1), (5, .int x2)] dX9_lentCosts_23 (by decide) rfl ?_
      refine gz_aload_n 25 hC 1 dX9_lentCosts_25 rfl rfl ?_
      refine gz_iload 26 hC 6 dX9_lentCosts_26 rfl ?_
      refine gz_aload_n 28 hC 3 dX9_lentCosts_28 rfl rfl ?_
      refine gz_iload_n 29 hC 4 dX9_lentCosts_29 rfl rfl ?_
      refine gz_cvP (st := []) 30 hC hX [.int x2, .ref a2, .int a3] Value.int yl_X7_ownBadness yv_X7_ownBadness q_793 ⟨Nat.le_of_ble_eq_true rfl, Nat.le_of_ble_eq_true rfl⟩ ⟨_, rfl⟩ (fun r h => ct_X7_ownBadness _ _ fu M a0 x2 a2 a3 r h) rfl rfl (Nat.le_of_ble_eq_true rfl) dX9_lentCosts_30 gz_00 hF (fun x5 hF => ?_)
      refine gz_istore 33 hC [(7, .int x5), (6, .int x4), (0, .ref a0), (1, .int a1), (2, .ref a2), (3, .int a3), (4, .int x1), (5, .int x2)] dX9_lentCosts_33 (by decide) rfl ?_
      refine gz_iload 35 hC 6 dX9_lentCosts_35 rfl ?_
      refine gz_aload_n 37 hC 2 dX9_lentCosts_37 rfl rfl ?_
      refine gz_iload 38 hC 7 dX9_lentCosts_38 rfl ?_
      refine gz_iload 40 hC 1 dX9_lentCosts_40 rfl ?_
      refine gz_iload 42 hC 0 dX9_lentCosts_42 rfl ?_
      refine gz_mmin 44 hC hX q_746 ⟨Nat.le_of_ble_eq_true rfl, Nat.le_of_ble_eq_true rfl⟩ gz_00 dX9_lentCosts_44 ?_
      refine gz_cvP (st := [.int x1]) 47 hC hX [.int x2, .int (if x5 < x4 then x5 else x4)] Value.int yl_X7_costAt yv_X7_costAt q_797 ⟨Nat.le_of_ble_eq_true rfl, Nat.le_of_ble_eq_true rfl⟩ ⟨_, rfl⟩ (fun r h => ct_X7_costAt _ _ fu M a0 x2 (if x5 < x4 then x5 else x4) r h) rfl rfl (Nat.le_of_ble_eq_true rfl) dX9_lentCosts_47 gz_00 hF (fun x6 hF => ?_)
      refine gz_iadd 50 hC dX9_lentCosts_50 ?_
      refine gz_istore 51 hC [(4, .int (x1 + x6)), (7, .int x5), (6, .int x4), (0, .ref a0), (1, .int a1), (2, .ref a2), (3, .int a3), (5, .int x2)] dX9_lentCosts_51 (by decide) rfl ?_
      refine gz_iinc 53 hC (x2 + (1 : Int32)) 7 [(5, .int (x2 + (1 : Int32))), (4, .int (x1 + x6)), (7, .int x5), (6, .int x4), (0, .ref a0), (1, .int a1), (2, .ref a2), (3, .int a3)] dX9_lentCosts_53 rfl rfl (by decide) rfl ?_
      refine gz_goto 56 6 hC dX9_lentCosts_56 (by decide) ?_
      refine gz_sub [4, 5, 6, 7, 1, 0] [(0, .ref a0), (1, .int a1), (2, .ref a2), (3, .int a3), (4, .int (x1 + x6)), (5, .int (x2 + (1 : Int32)))] rfl ?_
      exact ih6 _ _ hF
set_option maxHeartbeats 4000000 in
theorem ct_X9_lentCosts (l : Launch) (G : gz_G) (fu : Nat) (M : gz_M) (a0 : Nat) (a1 : Int32) (a2 : Nat) (a3 : Int32) (y : Int32) (hF : f_X9_lentCosts fu M a0 a1 a2 a3 = some y) : gz_ct l yX9_lentCosts cX9_lentCosts 8 (some .int) 4 102 0 0 G [.ref a0, .int a1, .ref a2, .int a3] M (some (.int y)) M := by
  refine gz_ct.of (by decide) (Nat.le_of_ble_eq_true rfl) (fun C hC hX => ?_)
  unfold f_X9_lentCosts at hF
  show gz_go C 0 0 M [(0, .ref a0), (1, .int a1), (2, .ref a2), (3, .int a3)] 0 []
  refine gz_iconst 0 hC (0 : Int32) dX9_lentCosts_0 gz_k0 ?_
  refine gz_istore 1 hC [(4, .int (0 : Int32)), (0, .ref a0), (1, .int a1), (2, .ref a2), (3, .int a3)] dX9_lentCosts_1 (by decide) rfl ?_
  refine gz_iconst 3 hC (0 : Int32) dX9_lentCosts_3 gz_k0 ?_
  refine gz_istore 4 hC [(5, .int (0 : Int32)), (4, .int (0 : Int32)), (0, .ref a0), (1, .int a1), (2, .ref a2), (3, .int a3)] dX9_lentCosts_4 (by decide) rfl ?_
  refine gz_sub [2, 3, 4, 5, 1, 0] [(0, .ref a0), (1, .int a1), (2, .ref a2), (3, .int a3), (4, .int (0 : Int32)), (5, .int (0 : Int32))] rfl ?_
  refine w_X9_lentCosts_6 hC hX ?_ _ _ _ hF
  intro x7 hF
  refine gz_iload 59 hC 0 dX9_lentCosts_59 rfl ?_
  exact gz_iretP 61 hC hX dX9_lentCosts_61 hF

theorem dX9_lend_0 : decode cX9_lend 0 = .ok (.aload_n 0, 1) := by decide +kernel
theorem dX9_lend_1 : decode cX9_lend 1 = .ok (.iload_n 1, 1) := by decide +kernel
theorem dX9_lend_2 : decode cX9_lend 2 = .ok (.iload_n 3, 1) := by decide +kernel
theorem dX9_lend_3 : decode cX9_lend 3 = .ok (.invokevirtual 232, 3) := by decide +kernel
theorem dX9_lend_6 : decode cX9_lend 6 = .ok (.ifCond .eq 18, 3) := by decide +kernel
theorem dX9_lend_9 : decode cX9_lend 9 = .ok (.aload_n 0, 1) := by decide +kernel
theorem dX9_lend_10 : decode cX9_lend 10 = .ok (.iload_n 2, 1) := by decide +kernel
theorem dX9_lend_11 : decode cX9_lend 11 = .ok (.iload 4, 2) := by decide +kernel
theorem dX9_lend_13 : decode cX9_lend 13 = .ok (.invokevirtual 232, 3) := by decide +kernel
theorem dX9_lend_16 : decode cX9_lend 16 = .ok (.ifCond .eq 8, 3) := by decide +kernel
theorem dX9_lend_19 : decode cX9_lend 19 = .ok (.iload_n 1, 1) := by decide +kernel
theorem dX9_lend_20 : decode cX9_lend 20 = .ok (.iload_n 2, 1) := by decide +kernel
theorem dX9_lend_21 : decode cX9_lend 21 = .ok (.if_icmp .ne 10, 3) := by decide +kernel
theorem dX9_lend_24 : decode cX9_lend 24 = .ok (.aload_n 0, 1) := by decide +kernel
theorem dX9_lend_25 : decode cX9_lend 25 = .ok (.bipush (-2), 2) := by decide +kernel
theorem dX9_lend_27 : decode cX9_lend 27 = .ok (.invokevirtual 79, 3) := by decide +kernel
theorem dX9_lend_30 : decode cX9_lend 30 = .ok (.ireturn, 1) := by decide +kernel
theorem dX9_lend_31 : decode cX9_lend 31 = .ok (.aload_n 0, 1) := by decide +kernel
theorem dX9_lend_32 : decode cX9_lend 32 = .ok (.getfield 34, 3) := by decide +kernel
theorem dX9_lend_35 : decode cX9_lend 35 = .ok (.getfield 147, 3) := by decide +kernel
theorem dX9_lend_38 : decode cX9_lend 38 = .ok (.iload_n 1, 1) := by decide +kernel
theorem dX9_lend_39 : decode cX9_lend 39 = .ok (.aaload, 1) := by decide +kernel
theorem dX9_lend_40 : decode cX9_lend 40 = .ok (.astore 5, 2) := by decide +kernel
theorem dX9_lend_42 : decode cX9_lend 42 = .ok (.aload_n 0, 1) := by decide +kernel
theorem dX9_lend_43 : decode cX9_lend 43 = .ok (.getfield 34, 3) := by decide +kernel
theorem dX9_lend_46 : decode cX9_lend 46 = .ok (.getfield 147, 3) := by decide +kernel
theorem dX9_lend_49 : decode cX9_lend 49 = .ok (.iload_n 2, 1) := by decide +kernel
theorem dX9_lend_50 : decode cX9_lend 50 = .ok (.aaload, 1) := by decide +kernel
theorem dX9_lend_51 : decode cX9_lend 51 = .ok (.astore 6, 2) := by decide +kernel
theorem dX9_lend_53 : decode cX9_lend 53 = .ok (.aload 5, 2) := by decide +kernel
theorem dX9_lend_55 : decode cX9_lend 55 = .ok (.iload_n 3, 1) := by decide +kernel
theorem dX9_lend_56 : decode cX9_lend 56 = .ok (.invokevirtual 238, 3) := by decide +kernel
theorem dX9_lend_59 : decode cX9_lend 59 = .ok (.aload 6, 2) := by decide +kernel
theorem dX9_lend_61 : decode cX9_lend 61 = .ok (.iload 4, 2) := by decide +kernel
theorem dX9_lend_63 : decode cX9_lend 63 = .ok (.invokevirtual 238, 3) := by decide +kernel
theorem dX9_lend_66 : decode cX9_lend 66 = .ok (.iadd, 1) := by decide +kernel
theorem dX9_lend_67 : decode cX9_lend 67 = .ok (.aload 5, 2) := by decide +kernel
theorem dX9_lend_69 : decode cX9_lend 69 = .ok (.iload_n 3, 1) := by decide +kernel
theorem dX9_lend_70 : decode cX9_lend 70 = .ok (.aload 6, 2) := by decide +kernel
theorem dX9_lend_72 : decode cX9_lend 72 = .ok (.iload 4, 2) := by decide +kernel
theorem dX9_lend_74 : decode cX9_lend 74 = .ok (.invokestatic 307, 3) := by decide +kernel
theorem dX9_lend_77 : decode cX9_lend 77 = .ok (.iadd, 1) := by decide +kernel
theorem dX9_lend_78 : decode cX9_lend 78 = .ok (.aload 6, 2) := by decide +kernel
theorem dX9_lend_80 : decode cX9_lend 80 = .ok (.iload 4, 2) := by decide +kernel
theorem dX9_lend_82 : decode cX9_lend 82 = .ok (.aload 5, 2) := by decide +kernel
theorem dX9_lend_84 : decode cX9_lend 84 = .ok (.iload_n 3, 1) := by decide +kernel
theorem dX9_lend_85 : decode cX9_lend 85 = .ok (.invokestatic 307, 3) := by decide +kernel
theorem dX9_lend_88 : decode cX9_lend 88 = .ok (.iadd, 1) := by decide +kernel
theorem dX9_lend_89 : decode cX9_lend 89 = .ok (.ireturn, 1) := by decide +kernel

def f_X9_lend (fu : Nat) (M : gz_M) (a0 : Nat) (a1 : Int32) (a2 : Int32) (a3 : Int32) (a4 : Int32) : Option (Int32 × gz_M) :=
  gz_gd M 9 a0 <|
  (f_X9_isSet fu M a0 a1 a3).bind fun x1 =>
  gz_jn (gz_b2 (f_X9_refuse fu M a0 (-2 : Int32)) fun x13 M14 =>
    some (x13, M14)) fun j24 =>
  if x1 = 0 then
    j24
  else
    (f_X9_isSet fu M a0 a2 a4).bind fun x2 =>
    if x2 = 0 then
      j24
    else
      if a1 = a2 then
        j24
      else
        (gz_gR M 9 3 a0).bind fun x3 =>
        (gz_gR M 8 0 x3).bind fun x4 =>
        (gz_aR M x4 a1).bind fun x5 =>
        (gz_gR M 9 3 a0).bind fun x6 =>
        (gz_gR M 8 0 x6).bind fun x7 =>
        (gz_aR M x7 a2).bind fun x8 =>
        (f_X7_prices fu M x5 a3).bind fun x9 =>
        (f_X7_prices fu M x8 a4).bind fun x10 =>
        (f_X9_lentCosts fu M x5 a3 x8 a4).bind fun x11 =>
        (f_X9_lentCosts fu M x8 a4 x5 a3).bind fun x12 =>
        some ((((x9 + x10) + x11) + x12), M)

set_option maxHeartbeats 4000000 in
theorem ct_X9_lend (l : Launch) (G : gz_G) (fu : Nat) (M : gz_M) (a0 : Nat) (a1 : Int32) (a2 : Int32) (a3 : Int32) (a4 : Int32) (y : Int32 × gz_M) (hF : f_X9_lend fu M a0 a1 a2 a3 a4 = some y) : gz_ct l yX9_lend cX9_lend 7 (some .int) 5 129 0 0 G [.ref a0, .int a1, .int a2, .int a3, .int a4] M (some (.int y.1)) y.2 := by
  refine gz_ct.of (by decide) (Nat.le_of_ble_eq_true rfl) (fun C hC hX => ?_)
  unfold f_X9_lend at hF
  obtain ⟨-, hF⟩ := gz_gd_some hF
  show gz_go C 0 0 M [(0, .ref a0), (1, .int a1), (2, .int a2), (3, .int a3), (4, .int a4)] 0 []
  refine gz_aload_n 0 hC 0 dX9_lend_0 rfl rfl ?_
  refine gz_iload_n 1 hC 1 dX9_lend_1 rfl rfl ?_
  refine gz_iload_n 2 hC 3 dX9_lend_2 rfl rfl ?_
  refine gz_cvP (st := []) 3 hC hX [.int a1, .int a3] Value.int yl_X9_isSet yv_X9_isSet q_771 ⟨Nat.le_of_ble_eq_true rfl, Nat.le_of_ble_eq_true rfl⟩ ⟨_, rfl⟩ (fun r h => ct_X9_isSet _ _ fu M a0 a1 a3 r h) rfl rfl (Nat.le_of_ble_eq_true rfl) dX9_lend_3 gz_00 hF (fun x1 hF => ?_)
  refine gz_join (fun (j : Option (Int32 × gz_M)) => j = some y → gz_go C 0 0 M [(0, .ref a0)] 24 []) hF (fun hF => ?_) (fun j24 hj24 hF => ?_)
  · skip
    refine gz_aload_n 24 hC 0 dX9_lend_24 rfl rfl ?_
    refine gz_bipush 25 hC (-2 : Int32) dX9_lend_25 gz_bm2 ?_
    refine gz_cvM (st := []) 27 hC hX [.int (-2 : Int32)] Value.int yl_X9_refuse yv_X9_refuse q_417 ⟨Nat.le_of_ble_eq_true rfl, Nat.le_of_ble_eq_true rfl⟩ ⟨_, rfl⟩ (fun r h => ct_X9_refuse _ _ fu M a0 (-2 : Int32) r h) rfl rfl (Nat.le_of_ble_eq_true rfl) dX9_lend_27 gz_00 hF (fun x13 M14 hF => ?_)
    exact gz_iretM 30 hC hX dX9_lend_30 hF
  refine gz_if_eq 6 24 hC dX9_lend_6 (by decide) hF (fun hF => ?_) (fun hF => ?_)
  · skip
    refine gz_sub [0] [(0, .ref a0)] rfl ?_
    exact hj24 hF
  · skip
    refine gz_aload_n 9 hC 0 dX9_lend_9 rfl rfl ?_
    refine gz_iload_n 10 hC 2 dX9_lend_10 rfl rfl ?_
    refine gz_iload 11 hC 4 dX9_lend_11 rfl ?_
    refine gz_cvP (st := []) 13 hC hX [.int a2, .int a4] Value.int yl_X9_isSet yv_X9_isSet q_771 ⟨Nat.le_of_ble_eq_true rfl, Nat.le_of_ble_eq_true rfl⟩ ⟨_, rfl⟩ (fun r h => ct_X9_isSet _ _ fu M a0 a2 a4 r h) rfl rfl (Nat.le_of_ble_eq_true rfl) dX9_lend_13 gz_00 hF (fun x2 hF => ?_)
    refine gz_if_eq 16 24 hC dX9_lend_16 (by decide) hF (fun hF => ?_) (fun hF => ?_)
    · skip
      refine gz_sub [0] [(0, .ref a0)] rfl ?_
      exact hj24 hF
    · skip
      refine gz_iload_n 19 hC 1 dX9_lend_19 rfl rfl ?_
      refine gz_iload_n 20 hC 2 dX9_lend_20 rfl rfl ?_
      refine gz_icmp_ne 21 31 hC dX9_lend_21 (by decide) hF (fun hF => ?_) (fun hF => ?_)
      · skip
        refine gz_aload_n 31 hC 0 dX9_lend_31 rfl rfl ?_
        refine gz_getR 32 hC fl_X9_34 fk_9_3 dX9_lend_32 hF (fun x3 hF => ?_)
        refine gz_getR 35 hC fl_X9_147 fk_8_0 dX9_lend_35 hF (fun x4 hF => ?_)
        refine gz_iload_n 38 hC 1 dX9_lend_38 rfl rfl ?_
        refine gz_aald 39 hC dX9_lend_39 hF (fun x5 hF => ?_)
        refine gz_astore 40 hC [(5, .ref x5), (0, .ref a0), (1, .int a1), (2, .int a2), (3, .int a3), (4, .int a4)] dX9_lend_40 (by decide) rfl ?_
        refine gz_aload_n 42 hC 1 dX9_lend_42 rfl rfl ?_
        refine gz_getR 43 hC fl_X9_34 fk_9_3 dX9_lend_43 hF (fun x6 hF => ?_)
        refine gz_getR 46 hC fl_X9_147 fk_8_0 dX9_lend_46 hF (fun x7 hF => ?_)
        refine gz_iload_n 49 hC 3 dX9_lend_49 rfl rfl ?_
        refine gz_aald 50 hC dX9_lend_50 hF (fun x8 hF => ?_)
        refine gz_astore 51 hC [(6, .ref x8), (5, .ref x5), (0, .ref a0), (1, .int a1), (2, .int a2), (3, .int a3), (4, .int a4)] dX9_lend_51 (by decide) rfl ?_
        refine gz_aload 53 hC 1 dX9_lend_53 rfl ?_
        refine gz_iload_n 55 hC 5 dX9_lend_55 rfl rfl ?_
        refine gz_cvP (st := []) 56 hC hX [.int a3] Value.int yl_X7_prices yv_X7_prices q_789 ⟨Nat.le_of_ble_eq_true rfl, Nat.le_of_ble_eq_true rfl⟩ ⟨_, rfl⟩ (fun r h => ct_X7_prices _ _ fu M x5 a3 r h) rfl rfl (Nat.le_of_ble_eq_true rfl) dX9_lend_56 gz_00 hF (fun x9 hF => ?_)
        refine gz_aload 59 hC 0 dX9_lend_59 rfl ?_
        refine gz_iload 61 hC 6 dX9_lend_61 rfl ?_
        refine gz_cvP (st := [.int x9]) 63 hC hX [.int a4] Value.int yl_X7_prices yv_X7_prices q_789 ⟨Nat.le_of_ble_eq_true rfl, Nat.le_of_ble_eq_true rfl⟩ ⟨_, rfl⟩ (fun r h => ct_X7_prices _ _ fu M x8 a4 r h) rfl rfl (Nat.le_of_ble_eq_true rfl) dX9_lend_63 gz_00 hF (fun x10 hF => ?_)
        refine gz_iadd 66 hC dX9_lend_66 ?_
        refine gz_aload 67 hC 1 dX9_lend_67 rfl ?_
        refine gz_iload_n 69 hC 5 dX9_lend_69 rfl rfl ?_
        refine gz_aload 70 hC 0 dX9_lend_70 rfl ?_
        refine gz_iload 72 hC 6 dX9_lend_72 rfl ?_
        refine gz_csP (st := [.int (x9 + x10)]) 74 hC hX [.ref x5, .int a3, .ref x8, .int a4] Value.int yl_X9_lentCosts yv_X9_lentCosts q_985 ⟨Nat.le_of_ble_eq_true rfl, Nat.le_of_ble_eq_true rfl⟩ (fun r h => ct_X9_lentCosts _ _ fu M x5 a3 x8 a4 r h) rfl rfl (Nat.le_of_ble_eq_true rfl) dX9_lend_74 gz_00 hF (fun x11 hF => ?_)
        refine gz_iadd 77 hC dX9_lend_77 ?_
        refine gz_aload 78 hC 0 dX9_lend_78 rfl ?_
        refine gz_iload 80 hC 6 dX9_lend_80 rfl ?_
        refine gz_aload 82 hC 1 dX9_lend_82 rfl ?_
        refine gz_iload_n 84 hC 5 dX9_lend_84 rfl rfl ?_
        refine gz_csP (st := [.int ((x9 + x10) + x11)]) 85 hC hX [.ref x8, .int a4, .ref x5, .int a3] Value.int yl_X9_lentCosts yv_X9_lentCosts q_985 ⟨Nat.le_of_ble_eq_true rfl, Nat.le_of_ble_eq_true rfl⟩ (fun r h => ct_X9_lentCosts _ _ fu M x8 a4 x5 a3 r h) rfl rfl (Nat.le_of_ble_eq_true rfl) dX9_lend_85 gz_00 hF (fun x12 hF => ?_)
        refine gz_iadd 88 hC dX9_lend_88 ?_
        exact gz_iretM 89 hC hX dX9_lend_89 hF
      · skip
        refine gz_sub [0] [(0, .ref a0)] rfl ?_
        exact hj24 hF

theorem dX9_doubt_0 : decode cX9_doubt 0 = .ok (.aload_n 0, 1) := by decide +kernel
theorem dX9_doubt_1 : decode cX9_doubt 1 = .ok (.iload_n 1, 1) := by decide +kernel
theorem dX9_doubt_2 : decode cX9_doubt 2 = .ok (.invokevirtual 159, 3) := by decide +kernel
theorem dX9_doubt_5 : decode cX9_doubt 5 = .ok (.ifCond .eq 10, 3) := by decide +kernel
theorem dX9_doubt_8 : decode cX9_doubt 8 = .ok (.iload_n 2, 1) := by decide +kernel
theorem dX9_doubt_9 : decode cX9_doubt 9 = .ok (.invokestatic 251, 3) := by decide +kernel
theorem dX9_doubt_12 : decode cX9_doubt 12 = .ok (.ifCond .ne 10, 3) := by decide +kernel
theorem dX9_doubt_15 : decode cX9_doubt 15 = .ok (.aload_n 0, 1) := by decide +kernel
theorem dX9_doubt_16 : decode cX9_doubt 16 = .ok (.bipush (-2), 2) := by decide +kernel
theorem dX9_doubt_18 : decode cX9_doubt 18 = .ok (.invokevirtual 79, 3) := by decide +kernel
theorem dX9_doubt_21 : decode cX9_doubt 21 = .ok (.ireturn, 1) := by decide +kernel
theorem dX9_doubt_22 : decode cX9_doubt 22 = .ok (.aload_n 0, 1) := by decide +kernel
theorem dX9_doubt_23 : decode cX9_doubt 23 = .ok (.getfield 52, 3) := by decide +kernel
theorem dX9_doubt_26 : decode cX9_doubt 26 = .ok (.aload_n 0, 1) := by decide +kernel
theorem dX9_doubt_27 : decode cX9_doubt 27 = .ok (.getfield 34, 3) := by decide +kernel
theorem dX9_doubt_30 : decode cX9_doubt 30 = .ok (.getfield 147, 3) := by decide +kernel
theorem dX9_doubt_33 : decode cX9_doubt 33 = .ok (.iload_n 1, 1) := by decide +kernel
theorem dX9_doubt_34 : decode cX9_doubt 34 = .ok (.aaload, 1) := by decide +kernel
theorem dX9_doubt_35 : decode cX9_doubt 35 = .ok (.invokevirtual 254, 3) := by decide +kernel
theorem dX9_doubt_38 : decode cX9_doubt 38 = .ok (.aload_n 0, 1) := by decide +kernel
theorem dX9_doubt_39 : decode cX9_doubt 39 = .ok (.getfield 52, 3) := by decide +kernel
theorem dX9_doubt_42 : decode cX9_doubt 42 = .ok (.aload_n 0, 1) := by decide +kernel
theorem dX9_doubt_43 : decode cX9_doubt 43 = .ok (.getfield 34, 3) := by decide +kernel
theorem dX9_doubt_46 : decode cX9_doubt 46 = .ok (.getfield 147, 3) := by decide +kernel
theorem dX9_doubt_49 : decode cX9_doubt 49 = .ok (.iload_n 1, 1) := by decide +kernel
theorem dX9_doubt_50 : decode cX9_doubt 50 = .ok (.aaload, 1) := by decide +kernel
theorem dX9_doubt_51 : decode cX9_doubt 51 = .ok (.iload_n 2, 1) := by decide +kernel
theorem dX9_doubt_52 : decode cX9_doubt 52 = .ok (.invokevirtual 311, 3) := by decide +kernel
theorem dX9_doubt_55 : decode cX9_doubt 55 = .ok (.ireturn, 1) := by decide +kernel

def f_X9_doubt (fu : Nat) (M : gz_M) (a0 : Nat) (a1 : Int32) (a2 : Int32) : Option (Int32 × gz_M) :=
  gz_gd M 9 a0 <|
  (f_X9_isValley fu M a0 a1).bind fun x1 =>
  gz_jn (gz_b2 (f_X9_refuse fu M a0 (-2 : Int32)) fun x14 M15 =>
    some (x14, M15)) fun j15 =>
  if x1 = 0 then
    j15
  else
    (f_X9_isCount fu M a2).bind fun x2 =>
    if x2 = 0 then
      j15
    else
      (gz_gR M 9 7 a0).bind fun x3 =>
      (gz_gR M 9 3 a0).bind fun x4 =>
      (gz_gR M 8 0 x4).bind fun x5 =>
      (gz_aR M x5 a1).bind fun x6 =>
      (f_X3_fillFor fu M x3 x6).bind fun M7 =>
      (gz_gR M7 9 7 a0).bind fun x8 =>
      (gz_gR M7 9 3 a0).bind fun x9 =>
      (gz_gR M7 8 0 x9).bind fun x10 =>
      (gz_aR M7 x10 a1).bind fun x11 =>
      gz_b2 (f_X3_doubtIn fu M7 x8 x11 a2) fun x12 M13 =>
      some (x12, M13)

set_option maxHeartbeats 4000000 in
theorem ct_X9_doubt (l : Launch) (G : gz_G) (fu : Nat) (M : gz_M) (a0 : Nat) (a1 : Int32) (a2 : Int32) (y : Int32 × gz_M) (hF : f_X9_doubt fu M a0 a1 a2 = some y) : gz_ct l yX9_doubt cX9_doubt 3 (some .int) 6 152 0 0 G [.ref a0, .int a1, .int a2] M (some (.int y.1)) y.2 := by
  refine gz_ct.of (by decide) (Nat.le_of_ble_eq_true rfl) (fun C hC hX => ?_)
  unfold f_X9_doubt at hF
  obtain ⟨-, hF⟩ := gz_gd_some hF
  show gz_go C 0 0 M [(0, .ref a0), (1, .int a1), (2, .int a2)] 0 []
  refine gz_aload_n 0 hC 0 dX9_doubt_0 rfl rfl ?_
  refine gz_iload_n 1 hC 1 dX9_doubt_1 rfl rfl ?_
  refine gz_cvP (st := []) 2 hC hX [.int a1] Value.int yl_X9_isValley yv_X9_isValley q_509 ⟨Nat.le_of_ble_eq_true rfl, Nat.le_of_ble_eq_true rfl⟩ ⟨_, rfl⟩ (fun r h => ct_X9_isValley _ _ fu M a0 a1 r h) rfl rfl (Nat.le_of_ble_eq_true rfl) dX9_doubt_2 gz_00 hF (fun x1 hF => ?_)
  refine gz_join (fun (j : Option (Int32 × gz_M)) => j = some y → gz_go C 0 0 M [(0, .ref a0)] 15 []) hF (fun hF => ?_) (fun j15 hj15 hF => ?_)
  · skip
    refine gz_aload_n 15 hC 0 dX9_doubt_15 rfl rfl ?_
    refine gz_bipush 16 hC (-2 : Int32) dX9_doubt_16 gz_bm2 ?_
    refine gz_cvM (st := []) 18 hC hX [.int (-2 : Int32)] Value.int yl_X9_refuse yv_X9_refuse q_417 ⟨Nat.le_of_ble_eq_true rfl, Nat.le_of_ble_eq_true rfl⟩ ⟨_, rfl⟩ (fun r h => ct_X9_refuse _ _ fu M a0 (-2 : Int32) r h) rfl rfl (Nat.le_of_ble_eq_true rfl) dX9_doubt_18 gz_00 hF (fun x14 M15 hF => ?_)
    exact gz_iretM 21 hC hX dX9_doubt_21 hF
  refine gz_if_eq 5 15 hC dX9_doubt_5 (by decide) hF (fun hF => ?_) (fun hF => ?_)
  · skip
    refine gz_sub [0] [(0, .ref a0)] rfl ?_
    exact hj15 hF
  · skip
    refine gz_iload_n 8 hC 2 dX9_doubt_8 rfl rfl ?_
    refine gz_csP (st := []) 9 hC hX [.int a2] Value.int yl_X9_isCount yv_X9_isCount q_817 ⟨Nat.le_of_ble_eq_true rfl, Nat.le_of_ble_eq_true rfl⟩ (fun r h => ct_X9_isCount _ _ fu M a2 r h) rfl rfl (Nat.le_of_ble_eq_true rfl) dX9_doubt_9 gz_00 hF (fun x2 hF => ?_)
    refine gz_if_ne 12 22 hC dX9_doubt_12 (by decide) hF (fun hF => ?_) (fun hF => ?_)
    · skip
      refine gz_aload_n 22 hC 0 dX9_doubt_22 rfl rfl ?_
      refine gz_getR 23 hC fl_X9_52 fk_9_7 dX9_doubt_23 hF (fun x3 hF => ?_)
      refine gz_aload_n 26 hC 0 dX9_doubt_26 rfl rfl ?_
      refine gz_getR 27 hC fl_X9_34 fk_9_3 dX9_doubt_27 hF (fun x4 hF => ?_)
      refine gz_getR 30 hC fl_X9_147 fk_8_0 dX9_doubt_30 hF (fun x5 hF => ?_)
      refine gz_iload_n 33 hC 1 dX9_doubt_33 rfl rfl ?_
      refine gz_aald 34 hC dX9_doubt_34 hF (fun x6 hF => ?_)
      refine gz_cvV (st := []) 35 hC hX [.ref x6] yl_X3_fillFor yv_X3_fillFor q_820 ⟨Nat.le_of_ble_eq_true rfl, Nat.le_of_ble_eq_true rfl⟩ ⟨_, rfl⟩ (fun r h => ct_X3_fillFor _ _ fu M x3 x6 r h) rfl rfl (Nat.le_of_ble_eq_true rfl) dX9_doubt_35 gz_00 hF (fun M7 hF => ?_)
      refine gz_aload_n 38 hC 0 dX9_doubt_38 rfl rfl ?_
      refine gz_getR 39 hC fl_X9_52 fk_9_7 dX9_doubt_39 hF (fun x8 hF => ?_)
      refine gz_aload_n 42 hC 0 dX9_doubt_42 rfl rfl ?_
      refine gz_getR 43 hC fl_X9_34 fk_9_3 dX9_doubt_43 hF (fun x9 hF => ?_)
      refine gz_getR 46 hC fl_X9_147 fk_8_0 dX9_doubt_46 hF (fun x10 hF => ?_)
      refine gz_iload_n 49 hC 1 dX9_doubt_49 rfl rfl ?_
      refine gz_aald 50 hC dX9_doubt_50 hF (fun x11 hF => ?_)
      refine gz_iload_n 51 hC 2 dX9_doubt_51 rfl rfl ?_
      refine gz_cvM (st := []) 52 hC hX [.ref x11, .int a2] Value.int yl_X3_doubtIn yv_X3_doubtIn q_992 ⟨Nat.le_of_ble_eq_true rfl, Nat.le_of_ble_eq_true rfl⟩ ⟨_, rfl⟩ (fun r h => ct_X3_doubtIn _ _ fu M7 x8 x11 a2 r h) rfl rfl (Nat.le_of_ble_eq_true rfl) dX9_doubt_52 gz_00 hF (fun x12 M13 hF => ?_)
      exact gz_iretM 55 hC hX dX9_doubt_55 hF
    · skip
      refine gz_sub [0] [(0, .ref a0)] rfl ?_
      exact hj15 hF

theorem dX9_idle_0 : decode cX9_idle 0 = .ok (.aload_n 0, 1) := by decide +kernel
theorem dX9_idle_1 : decode cX9_idle 1 = .ok (.iload_n 1, 1) := by decide +kernel
theorem dX9_idle_2 : decode cX9_idle 2 = .ok (.invokevirtual 159, 3) := by decide +kernel
theorem dX9_idle_5 : decode cX9_idle 5 = .ok (.ifCond .ne 10, 3) := by decide +kernel
theorem dX9_idle_8 : decode cX9_idle 8 = .ok (.aload_n 0, 1) := by decide +kernel
theorem dX9_idle_9 : decode cX9_idle 9 = .ok (.bipush (-2), 2) := by decide +kernel
theorem dX9_idle_11 : decode cX9_idle 11 = .ok (.invokevirtual 79, 3) := by decide +kernel
theorem dX9_idle_14 : decode cX9_idle 14 = .ok (.ireturn, 1) := by decide +kernel
theorem dX9_idle_15 : decode cX9_idle 15 = .ok (.aload_n 0, 1) := by decide +kernel
theorem dX9_idle_16 : decode cX9_idle 16 = .ok (.getfield 34, 3) := by decide +kernel
theorem dX9_idle_19 : decode cX9_idle 19 = .ok (.getfield 147, 3) := by decide +kernel
theorem dX9_idle_22 : decode cX9_idle 22 = .ok (.iload_n 1, 1) := by decide +kernel
theorem dX9_idle_23 : decode cX9_idle 23 = .ok (.aaload, 1) := by decide +kernel
theorem dX9_idle_24 : decode cX9_idle 24 = .ok (.astore_n 2, 1) := by decide +kernel
theorem dX9_idle_25 : decode cX9_idle 25 = .ok (.aload_n 0, 1) := by decide +kernel
theorem dX9_idle_26 : decode cX9_idle 26 = .ok (.getfield 52, 3) := by decide +kernel
theorem dX9_idle_29 : decode cX9_idle 29 = .ok (.aload_n 2, 1) := by decide +kernel
theorem dX9_idle_30 : decode cX9_idle 30 = .ok (.invokevirtual 254, 3) := by decide +kernel
theorem dX9_idle_33 : decode cX9_idle 33 = .ok (.iconst 0, 1) := by decide +kernel
theorem dX9_idle_34 : decode cX9_idle 34 = .ok (.istore_n 3, 1) := by decide +kernel
theorem dX9_idle_35 : decode cX9_idle 35 = .ok (.iconst 0, 1) := by decide +kernel
theorem dX9_idle_36 : decode cX9_idle 36 = .ok (.istore 4, 2) := by decide +kernel
theorem dX9_idle_38 : decode cX9_idle 38 = .ok (.iload 4, 2) := by decide +kernel
theorem dX9_idle_40 : decode cX9_idle 40 = .ok (.bipush 10, 2) := by decide +kernel
theorem dX9_idle_42 : decode cX9_idle 42 = .ok (.if_icmp .gt 21, 3) := by decide +kernel
theorem dX9_idle_45 : decode cX9_idle 45 = .ok (.iload_n 3, 1) := by decide +kernel
theorem dX9_idle_46 : decode cX9_idle 46 = .ok (.aload_n 0, 1) := by decide +kernel
theorem dX9_idle_47 : decode cX9_idle 47 = .ok (.getfield 52, 3) := by decide +kernel
theorem dX9_idle_50 : decode cX9_idle 50 = .ok (.iload 4, 2) := by decide +kernel
theorem dX9_idle_52 : decode cX9_idle 52 = .ok (.invokevirtual 258, 3) := by decide +kernel
theorem dX9_idle_55 : decode cX9_idle 55 = .ok (.ior, 1) := by decide +kernel
theorem dX9_idle_56 : decode cX9_idle 56 = .ok (.istore_n 3, 1) := by decide +kernel
theorem dX9_idle_57 : decode cX9_idle 57 = .ok (.iinc 4 1, 3) := by decide +kernel
theorem dX9_idle_60 : decode cX9_idle 60 = .ok (.goto (-22), 3) := by decide +kernel
theorem dX9_idle_63 : decode cX9_idle 63 = .ok (.iconst 0, 1) := by decide +kernel
theorem dX9_idle_64 : decode cX9_idle 64 = .ok (.istore 4, 2) := by decide +kernel
theorem dX9_idle_66 : decode cX9_idle 66 = .ok (.iload 4, 2) := by decide +kernel
theorem dX9_idle_68 : decode cX9_idle 68 = .ok (.aload_n 2, 1) := by decide +kernel
theorem dX9_idle_69 : decode cX9_idle 69 = .ok (.getfield 178, 3) := by decide +kernel
theorem dX9_idle_72 : decode cX9_idle 72 = .ok (.if_icmp .ge 21, 3) := by decide +kernel
theorem dX9_idle_75 : decode cX9_idle 75 = .ok (.iload_n 3, 1) := by decide +kernel
theorem dX9_idle_76 : decode cX9_idle 76 = .ok (.iconst 1, 1) := by decide +kernel
theorem dX9_idle_77 : decode cX9_idle 77 = .ok (.iload 4, 2) := by decide +kernel
theorem dX9_idle_79 : decode cX9_idle 79 = .ok (.ishl, 1) := by decide +kernel
theorem dX9_idle_80 : decode cX9_idle 80 = .ok (.iand, 1) := by decide +kernel
theorem dX9_idle_81 : decode cX9_idle 81 = .ok (.ifCond .ne 6, 3) := by decide +kernel
theorem dX9_idle_84 : decode cX9_idle 84 = .ok (.iload 4, 2) := by decide +kernel
theorem dX9_idle_86 : decode cX9_idle 86 = .ok (.ireturn, 1) := by decide +kernel
theorem dX9_idle_87 : decode cX9_idle 87 = .ok (.iinc 4 1, 3) := by decide +kernel
theorem dX9_idle_90 : decode cX9_idle 90 = .ok (.goto (-24), 3) := by decide +kernel
theorem dX9_idle_93 : decode cX9_idle 93 = .ok (.iconst (-1), 1) := by decide +kernel
theorem dX9_idle_94 : decode cX9_idle 94 = .ok (.ireturn, 1) := by decide +kernel
def lp_X9_idle_38 (j63 : Int32 → Option (Int32 × gz_M)) (fu : Nat) (M8 : gz_M) (a0 : Nat) : Nat → Int32 → Int32 → Option (Int32 × gz_M)
  | 0, _, _ => none
  | n38 + 1, x9, x10 =>
    if (10 : Int32) < x10 then
      j63 x9
    else
      (gz_gR M8 9 7 a0).bind fun x11 =>
      (f_X3_leastTotal fu M8 x11 x10).bind fun x12 =>
      lp_X9_idle_38 j63 fu M8 a0 n38 (x9 ||| x12) (x10 + (1 : Int32))
def lp_X9_idle_66 (j93 : Option (Int32 × gz_M)) (M8 : gz_M) (x6 : Nat) (x13 : Int32) : Nat → Int32 → Option (Int32 × gz_M)
  | 0, _ => none
  | n66 + 1, x14 =>
    (gz_gI M8 7 5 x6).bind fun x15 =>
    if x15 ≤ x14 then
      j93
    else
      if (x13 &&& ((1 : Int32) <<< (x14 &&& 31))) = 0 then
        some (x14, M8)
      else
        lp_X9_idle_66 j93 M8 x6 x13 n66 (x14 + (1 : Int32))
def f_X9_idle (fu : Nat) (M : gz_M) (a0 : Nat) (a1 : Int32) : Option (Int32 × gz_M) :=
  gz_gd M 9 a0 <|
  (f_X9_isValley fu M a0 a1).bind fun x1 =>
  if x1 = 0 then
    gz_b2 (f_X9_refuse fu M a0 (-2 : Int32)) fun x2 M3 =>
    some (x2, M3)
  else
    (gz_gR M 9 3 a0).bind fun x4 =>
    (gz_gR M 8 0 x4).bind fun x5 =>
    (gz_aR M x5 a1).bind fun x6 =>
    (gz_gR M 9 7 a0).bind fun x7 =>
    (f_X3_fillFor fu M x7 x6).bind fun M8 =>
    lp_X9_idle_38 (fun (x13 : Int32) => lp_X9_idle_66 (some ((-1 : Int32), M8)) M8 x6 x13 fu (0 : Int32)) fu M8 a0 fu (0 : Int32) (0 : Int32)
set_option maxHeartbeats 4000000 in
theorem w_X9_idle_38 {C : gz_C} {y : Int32 × gz_M} {fu : Nat} {M8 : gz_M} {a0 : Nat} {x6 : Nat} {j63 : Int32 → Option (Int32 × gz_M)} (hC : gz_ok C cX9_idle RX9 5) (hX : gz_cx C 6 147 0 0 (some .int) (some (.int y.1)) y.2 "idle") (hj63 : ∀ (x13 : Int32), j63 x13 = some y → gz_go C 0 0 M8 [(2, .ref x6), (3, .int x13)] 63 []) : ∀ (n : Nat) (x9 : Int32) (x10 : Int32), lp_X9_idle_38 j63 fu M8 a0 n x9 x10 = some y → gz_go C 0 0 M8 [(0, .ref a0), (2, .ref x6), (3, .int x9), (4, .int x10)] 38 [] := by
  intro n
  induction n with
  | zero => intro x9 x10 hF; exact nomatch (show (none : Option (Int32 × gz_M)) = some y from hF)
  | succ n38 ih38 =>
    intro x9 x10 hF
    rw [lp_X9_idle_38.eq_2] at hF
    refine gz_iload 38 hC 3 dX9_idle_38 rfl ?_
    refine gz_bipush 40 hC (10 : Int32) dX9_idle_40 gz_b10 ?_
    refine gz_icmp_gt 42 63 hC dX9_idle_42 (by decide) hF (fun hF => ?_) (fun hF => ?_)
    · skip
      refine gz_sub [1, 2] [(2, .ref x6), (3, .int x9)] rfl ?_
      exact hj63 _ hF
    · skip
      refine gz_iload_n 45 hC 2 dX9_idle_45 rfl rfl ?_
      refine gz_aload_n 46 hC 0 dX9_idle_46 rfl rfl ?_
      refine gz_getR 47 hC fl_X9_52 fk_9_7 dX9_idle_47 hF (fun x11 hF => ?_)
      refine gz_iload 50 hC 3 dX9_idle_50 rfl ?_
      refine gz_cvP (st := [.int x9]) 52 hC hX [.int x10] Value.int yl_X3_leastTotal yv_X3_leastTotal q_851 ⟨Nat.le_of_ble_eq_true rfl, Nat.le_of_ble_eq_true rfl⟩ ⟨_, rfl⟩ (fun r h => ct_X3_leastTotal _ _ fu M8 x11 x10 r h) rfl rfl (Nat.le_of_ble_eq_true rfl) dX9_idle_52 gz_00 hF (fun x12 hF => ?_)
      refine gz_ior 55 hC dX9_idle_55 ?_
      refine gz_istore_n 56 hC [(3, .int (x9 ||| x12)), (0, .ref a0), (2, .ref x6), (4, .int x10)] dX9_idle_56 rfl (by decide) rfl ?_
      refine gz_iinc 57 hC (x10 + (1 : Int32)) 3 [(4, .int (x10 + (1 : Int32))), (3, .int (x9 ||| x12)), (0, .ref a0), (2, .ref x6)] dX9_idle_57 rfl rfl (by decide) rfl ?_
      refine gz_goto 60 38 hC dX9_idle_60 (by decide) ?_
      refine gz_sub [2, 3, 1, 0] [(0, .ref a0), (2, .ref x6), (3, .int (x9 ||| x12)), (4, .int (x10 + (1 : Int32)))] rfl ?_
      exact ih38 _ _ hF
set_option maxHeartbeats 4000000 in
theorem w_X9_idle_66 {C : gz_C} {y : Int32 × gz_M} {M8 : gz_M} {x6 : Nat} {x13 : Int32} {j93 : Option (Int32 × gz_M)} (hC : gz_ok C cX9_idle RX9 5) (hX : gz_cx C 6 147 0 0 (some .int) (some (.int y.1)) y.2 "idle") (hj93 : j93 = some y → gz_go C 0 0 M8 [] 93 []) : ∀ (n : Nat) (x14 : Int32), lp_X9_idle_66 j93 M8 x6 x13 n x14 = some y → gz_go C 0 0 M8 [(2, .ref x6), (3, .int x13), (4, .int x14)] 66 [] := by
  intro n
  induction n with
  | zero => intro x14 hF; exact nomatch (show (none : Option (Int32 × gz_M)) = some y from hF)
  | succ n66 ih66 =>
    intro x14 hF
    rw [lp_X9_idle_66.eq_2] at hF
    refine gz_iload 66 hC 2 dX9_idle_66 rfl ?_
    refine gz_aload_n 68 hC 0 dX9_idle_68 rfl rfl ?_
    refine gz_getI 69 hC fl_X9_178 fk_7_5 dX9_idle_69 hF (fun x15 hF => ?_)
    refine gz_icmp_ge 72 93 hC dX9_idle_72 (by decide) hF (fun hF => ?_) (fun hF => ?_)
    · skip
      refine gz_sub [] [] rfl ?_
      exact hj93 hF
    · skip
      refine gz_iload_n 75 hC 1 dX9_idle_75 rfl rfl ?_
      refine gz_iconst 76 hC (1 : Int32) dX9_idle_76 gz_k1 ?_
      refine gz_iload 77 hC 2 dX9_idle_77 rfl ?_
      refine gz_ishl 79 hC dX9_idle_79 ?_
      refine gz_iand 80 hC dX9_idle_80 ?_
      refine gz_if_ne 81 87 hC dX9_idle_81 (by decide) hF (fun hF => ?_) (fun hF => ?_)
      · skip
        refine gz_iinc 87 hC (x14 + (1 : Int32)) 2 [(4, .int (x14 + (1 : Int32))), (2, .ref x6), (3, .int x13)] dX9_idle_87 rfl rfl (by decide) rfl ?_
        refine gz_goto 90 66 hC dX9_idle_90 (by decide) ?_
        refine gz_sub [1, 2, 0] [(2, .ref x6), (3, .int x13), (4, .int (x14 + (1 : Int32)))] rfl ?_
        exact ih66 _ hF
      · skip
        refine gz_iload 84 hC 2 dX9_idle_84 rfl ?_
        exact gz_iretM 86 hC hX dX9_idle_86 hF
set_option maxHeartbeats 4000000 in
theorem ct_X9_idle (l : Launch) (G : gz_G) (fu : Nat) (M : gz_M) (a0 : Nat) (a1 : Int32) (y : Int32 × gz_M) (hF : f_X9_idle fu M a0 a1 = some y) : gz_ct l yX9_idle cX9_idle 5 (some .int) 6 147 0 0 G [.ref a0, .int a1] M (some (.int y.1)) y.2 := by
  refine gz_ct.of (by decide) (Nat.le_of_ble_eq_true rfl) (fun C hC hX => ?_)
  unfold f_X9_idle at hF
  obtain ⟨-, hF⟩ := gz_gd_some hF
  show gz_go C 0 0 M [(0, .ref a0), (1, .int a1)] 0 []
  refine gz_aload_n 0 hC 0 dX9_idle_0 rfl rfl ?_
  refine gz_iload_n 1 hC 1 dX9_idle_1 rfl rfl ?_
  refine gz_cvP (st := []) 2 hC hX [.int a1] Value.int yl_X9_isValley yv_X9_isValley q_509 ⟨Nat.le_of_ble_eq_true rfl, Nat.le_of_ble_eq_true rfl⟩ ⟨_, rfl⟩ (fun r h => ct_X9_isValley _ _ fu M a0 a1 r h) rfl rfl (Nat.le_of_ble_eq_true rfl) dX9_idle_2 gz_00 hF (fun x1 hF => ?_)
  refine gz_if_ne 5 15 hC dX9_idle_5 (by decide) hF (fun hF => ?_) (fun hF => ?_)
  · skip
    refine gz_aload_n 15 hC 0 dX9_idle_15 rfl rfl ?_
    refine gz_getR 16 hC fl_X9_34 fk_9_3 dX9_idle_16 hF (fun x4 hF => ?_)
    refine gz_getR 19 hC fl_X9_147 fk_8_0 dX9_idle_19 hF (fun x5 hF => ?_)
    refine gz_iload_n 22 hC 1 dX9_idle_22 rfl rfl ?_
    refine gz_aald 23 hC dX9_idle_23 hF (fun x6 hF => ?_)
    refine gz_astore_n 24 hC [(2, .ref x6), (0, .ref a0), (1, .int a1)] dX9_idle_24 rfl (by decide) rfl ?_
    refine gz_aload_n 25 hC 1 dX9_idle_25 rfl rfl ?_
    refine gz_getR 26 hC fl_X9_52 fk_9_7 dX9_idle_26 hF (fun x7 hF => ?_)
    refine gz_aload_n 29 hC 0 dX9_idle_29 rfl rfl ?_
    refine gz_cvV (st := []) 30 hC hX [.ref x6] yl_X3_fillFor yv_X3_fillFor q_820 ⟨Nat.le_of_ble_eq_true rfl, Nat.le_of_ble_eq_true rfl⟩ ⟨_, rfl⟩ (fun r h => ct_X3_fillFor _ _ fu M x7 x6 r h) rfl rfl (Nat.le_of_ble_eq_true rfl) dX9_idle_30 gz_00 hF (fun M8 hF => ?_)
    refine gz_iconst 33 hC (0 : Int32) dX9_idle_33 gz_k0 ?_
    refine gz_istore_n 34 hC [(3, .int (0 : Int32)), (2, .ref x6), (0, .ref a0), (1, .int a1)] dX9_idle_34 rfl (by decide) rfl ?_
    refine gz_iconst 35 hC (0 : Int32) dX9_idle_35 gz_k0 ?_
    refine gz_istore 36 hC [(4, .int (0 : Int32)), (3, .int (0 : Int32)), (2, .ref x6), (0, .ref a0), (1, .int a1)] dX9_idle_36 (by decide) rfl ?_
    refine gz_sub [3, 2, 1, 0] [(0, .ref a0), (2, .ref x6), (3, .int (0 : Int32)), (4, .int (0 : Int32))] rfl ?_
    refine w_X9_idle_38 hC hX ?_ _ _ _ hF
    intro x13 hF
    refine gz_iconst 63 hC (0 : Int32) dX9_idle_63 gz_k0 ?_
    refine gz_istore 64 hC [(4, .int (0 : Int32)), (2, .ref x6), (3, .int x13)] dX9_idle_64 (by decide) rfl ?_
    refine gz_sub [1, 2, 0] [(2, .ref x6), (3, .int x13), (4, .int (0 : Int32))] rfl ?_
    refine w_X9_idle_66 hC hX ?_ _ _ hF
    intro hF
    refine gz_iconst 93 hC (-1 : Int32) dX9_idle_93 gz_km1 ?_
    exact gz_iretM 94 hC hX dX9_idle_94 hF
  · skip
    refine gz_aload_n 8 hC 0 dX9_idle_8 rfl rfl ?_
    refine gz_bipush 9 hC (-2 : Int32) dX9_idle_9 gz_bm2 ?_
    refine gz_cvM (st := []) 11 hC hX [.int (-2 : Int32)] Value.int yl_X9_refuse yv_X9_refuse q_417 ⟨Nat.le_of_ble_eq_true rfl, Nat.le_of_ble_eq_true rfl⟩ ⟨_, rfl⟩ (fun r h => ct_X9_refuse _ _ fu M a0 (-2 : Int32) r h) rfl rfl (Nat.le_of_ble_eq_true rfl) dX9_idle_11 gz_00 hF (fun x2 M3 hF => ?_)
    exact gz_iretM 14 hC hX dX9_idle_14 hF

theorem dX9_begin_0 : decode cX9_begin 0 = .ok (.aload_n 0, 1) := by decide +kernel
theorem dX9_begin_1 : decode cX9_begin 1 = .ok (.iload_n 1, 1) := by decide +kernel
theorem dX9_begin_2 : decode cX9_begin 2 = .ok (.invokevirtual 159, 3) := by decide +kernel
theorem dX9_begin_5 : decode cX9_begin 5 = .ok (.ifCond .eq 10, 3) := by decide +kernel
theorem dX9_begin_8 : decode cX9_begin 8 = .ok (.iload_n 2, 1) := by decide +kernel
theorem dX9_begin_9 : decode cX9_begin 9 = .ok (.invokestatic 251, 3) := by decide +kernel
theorem dX9_begin_12 : decode cX9_begin 12 = .ok (.ifCond .ne 10, 3) := by decide +kernel
theorem dX9_begin_15 : decode cX9_begin 15 = .ok (.aload_n 0, 1) := by decide +kernel
theorem dX9_begin_16 : decode cX9_begin 16 = .ok (.bipush (-2), 2) := by decide +kernel
theorem dX9_begin_18 : decode cX9_begin 18 = .ok (.invokevirtual 79, 3) := by decide +kernel
theorem dX9_begin_21 : decode cX9_begin 21 = .ok (.ireturn, 1) := by decide +kernel
theorem dX9_begin_22 : decode cX9_begin 22 = .ok (.aload_n 0, 1) := by decide +kernel
theorem dX9_begin_23 : decode cX9_begin 23 = .ok (.getfield 34, 3) := by decide +kernel
theorem dX9_begin_26 : decode cX9_begin 26 = .ok (.getfield 314, 3) := by decide +kernel
theorem dX9_begin_29 : decode cX9_begin 29 = .ok (.aload_n 0, 1) := by decide +kernel
theorem dX9_begin_30 : decode cX9_begin 30 = .ok (.getfield 34, 3) := by decide +kernel
theorem dX9_begin_33 : decode cX9_begin 33 = .ok (.getfield 147, 3) := by decide +kernel
theorem dX9_begin_36 : decode cX9_begin 36 = .ok (.iload_n 1, 1) := by decide +kernel
theorem dX9_begin_37 : decode cX9_begin 37 = .ok (.aaload, 1) := by decide +kernel
theorem dX9_begin_38 : decode cX9_begin 38 = .ok (.iload_n 1, 1) := by decide +kernel
theorem dX9_begin_39 : decode cX9_begin 39 = .ok (.iload_n 2, 1) := by decide +kernel
theorem dX9_begin_40 : decode cX9_begin 40 = .ok (.invokevirtual 318, 3) := by decide +kernel
theorem dX9_begin_43 : decode cX9_begin 43 = .ok (.aload_n 0, 1) := by decide +kernel
theorem dX9_begin_44 : decode cX9_begin 44 = .ok (.getfield 34, 3) := by decide +kernel
theorem dX9_begin_47 : decode cX9_begin 47 = .ok (.getfield 314, 3) := by decide +kernel
theorem dX9_begin_50 : decode cX9_begin 50 = .ok (.invokevirtual 323, 3) := by decide +kernel
theorem dX9_begin_53 : decode cX9_begin 53 = .ok (.ireturn, 1) := by decide +kernel

def f_X9_begin (fu : Nat) (M : gz_M) (a0 : Nat) (a1 : Int32) (a2 : Int32) : Option (Int32 × gz_M) :=
  gz_gd M 9 a0 <|
  (f_X9_isValley fu M a0 a1).bind fun x1 =>
  gz_jn (gz_b2 (f_X9_refuse fu M a0 (-2 : Int32)) fun x12 M13 =>
    some (x12, M13)) fun j15 =>
  if x1 = 0 then
    j15
  else
    (f_X9_isCount fu M a2).bind fun x2 =>
    if x2 = 0 then
      j15
    else
      (gz_gR M 9 3 a0).bind fun x3 =>
      (gz_gR M 8 1 x3).bind fun x4 =>
      (gz_gR M 9 3 a0).bind fun x5 =>
      (gz_gR M 8 0 x5).bind fun x6 =>
      (gz_aR M x6 a1).bind fun x7 =>
      (f_X1_start fu M x4 x7 a1 a2).bind fun M8 =>
      (gz_gR M8 9 3 a0).bind fun x9 =>
      (gz_gR M8 8 1 x9).bind fun x10 =>
      (f_X1_sets fu M8 x10).bind fun x11 =>
      some (x11, M8)

set_option maxHeartbeats 4000000 in
theorem ct_X9_begin (l : Launch) (G : gz_G) (fu : Nat) (M : gz_M) (a0 : Nat) (a1 : Int32) (a2 : Int32) (y : Int32 × gz_M) (hF : f_X9_begin fu M a0 a1 a2 = some y) : gz_ct l yX9_begin cX9_begin 3 (some .int) 3 70 0 0 G [.ref a0, .int a1, .int a2] M (some (.int y.1)) y.2 := by
  refine gz_ct.of (by decide) (Nat.le_of_ble_eq_true rfl) (fun C hC hX => ?_)
  unfold f_X9_begin at hF
  obtain ⟨-, hF⟩ := gz_gd_some hF
  show gz_go C 0 0 M [(0, .ref a0), (1, .int a1), (2, .int a2)] 0 []
  refine gz_aload_n 0 hC 0 dX9_begin_0 rfl rfl ?_
  refine gz_iload_n 1 hC 1 dX9_begin_1 rfl rfl ?_
  refine gz_cvP (st := []) 2 hC hX [.int a1] Value.int yl_X9_isValley yv_X9_isValley q_509 ⟨Nat.le_of_ble_eq_true rfl, Nat.le_of_ble_eq_true rfl⟩ ⟨_, rfl⟩ (fun r h => ct_X9_isValley _ _ fu M a0 a1 r h) rfl rfl (Nat.le_of_ble_eq_true rfl) dX9_begin_2 gz_00 hF (fun x1 hF => ?_)
  refine gz_join (fun (j : Option (Int32 × gz_M)) => j = some y → gz_go C 0 0 M [(0, .ref a0)] 15 []) hF (fun hF => ?_) (fun j15 hj15 hF => ?_)
  · skip
    refine gz_aload_n 15 hC 0 dX9_begin_15 rfl rfl ?_
    refine gz_bipush 16 hC (-2 : Int32) dX9_begin_16 gz_bm2 ?_
    refine gz_cvM (st := []) 18 hC hX [.int (-2 : Int32)] Value.int yl_X9_refuse yv_X9_refuse q_417 ⟨Nat.le_of_ble_eq_true rfl, Nat.le_of_ble_eq_true rfl⟩ ⟨_, rfl⟩ (fun r h => ct_X9_refuse _ _ fu M a0 (-2 : Int32) r h) rfl rfl (Nat.le_of_ble_eq_true rfl) dX9_begin_18 gz_00 hF (fun x12 M13 hF => ?_)
    exact gz_iretM 21 hC hX dX9_begin_21 hF
  refine gz_if_eq 5 15 hC dX9_begin_5 (by decide) hF (fun hF => ?_) (fun hF => ?_)
  · skip
    refine gz_sub [0] [(0, .ref a0)] rfl ?_
    exact hj15 hF
  · skip
    refine gz_iload_n 8 hC 2 dX9_begin_8 rfl rfl ?_
    refine gz_csP (st := []) 9 hC hX [.int a2] Value.int yl_X9_isCount yv_X9_isCount q_817 ⟨Nat.le_of_ble_eq_true rfl, Nat.le_of_ble_eq_true rfl⟩ (fun r h => ct_X9_isCount _ _ fu M a2 r h) rfl rfl (Nat.le_of_ble_eq_true rfl) dX9_begin_9 gz_00 hF (fun x2 hF => ?_)
    refine gz_if_ne 12 22 hC dX9_begin_12 (by decide) hF (fun hF => ?_) (fun hF => ?_)
    · skip
      refine gz_aload_n 22 hC 0 dX9_begin_22 rfl rfl ?_
      refine gz_getR 23 hC fl_X9_34 fk_9_3 dX9_begin_23 hF (fun x3 hF => ?_)
      refine gz_getR 26 hC fl_X9_314 fk_8_1 dX9_begin_26 hF (fun x4 hF => ?_)
      refine gz_aload_n 29 hC 0 dX9_begin_29 rfl rfl ?_
      refine gz_getR 30 hC fl_X9_34 fk_9_3 dX9_begin_30 hF (fun x5 hF => ?_)
      refine gz_getR 33 hC fl_X9_147 fk_8_0 dX9_begin_33 hF (fun x6 hF => ?_)
      refine gz_iload_n 36 hC 1 dX9_begin_36 rfl rfl ?_
      refine gz_aald 37 hC dX9_begin_37 hF (fun x7 hF => ?_)
      refine gz_iload_n 38 hC 1 dX9_begin_38 rfl rfl ?_
      refine gz_iload_n 39 hC 2 dX9_begin_39 rfl rfl ?_
      refine gz_cvV (st := []) 40 hC hX [.ref x7, .int a1, .int a2] yl_X1_start yv_X1_start q_1009 ⟨Nat.le_of_ble_eq_true rfl, Nat.le_of_ble_eq_true rfl⟩ ⟨_, rfl⟩ (fun r h => ct_X1_start _ _ fu M x4 x7 a1 a2 r h) rfl rfl (Nat.le_of_ble_eq_true rfl) dX9_begin_40 gz_00 hF (fun M8 hF => ?_)
      refine gz_aload_n 43 hC 0 dX9_begin_43 rfl rfl ?_
      refine gz_getR 44 hC fl_X9_34 fk_9_3 dX9_begin_44 hF (fun x9 hF => ?_)
      refine gz_getR 47 hC fl_X9_314 fk_8_1 dX9_begin_47 hF (fun x10 hF => ?_)
      refine gz_cvP (st := []) 50 hC hX [] Value.int yl_X1_sets yv_X1_sets q_1018 ⟨Nat.le_of_ble_eq_true rfl, Nat.le_of_ble_eq_true rfl⟩ ⟨_, rfl⟩ (fun r h => ct_X1_sets _ _ fu M8 x10 r h) rfl rfl (Nat.le_of_ble_eq_true rfl) dX9_begin_50 gz_00 hF (fun x11 hF => ?_)
      exact gz_iretM 53 hC hX dX9_begin_53 hF
    · skip
      refine gz_sub [0] [(0, .ref a0)] rfl ?_
      exact hj15 hF

theorem dX9_step_0 : decode cX9_step 0 = .ok (.iload_n 1, 1) := by decide +kernel
theorem dX9_step_1 : decode cX9_step 1 = .ok (.iconst 1, 1) := by decide +kernel
theorem dX9_step_2 : decode cX9_step 2 = .ok (.sipush 999, 3) := by decide +kernel
theorem dX9_step_5 : decode cX9_step 5 = .ok (.invokestatic 75, 3) := by decide +kernel
theorem dX9_step_8 : decode cX9_step 8 = .ok (.ifCond .ne 10, 3) := by decide +kernel
theorem dX9_step_11 : decode cX9_step 11 = .ok (.aload_n 0, 1) := by decide +kernel
theorem dX9_step_12 : decode cX9_step 12 = .ok (.bipush (-2), 2) := by decide +kernel
theorem dX9_step_14 : decode cX9_step 14 = .ok (.invokevirtual 79, 3) := by decide +kernel
theorem dX9_step_17 : decode cX9_step 17 = .ok (.ireturn, 1) := by decide +kernel
theorem dX9_step_18 : decode cX9_step 18 = .ok (.aload_n 0, 1) := by decide +kernel
theorem dX9_step_19 : decode cX9_step 19 = .ok (.getfield 34, 3) := by decide +kernel
theorem dX9_step_22 : decode cX9_step 22 = .ok (.getfield 314, 3) := by decide +kernel
theorem dX9_step_25 : decode cX9_step 25 = .ok (.getfield 326, 3) := by decide +kernel
theorem dX9_step_28 : decode cX9_step 28 = .ok (.ifCond .eq 16, 3) := by decide +kernel
theorem dX9_step_31 : decode cX9_step 31 = .ok (.aload_n 0, 1) := by decide +kernel
theorem dX9_step_32 : decode cX9_step 32 = .ok (.getfield 34, 3) := by decide +kernel
theorem dX9_step_35 : decode cX9_step 35 = .ok (.getfield 314, 3) := by decide +kernel
theorem dX9_step_38 : decode cX9_step 38 = .ok (.invokevirtual 329, 3) := by decide +kernel
theorem dX9_step_41 : decode cX9_step 41 = .ok (.ifCond .eq 10, 3) := by decide +kernel
theorem dX9_step_44 : decode cX9_step 44 = .ok (.aload_n 0, 1) := by decide +kernel
theorem dX9_step_45 : decode cX9_step 45 = .ok (.bipush (-5), 2) := by decide +kernel
theorem dX9_step_47 : decode cX9_step 47 = .ok (.invokevirtual 79, 3) := by decide +kernel
theorem dX9_step_50 : decode cX9_step 50 = .ok (.ireturn, 1) := by decide +kernel
theorem dX9_step_51 : decode cX9_step 51 = .ok (.aload_n 0, 1) := by decide +kernel
theorem dX9_step_52 : decode cX9_step 52 = .ok (.getfield 52, 3) := by decide +kernel
theorem dX9_step_55 : decode cX9_step 55 = .ok (.aload_n 0, 1) := by decide +kernel
theorem dX9_step_56 : decode cX9_step 56 = .ok (.getfield 34, 3) := by decide +kernel
theorem dX9_step_59 : decode cX9_step 59 = .ok (.getfield 314, 3) := by decide +kernel
theorem dX9_step_62 : decode cX9_step 62 = .ok (.getfield 332, 3) := by decide +kernel
theorem dX9_step_65 : decode cX9_step 65 = .ok (.invokevirtual 254, 3) := by decide +kernel
theorem dX9_step_68 : decode cX9_step 68 = .ok (.aload_n 0, 1) := by decide +kernel
theorem dX9_step_69 : decode cX9_step 69 = .ok (.getfield 34, 3) := by decide +kernel
theorem dX9_step_72 : decode cX9_step 72 = .ok (.getfield 314, 3) := by decide +kernel
theorem dX9_step_75 : decode cX9_step 75 = .ok (.aload_n 0, 1) := by decide +kernel
theorem dX9_step_76 : decode cX9_step 76 = .ok (.getfield 52, 3) := by decide +kernel
theorem dX9_step_79 : decode cX9_step 79 = .ok (.iload_n 1, 1) := by decide +kernel
theorem dX9_step_80 : decode cX9_step 80 = .ok (.invokevirtual 336, 3) := by decide +kernel
theorem dX9_step_83 : decode cX9_step 83 = .ok (.aload_n 0, 1) := by decide +kernel
theorem dX9_step_84 : decode cX9_step 84 = .ok (.getfield 34, 3) := by decide +kernel
theorem dX9_step_87 : decode cX9_step 87 = .ok (.getfield 314, 3) := by decide +kernel
theorem dX9_step_90 : decode cX9_step 90 = .ok (.getfield 340, 3) := by decide +kernel
theorem dX9_step_93 : decode cX9_step 93 = .ok (.ireturn, 1) := by decide +kernel

def f_X9_step (fu : Nat) (M : gz_M) (a0 : Nat) (a1 : Int32) : Option (Int32 × gz_M) :=
  gz_gd M 9 a0 <|
  (f_X9_isWithin fu M a1 (1 : Int32) (999 : Int32)).bind fun x1 =>
  if x1 = 0 then
    gz_b2 (f_X9_refuse fu M a0 (-2 : Int32)) fun x2 M3 =>
    some (x2, M3)
  else
    (gz_gR M 9 3 a0).bind fun x4 =>
    (gz_gR M 8 1 x4).bind fun x5 =>
    (gz_gI M 1 1 x5).bind fun x6 =>
    gz_jn (gz_b2 (f_X9_refuse fu M a0 (-5 : Int32)) fun x22 M23 =>
      some (x22, M23)) fun j44 =>
    if x6 = 0 then
      j44
    else
      (gz_gR M 9 3 a0).bind fun x7 =>
      (gz_gR M 8 1 x7).bind fun x8 =>
      (f_X1_isDone fu M x8).bind fun x9 =>
      if x9 = 0 then
        (gz_gR M 9 7 a0).bind fun x10 =>
        (gz_gR M 9 3 a0).bind fun x11 =>
        (gz_gR M 8 1 x11).bind fun x12 =>
        (gz_gR M 1 0 x12).bind fun x13 =>
        (f_X3_fillFor fu M x10 x13).bind fun M14 =>
        (gz_gR M14 9 3 a0).bind fun x15 =>
        (gz_gR M14 8 1 x15).bind fun x16 =>
        (gz_gR M14 9 7 a0).bind fun x17 =>
        (f_X1_lookAt fu M14 x16 x17 a1).bind fun M18 =>
        (gz_gR M18 9 3 a0).bind fun x19 =>
        (gz_gR M18 8 1 x19).bind fun x20 =>
        (gz_gI M18 1 6 x20).bind fun x21 =>
        some (x21, M18)
      else
        j44

set_option maxHeartbeats 4000000 in
theorem ct_X9_step (l : Launch) (G : gz_G) (fu : Nat) (M : gz_M) (a0 : Nat) (a1 : Int32) (y : Int32 × gz_M) (hF : f_X9_step fu M a0 a1 = some y) : gz_ct l yX9_step cX9_step 2 (some .int) 6 147 0 0 G [.ref a0, .int a1] M (some (.int y.1)) y.2 := by
  refine gz_ct.of (by decide) (Nat.le_of_ble_eq_true rfl) (fun C hC hX => ?_)
  unfold f_X9_step at hF
  obtain ⟨-, hF⟩ := gz_gd_some hF
  show gz_go C 0 0 M [(0, .ref a0), (1, .int a1)] 0 []
  refine gz_iload_n 0 hC 1 dX9_step_0 rfl rfl ?_
  refine gz_iconst 1 hC (1 : Int32) dX9_step_1 gz_k1 ?_
  refine gz_sipush 2 hC (999 : Int32) dX9_step_2 gz_s999 ?_
  refine gz_csP (st := []) 5 hC hX [.int a1, .int (1 : Int32), .int (999 : Int32)] Value.int yl_X9_isWithin yv_X9_isWithin q_414 ⟨Nat.le_of_ble_eq_true rfl, Nat.le_of_ble_eq_true rfl⟩ (fun r h => ct_X9_isWithin _ _ fu M a1 (1 : Int32) (999 : Int32) r h) rfl rfl (Nat.le_of_ble_eq_true rfl) dX9_step_5 gz_00 hF (fun x1 hF => ?_)
  refine gz_if_ne 8 18 hC dX9_step_8 (by decide) hF (fun hF => ?_) (fun hF => ?_)
  · skip
    refine gz_aload_n 18 hC 0 dX9_step_18 rfl rfl ?_
    refine gz_getR 19 hC fl_X9_34 fk_9_3 dX9_step_19 hF (fun x4 hF => ?_)
    refine gz_getR 22 hC fl_X9_314 fk_8_1 dX9_step_22 hF (fun x5 hF => ?_)
    refine gz_getI 25 hC fl_X9_326 fk_1_1 dX9_step_25 hF (fun x6 hF => ?_)
    refine gz_join (fun (j : Option (Int32 × gz_M)) => j = some y → gz_go C 0 0 M [(0, .ref a0)] 44 []) hF (fun hF => ?_) (fun j44 hj44 hF => ?_)
    · skip
      refine gz_aload_n 44 hC 0 dX9_step_44 rfl rfl ?_
      refine gz_bipush 45 hC (-5 : Int32) dX9_step_45 gz_bm5 ?_
      refine gz_cvM (st := []) 47 hC hX [.int (-5 : Int32)] Value.int yl_X9_refuse yv_X9_refuse q_417 ⟨Nat.le_of_ble_eq_true rfl, Nat.le_of_ble_eq_true rfl⟩ ⟨_, rfl⟩ (fun r h => ct_X9_refuse _ _ fu M a0 (-5 : Int32) r h) rfl rfl (Nat.le_of_ble_eq_true rfl) dX9_step_47 gz_00 hF (fun x22 M23 hF => ?_)
      exact gz_iretM 50 hC hX dX9_step_50 hF
    refine gz_if_eq 28 44 hC dX9_step_28 (by decide) hF (fun hF => ?_) (fun hF => ?_)
    · skip
      refine gz_sub [0] [(0, .ref a0)] rfl ?_
      exact hj44 hF
    · skip
      refine gz_aload_n 31 hC 0 dX9_step_31 rfl rfl ?_
      refine gz_getR 32 hC fl_X9_34 fk_9_3 dX9_step_32 hF (fun x7 hF => ?_)
      refine gz_getR 35 hC fl_X9_314 fk_8_1 dX9_step_35 hF (fun x8 hF => ?_)
      refine gz_cvP (st := []) 38 hC hX [] Value.int yl_X1_isDone yv_X1_isDone q_1026 ⟨Nat.le_of_ble_eq_true rfl, Nat.le_of_ble_eq_true rfl⟩ ⟨_, rfl⟩ (fun r h => ct_X1_isDone _ _ fu M x8 r h) rfl rfl (Nat.le_of_ble_eq_true rfl) dX9_step_38 gz_00 hF (fun x9 hF => ?_)
      refine gz_if_eq 41 51 hC dX9_step_41 (by decide) hF (fun hF => ?_) (fun hF => ?_)
      · skip
        refine gz_aload_n 51 hC 0 dX9_step_51 rfl rfl ?_
        refine gz_getR 52 hC fl_X9_52 fk_9_7 dX9_step_52 hF (fun x10 hF => ?_)
        refine gz_aload_n 55 hC 0 dX9_step_55 rfl rfl ?_
        refine gz_getR 56 hC fl_X9_34 fk_9_3 dX9_step_56 hF (fun x11 hF => ?_)
        refine gz_getR 59 hC fl_X9_314 fk_8_1 dX9_step_59 hF (fun x12 hF => ?_)
        refine gz_getR 62 hC fl_X9_332 fk_1_0 dX9_step_62 hF (fun x13 hF => ?_)
        refine gz_cvV (st := []) 65 hC hX [.ref x13] yl_X3_fillFor yv_X3_fillFor q_820 ⟨Nat.le_of_ble_eq_true rfl, Nat.le_of_ble_eq_true rfl⟩ ⟨_, rfl⟩ (fun r h => ct_X3_fillFor _ _ fu M x10 x13 r h) rfl rfl (Nat.le_of_ble_eq_true rfl) dX9_step_65 gz_00 hF (fun M14 hF => ?_)
        refine gz_aload_n 68 hC 0 dX9_step_68 rfl rfl ?_
        refine gz_getR 69 hC fl_X9_34 fk_9_3 dX9_step_69 hF (fun x15 hF => ?_)
        refine gz_getR 72 hC fl_X9_314 fk_8_1 dX9_step_72 hF (fun x16 hF => ?_)
        refine gz_aload_n 75 hC 0 dX9_step_75 rfl rfl ?_
        refine gz_getR 76 hC fl_X9_52 fk_9_7 dX9_step_76 hF (fun x17 hF => ?_)
        refine gz_iload_n 79 hC 1 dX9_step_79 rfl rfl ?_
        refine gz_cvV (st := []) 80 hC hX [.ref x17, .int a1] yl_X1_lookAt yv_X1_lookAt q_1031 ⟨Nat.le_of_ble_eq_true rfl, Nat.le_of_ble_eq_true rfl⟩ ⟨_, rfl⟩ (fun r h => ct_X1_lookAt _ _ fu M14 x16 x17 a1 r h) rfl rfl (Nat.le_of_ble_eq_true rfl) dX9_step_80 gz_00 hF (fun M18 hF => ?_)
        refine gz_aload_n 83 hC 0 dX9_step_83 rfl rfl ?_
        refine gz_getR 84 hC fl_X9_34 fk_9_3 dX9_step_84 hF (fun x19 hF => ?_)
        refine gz_getR 87 hC fl_X9_314 fk_8_1 dX9_step_87 hF (fun x20 hF => ?_)
        refine gz_getI 90 hC fl_X9_340 fk_1_6 dX9_step_90 hF (fun x21 hF => ?_)
        exact gz_iretM 93 hC hX dX9_step_93 hF
      · skip
        refine gz_sub [0] [(0, .ref a0)] rfl ?_
        exact hj44 hF
  · skip
    refine gz_aload_n 11 hC 0 dX9_step_11 rfl rfl ?_
    refine gz_bipush 12 hC (-2 : Int32) dX9_step_12 gz_bm2 ?_
    refine gz_cvM (st := []) 14 hC hX [.int (-2 : Int32)] Value.int yl_X9_refuse yv_X9_refuse q_417 ⟨Nat.le_of_ble_eq_true rfl, Nat.le_of_ble_eq_true rfl⟩ ⟨_, rfl⟩ (fun r h => ct_X9_refuse _ _ fu M a0 (-2 : Int32) r h) rfl rfl (Nat.le_of_ble_eq_true rfl) dX9_step_14 gz_00 hF (fun x2 M3 hF => ?_)
    exact gz_iretM 17 hC hX dX9_step_17 hF

theorem dX9_search_0 : decode cX9_search 0 = .ok (.iload_n 1, 1) := by decide +kernel
theorem dX9_search_1 : decode cX9_search 1 = .ok (.iconst 0, 1) := by decide +kernel
theorem dX9_search_2 : decode cX9_search 2 = .ok (.iconst 4, 1) := by decide +kernel
theorem dX9_search_3 : decode cX9_search 3 = .ok (.invokestatic 75, 3) := by decide +kernel
theorem dX9_search_6 : decode cX9_search 6 = .ok (.ifCond .ne 10, 3) := by decide +kernel
theorem dX9_search_9 : decode cX9_search 9 = .ok (.aload_n 0, 1) := by decide +kernel
theorem dX9_search_10 : decode cX9_search 10 = .ok (.bipush (-2), 2) := by decide +kernel
theorem dX9_search_12 : decode cX9_search 12 = .ok (.invokevirtual 79, 3) := by decide +kernel
theorem dX9_search_15 : decode cX9_search 15 = .ok (.ireturn, 1) := by decide +kernel
theorem dX9_search_16 : decode cX9_search 16 = .ok (.aload_n 0, 1) := by decide +kernel
theorem dX9_search_17 : decode cX9_search 17 = .ok (.getfield 34, 3) := by decide +kernel
theorem dX9_search_20 : decode cX9_search 20 = .ok (.getfield 314, 3) := by decide +kernel
theorem dX9_search_23 : decode cX9_search 23 = .ok (.astore_n 2, 1) := by decide +kernel
theorem dX9_search_24 : decode cX9_search 24 = .ok (.aload_n 2, 1) := by decide +kernel
theorem dX9_search_25 : decode cX9_search 25 = .ok (.getfield 326, 3) := by decide +kernel
theorem dX9_search_28 : decode cX9_search 28 = .ok (.ifCond .ne 10, 3) := by decide +kernel
theorem dX9_search_31 : decode cX9_search 31 = .ok (.aload_n 0, 1) := by decide +kernel
theorem dX9_search_32 : decode cX9_search 32 = .ok (.bipush (-5), 2) := by decide +kernel
theorem dX9_search_34 : decode cX9_search 34 = .ok (.invokevirtual 79, 3) := by decide +kernel
theorem dX9_search_37 : decode cX9_search 37 = .ok (.ireturn, 1) := by decide +kernel
theorem dX9_search_38 : decode cX9_search 38 = .ok (.iload_n 1, 1) := by decide +kernel
theorem dX9_search_39 : decode cX9_search 39 = .ok (.tableswitch 49 0 3 #[29, 34, 39, 44], 29) := by decide +kernel
theorem dX9_search_68 : decode cX9_search 68 = .ok (.aload_n 2, 1) := by decide +kernel
theorem dX9_search_69 : decode cX9_search 69 = .ok (.getfield 343, 3) := by decide +kernel
theorem dX9_search_72 : decode cX9_search 72 = .ok (.ireturn, 1) := by decide +kernel
theorem dX9_search_73 : decode cX9_search 73 = .ok (.aload_n 2, 1) := by decide +kernel
theorem dX9_search_74 : decode cX9_search 74 = .ok (.getfield 344, 3) := by decide +kernel
theorem dX9_search_77 : decode cX9_search 77 = .ok (.ireturn, 1) := by decide +kernel
theorem dX9_search_78 : decode cX9_search 78 = .ok (.aload_n 2, 1) := by decide +kernel
theorem dX9_search_79 : decode cX9_search 79 = .ok (.getfield 347, 3) := by decide +kernel
theorem dX9_search_82 : decode cX9_search 82 = .ok (.ireturn, 1) := by decide +kernel
theorem dX9_search_83 : decode cX9_search 83 = .ok (.aload_n 2, 1) := by decide +kernel
theorem dX9_search_84 : decode cX9_search 84 = .ok (.getfield 350, 3) := by decide +kernel
theorem dX9_search_87 : decode cX9_search 87 = .ok (.ireturn, 1) := by decide +kernel
theorem dX9_search_88 : decode cX9_search 88 = .ok (.aload_n 2, 1) := by decide +kernel
theorem dX9_search_89 : decode cX9_search 89 = .ok (.invokevirtual 329, 3) := by decide +kernel
theorem dX9_search_92 : decode cX9_search 92 = .ok (.ifCond .eq 7, 3) := by decide +kernel
theorem dX9_search_95 : decode cX9_search 95 = .ok (.iconst 1, 1) := by decide +kernel
theorem dX9_search_96 : decode cX9_search 96 = .ok (.goto 4, 3) := by decide +kernel
theorem dX9_search_99 : decode cX9_search 99 = .ok (.iconst 0, 1) := by decide +kernel
theorem dX9_search_100 : decode cX9_search 100 = .ok (.ireturn, 1) := by decide +kernel

def f_X9_search (fu : Nat) (M : gz_M) (a0 : Nat) (a1 : Int32) : Option (Int32 × gz_M) :=
  gz_gd M 9 a0 <|
  (f_X9_isWithin fu M a1 (0 : Int32) (4 : Int32)).bind fun x1 =>
  if x1 = 0 then
    gz_b2 (f_X9_refuse fu M a0 (-2 : Int32)) fun x2 M3 =>
    some (x2, M3)
  else
    (gz_gR M 9 3 a0).bind fun x4 =>
    (gz_gR M 8 1 x4).bind fun x5 =>
    (gz_gI M 1 1 x5).bind fun x6 =>
    if x6 = 0 then
      gz_b2 (f_X9_refuse fu M a0 (-5 : Int32)) fun x7 M8 =>
      some (x7, M8)
    else
      if a1 = (0 : Int32) then (gz_gI M 1 2 x5).bind fun x14 =>
        some (x14, M) else if a1 = (1 : Int32) then (gz_gI M 1 3 x5).bind fun x13 =>
        some (x13, M) else if a1 = (2 : Int32) then (gz_gI M 1 4 x5).bind fun x12 =>
        some (x12, M) else if a1 = (3 : Int32) then (gz_gI M 1 5 x5).bind fun x11 =>
        some (x11, M) else (f_X1_isDone fu M x5).bind fun x9 =>
      gz_jn (fun (x10 : Int32) =>
      some (x10, M)) fun j100 =>
      if x9 = 0 then
        j100 (0 : Int32)
      else
        j100 (1 : Int32)

set_option maxHeartbeats 4000000 in
theorem ct_X9_search (l : Launch) (G : gz_G) (fu : Nat) (M : gz_M) (a0 : Nat) (a1 : Int32) (y : Int32 × gz_M) (hF : f_X9_search fu M a0 a1 = some y) : gz_ct l yX9_search cX9_search 3 (some .int) 2 40 0 0 G [.ref a0, .int a1] M (some (.int y.1)) y.2 := by
  refine gz_ct.of (by decide) (Nat.le_of_ble_eq_true rfl) (fun C hC hX => ?_)
  unfold f_X9_search at hF
  obtain ⟨-, hF⟩ := gz_gd_some hF
  show gz_go C 0 0 M [(0, .ref a0), (1, .int a1)] 0 []
  refine gz_iload_n 0 hC 1 dX9_search_0 rfl rfl ?_
  refine gz_iconst 1 hC (0 : Int32) dX9_search_1 gz_k0 ?_
  refine gz_iconst 2 hC (4 : Int32) dX9_search_2 gz_k4 ?_
  refine gz_csP (st := []) 3 hC hX [.int a1, .int (0 : Int32), .int (4 : Int32)] Value.int yl_X9_isWithin yv_X9_isWithin q_414 ⟨Nat.le_of_ble_eq_true rfl, Nat.le_of_ble_eq_true rfl⟩ (fun r h => ct_X9_isWithin _ _ fu M a1 (0 : Int32) (4 : Int32) r h) rfl rfl (Nat.le_of_ble_eq_true rfl) dX9_search_3 gz_00 hF (fun x1 hF => ?_)
  refine gz_if_ne 6 16 hC dX9_search_6 (by decide) hF (fun hF => ?_) (fun hF => ?_)
  · skip
    refine gz_aload_n 16 hC 0 dX9_search_16 rfl rfl ?_
    refine gz_getR 17 hC fl_X9_34 fk_9_3 dX9_search_17 hF (fun x4 hF => ?_)
    refine gz_getR 20 hC fl_X9_314 fk_8_1 dX9_search_20 hF (fun x5 hF => ?_)
    refine gz_astore_n 23 hC [(2, .ref x5), (0, .ref a0), (1, .int a1)] dX9_search_23 rfl (by decide) rfl ?_
    refine gz_aload_n 24 hC 0 dX9_search_24 rfl rfl ?_
    refine gz_getI 25 hC fl_X9_326 fk_1_1 dX9_search_25 hF (fun x6 hF => ?_)
    refine gz_if_ne 28 38 hC dX9_search_28 (by decide) hF (fun hF => ?_) (fun hF => ?_)
    · skip
      refine gz_iload_n 38 hC 2 dX9_search_38 rfl rfl ?_
      refine gz_cse hF (fun e0 hF => ?_) (fun e0 hF => ?_)
      · skip
        refine gz_tin 39 68 hC (off := 29) dX9_search_39 e0 (by decide) (by decide) (by decide) ?_
        refine gz_aload_n 68 hC 0 dX9_search_68 rfl rfl ?_
        refine gz_getI 69 hC fl_X9_343 fk_1_2 dX9_search_69 hF (fun x14 hF => ?_)
        exact gz_iretM 72 hC hX dX9_search_72 hF
      refine gz_cse hF (fun e1 hF => ?_) (fun e1 hF => ?_)
      · skip
        refine gz_tin 39 73 hC (off := 34) dX9_search_39 e1 (by decide) (by decide) (by decide) ?_
        refine gz_aload_n 73 hC 0 dX9_search_73 rfl rfl ?_
        refine gz_getI 74 hC fl_X9_344 fk_1_3 dX9_search_74 hF (fun x13 hF => ?_)
        exact gz_iretM 77 hC hX dX9_search_77 hF
      refine gz_cse hF (fun e2 hF => ?_) (fun e2 hF => ?_)
      · skip
        refine gz_tin 39 78 hC (off := 39) dX9_search_39 e2 (by decide) (by decide) (by decide) ?_
        refine gz_aload_n 78 hC 0 dX9_search_78 rfl rfl ?_
        refine gz_getI 79 hC fl_X9_347 fk_1_4 dX9_search_79 hF (fun x12 hF => ?_)
        exact gz_iretM 82 hC hX dX9_search_82 hF
      refine gz_cse hF (fun e3 hF => ?_) (fun e3 hF => ?_)
      · skip
        refine gz_tin 39 83 hC (off := 44) dX9_search_39 e3 (by decide) (by decide) (by decide) ?_
        refine gz_aload_n 83 hC 0 dX9_search_83 rfl rfl ?_
        refine gz_getI 84 hC fl_X9_350 fk_1_5 dX9_search_84 hF (fun x11 hF => ?_)
        exact gz_iretM 87 hC hX dX9_search_87 hF
      refine gz_tout 39 88 hC dX9_search_39 (by have h0 := lv_neT (a := 0) e0 (by decide); have h1 := lv_neT (a := 1) e1 (by decide); have h2 := lv_neT (a := 2) e2 (by decide); have h3 := lv_neT (a := 3) e3 (by decide); omega) (by decide) ?_
      refine gz_aload_n 88 hC 0 dX9_search_88 rfl rfl ?_
      refine gz_cvP (st := []) 89 hC hX [] Value.int yl_X1_isDone yv_X1_isDone q_1026 ⟨Nat.le_of_ble_eq_true rfl, Nat.le_of_ble_eq_true rfl⟩ ⟨_, rfl⟩ (fun r h => ct_X1_isDone _ _ fu M x5 r h) rfl rfl (Nat.le_of_ble_eq_true rfl) dX9_search_89 gz_00 hF (fun x9 hF => ?_)
      refine gz_join (fun (j : Int32 → Option (Int32 × gz_M)) => ∀ (x10 : Int32), j x10 = some y → gz_go C 0 0 M [] 100 [.int x10]) hF (fun x10 hF => ?_) (fun j100 hj100 hF => ?_)
      · skip
        exact gz_iretM 100 hC hX dX9_search_100 hF
      refine gz_if_eq 92 99 hC dX9_search_92 (by decide) hF (fun hF => ?_) (fun hF => ?_)
      · skip
        refine gz_iconst 99 hC (0 : Int32) dX9_search_99 gz_k0 ?_
        refine gz_sub [] [] rfl ?_
        exact hj100 _ hF
      · skip
        refine gz_iconst 95 hC (1 : Int32) dX9_search_95 gz_k1 ?_
        refine gz_goto 96 100 hC dX9_search_96 (by decide) ?_
        refine gz_sub [] [] rfl ?_
        exact hj100 _ hF
    · skip
      refine gz_aload_n 31 hC 1 dX9_search_31 rfl rfl ?_
      refine gz_bipush 32 hC (-5 : Int32) dX9_search_32 gz_bm5 ?_
      refine gz_cvM (st := []) 34 hC hX [.int (-5 : Int32)] Value.int yl_X9_refuse yv_X9_refuse q_417 ⟨Nat.le_of_ble_eq_true rfl, Nat.le_of_ble_eq_true rfl⟩ ⟨_, rfl⟩ (fun r h => ct_X9_refuse _ _ fu M a0 (-5 : Int32) r h) rfl rfl (Nat.le_of_ble_eq_true rfl) dX9_search_34 gz_00 hF (fun x7 M8 hF => ?_)
      exact gz_iretM 37 hC hX dX9_search_37 hF
  · skip
    refine gz_aload_n 9 hC 0 dX9_search_9 rfl rfl ?_
    refine gz_bipush 10 hC (-2 : Int32) dX9_search_10 gz_bm2 ?_
    refine gz_cvM (st := []) 12 hC hX [.int (-2 : Int32)] Value.int yl_X9_refuse yv_X9_refuse q_417 ⟨Nat.le_of_ble_eq_true rfl, Nat.le_of_ble_eq_true rfl⟩ ⟨_, rfl⟩ (fun r h => ct_X9_refuse _ _ fu M a0 (-2 : Int32) r h) rfl rfl (Nat.le_of_ble_eq_true rfl) dX9_search_12 gz_00 hF (fun x2 M3 hF => ?_)
    exact gz_iretM 15 hC hX dX9_search_15 hF

theorem dX9_image_0 : decode cX9_image 0 = .ok (.aload_n 0, 1) := by decide +kernel
theorem dX9_image_1 : decode cX9_image 1 = .ok (.getfield 38, 3) := by decide +kernel
theorem dX9_image_4 : decode cX9_image 4 = .ok (.aload_n 0, 1) := by decide +kernel
theorem dX9_image_5 : decode cX9_image 5 = .ok (.getfield 34, 3) := by decide +kernel
theorem dX9_image_8 : decode cX9_image 8 = .ok (.invokevirtual 353, 3) := by decide +kernel
theorem dX9_image_11 : decode cX9_image 11 = .ok (.aload_n 0, 1) := by decide +kernel
theorem dX9_image_12 : decode cX9_image 12 = .ok (.iconst 1, 1) := by decide +kernel
theorem dX9_image_13 : decode cX9_image 13 = .ok (.putfield 41, 3) := by decide +kernel
theorem dX9_image_16 : decode cX9_image 16 = .ok (.iconst 1, 1) := by decide +kernel
theorem dX9_image_17 : decode cX9_image 17 = .ok (.ireturn, 1) := by decide +kernel

def f_X9_image (fu : Nat) (M : gz_M) (a0 : Nat) : Option (Int32 × gz_M) :=
  gz_gd M 9 a0 <|
  (gz_gR M 9 4 a0).bind fun x1 =>
  (gz_gR M 9 3 a0).bind fun x2 =>
  (f_X8_takeFrom fu M x1 x2).bind fun M3 =>
  (gz_pZ M3 9 5 a0 (1 : Int32)).bind fun M4 =>
  some ((1 : Int32), M4)

set_option maxHeartbeats 4000000 in
theorem ct_X9_image (l : Launch) (G : gz_G) (fu : Nat) (M : gz_M) (a0 : Nat) (y : Int32 × gz_M) (hF : f_X9_image fu M a0 = some y) : gz_ct l yX9_image cX9_image 1 (some .int) 4 90 0 0 G [.ref a0] M (some (.int y.1)) y.2 := by
  refine gz_ct.of (by decide) (Nat.le_of_ble_eq_true rfl) (fun C hC hX => ?_)
  unfold f_X9_image at hF
  obtain ⟨-, hF⟩ := gz_gd_some hF
  show gz_go C 0 0 M [(0, .ref a0)] 0 []
  refine gz_aload_n 0 hC 0 dX9_image_0 rfl rfl ?_
  refine gz_getR 1 hC fl_X9_38 fk_9_4 dX9_image_1 hF (fun x1 hF => ?_)
  refine gz_aload_n 4 hC 0 dX9_image_4 rfl rfl ?_
  refine gz_getR 5 hC fl_X9_34 fk_9_3 dX9_image_5 hF (fun x2 hF => ?_)
  refine gz_cvV (st := []) 8 hC hX [.ref x2] yl_X8_takeFrom yv_X8_takeFrom q_1045 ⟨Nat.le_of_ble_eq_true rfl, Nat.le_of_ble_eq_true rfl⟩ ⟨_, rfl⟩ (fun r h => ct_X8_takeFrom _ _ fu M x1 x2 r h) rfl rfl (Nat.le_of_ble_eq_true rfl) dX9_image_8 gz_00 hF (fun M3 hF => ?_)
  refine gz_aload_n 11 hC 0 dX9_image_11 rfl rfl ?_
  refine gz_iconst 12 hC (1 : Int32) dX9_image_12 gz_k1 ?_
  refine gz_putZ 13 hC fl_X9_41 fk_9_5 dX9_image_13 hF (fun M4 hF => ?_)
  refine gz_iconst 16 hC (1 : Int32) dX9_image_16 gz_k1 ?_
  exact gz_iretM 17 hC hX dX9_image_17 hF

theorem dX9_back_0 : decode cX9_back 0 = .ok (.aload_n 0, 1) := by decide +kernel
theorem dX9_back_1 : decode cX9_back 1 = .ok (.getfield 41, 3) := by decide +kernel
theorem dX9_back_4 : decode cX9_back 4 = .ok (.ifCond .ne 10, 3) := by decide +kernel
theorem dX9_back_7 : decode cX9_back 7 = .ok (.aload_n 0, 1) := by decide +kernel
theorem dX9_back_8 : decode cX9_back 8 = .ok (.bipush (-5), 2) := by decide +kernel
theorem dX9_back_10 : decode cX9_back 10 = .ok (.invokevirtual 79, 3) := by decide +kernel
theorem dX9_back_13 : decode cX9_back 13 = .ok (.ireturn, 1) := by decide +kernel
theorem dX9_back_14 : decode cX9_back 14 = .ok (.aload_n 0, 1) := by decide +kernel
theorem dX9_back_15 : decode cX9_back 15 = .ok (.getfield 34, 3) := by decide +kernel
theorem dX9_back_18 : decode cX9_back 18 = .ok (.aload_n 0, 1) := by decide +kernel
theorem dX9_back_19 : decode cX9_back 19 = .ok (.getfield 38, 3) := by decide +kernel
theorem dX9_back_22 : decode cX9_back 22 = .ok (.invokevirtual 353, 3) := by decide +kernel
theorem dX9_back_25 : decode cX9_back 25 = .ok (.iconst 1, 1) := by decide +kernel
theorem dX9_back_26 : decode cX9_back 26 = .ok (.ireturn, 1) := by decide +kernel

def f_X9_back (fu : Nat) (M : gz_M) (a0 : Nat) : Option (Int32 × gz_M) :=
  gz_gd M 9 a0 <|
  (gz_gI M 9 5 a0).bind fun x1 =>
  if x1 = 0 then
    gz_b2 (f_X9_refuse fu M a0 (-5 : Int32)) fun x2 M3 =>
    some (x2, M3)
  else
    (gz_gR M 9 3 a0).bind fun x4 =>
    (gz_gR M 9 4 a0).bind fun x5 =>
    (f_X8_takeFrom fu M x4 x5).bind fun M6 =>
    some ((1 : Int32), M6)

set_option maxHeartbeats 4000000 in
theorem ct_X9_back (l : Launch) (G : gz_G) (fu : Nat) (M : gz_M) (a0 : Nat) (y : Int32 × gz_M) (hF : f_X9_back fu M a0 = some y) : gz_ct l yX9_back cX9_back 1 (some .int) 4 90 0 0 G [.ref a0] M (some (.int y.1)) y.2 := by
  refine gz_ct.of (by decide) (Nat.le_of_ble_eq_true rfl) (fun C hC hX => ?_)
  unfold f_X9_back at hF
  obtain ⟨-, hF⟩ := gz_gd_some hF
  show gz_go C 0 0 M [(0, .ref a0)] 0 []
  refine gz_aload_n 0 hC 0 dX9_back_0 rfl rfl ?_
  refine gz_getI 1 hC fl_X9_41 fk_9_5 dX9_back_1 hF (fun x1 hF => ?_)
  refine gz_if_ne 4 14 hC dX9_back_4 (by decide) hF (fun hF => ?_) (fun hF => ?_)
  · skip
    refine gz_aload_n 14 hC 0 dX9_back_14 rfl rfl ?_
    refine gz_getR 15 hC fl_X9_34 fk_9_3 dX9_back_15 hF (fun x4 hF => ?_)
    refine gz_aload_n 18 hC 0 dX9_back_18 rfl rfl ?_
    refine gz_getR 19 hC fl_X9_38 fk_9_4 dX9_back_19 hF (fun x5 hF => ?_)
    refine gz_cvV (st := []) 22 hC hX [.ref x5] yl_X8_takeFrom yv_X8_takeFrom q_1045 ⟨Nat.le_of_ble_eq_true rfl, Nat.le_of_ble_eq_true rfl⟩ ⟨_, rfl⟩ (fun r h => ct_X8_takeFrom _ _ fu M x4 x5 r h) rfl rfl (Nat.le_of_ble_eq_true rfl) dX9_back_22 gz_00 hF (fun M6 hF => ?_)
    refine gz_iconst 25 hC (1 : Int32) dX9_back_25 gz_k1 ?_
    exact gz_iretM 26 hC hX dX9_back_26 hF
  · skip
    refine gz_aload_n 7 hC 0 dX9_back_7 rfl rfl ?_
    refine gz_bipush 8 hC (-5 : Int32) dX9_back_8 gz_bm5 ?_
    refine gz_cvM (st := []) 10 hC hX [.int (-5 : Int32)] Value.int yl_X9_refuse yv_X9_refuse q_417 ⟨Nat.le_of_ble_eq_true rfl, Nat.le_of_ble_eq_true rfl⟩ ⟨_, rfl⟩ (fun r h => ct_X9_refuse _ _ fu M a0 (-5 : Int32) r h) rfl rfl (Nat.le_of_ble_eq_true rfl) dX9_back_10 gz_00 hF (fun x2 M3 hF => ?_)
    exact gz_iretM 13 hC hX dX9_back_13 hF

theorem dX9_shelvesInUse_0 : decode cX9_shelvesInUse 0 = .ok (.iconst 0, 1) := by decide +kernel
theorem dX9_shelvesInUse_1 : decode cX9_shelvesInUse 1 = .ok (.istore_n 1, 1) := by decide +kernel
theorem dX9_shelvesInUse_2 : decode cX9_shelvesInUse 2 = .ok (.iconst 0, 1) := by decide +kernel
theorem dX9_shelvesInUse_3 : decode cX9_shelvesInUse 3 = .ok (.istore_n 2, 1) := by decide +kernel
theorem dX9_shelvesInUse_4 : decode cX9_shelvesInUse 4 = .ok (.iload_n 2, 1) := by decide +kernel
theorem dX9_shelvesInUse_5 : decode cX9_shelvesInUse 5 = .ok (.bipush 8, 2) := by decide +kernel
theorem dX9_shelvesInUse_7 : decode cX9_shelvesInUse 7 = .ok (.if_icmp .ge 24, 3) := by decide +kernel
theorem dX9_shelvesInUse_10 : decode cX9_shelvesInUse 10 = .ok (.aload_n 0, 1) := by decide +kernel
theorem dX9_shelvesInUse_11 : decode cX9_shelvesInUse 11 = .ok (.getfield 27, 3) := by decide +kernel
theorem dX9_shelvesInUse_14 : decode cX9_shelvesInUse 14 = .ok (.iload_n 2, 1) := by decide +kernel
theorem dX9_shelvesInUse_15 : decode cX9_shelvesInUse 15 = .ok (.aaload, 1) := by decide +kernel
theorem dX9_shelvesInUse_16 : decode cX9_shelvesInUse 16 = .ok (.invokevirtual 138, 3) := by decide +kernel
theorem dX9_shelvesInUse_19 : decode cX9_shelvesInUse 19 = .ok (.ifCond .ne 6, 3) := by decide +kernel
theorem dX9_shelvesInUse_22 : decode cX9_shelvesInUse 22 = .ok (.iinc 1 1, 3) := by decide +kernel
theorem dX9_shelvesInUse_25 : decode cX9_shelvesInUse 25 = .ok (.iinc 2 1, 3) := by decide +kernel
theorem dX9_shelvesInUse_28 : decode cX9_shelvesInUse 28 = .ok (.goto (-24), 3) := by decide +kernel
theorem dX9_shelvesInUse_31 : decode cX9_shelvesInUse 31 = .ok (.iload_n 1, 1) := by decide +kernel
theorem dX9_shelvesInUse_32 : decode cX9_shelvesInUse 32 = .ok (.ireturn, 1) := by decide +kernel
def lp_X9_shelvesInUse_4 (j31 : Int32 → Option (Int32)) (fu : Nat) (M : gz_M) (a0 : Nat) : Nat → Int32 → Int32 → Option (Int32)
  | 0, _, _ => none
  | n4 + 1, x1, x2 =>
    if (8 : Int32) ≤ x2 then
      j31 x1
    else
      (gz_gR M 9 2 a0).bind fun x3 =>
      (gz_aR M x3 x2).bind fun x4 =>
      (f_X4_isFree fu M x4).bind fun x5 =>
      gz_jn (fun (x6 : Int32) =>
      lp_X9_shelvesInUse_4 j31 fu M a0 n4 x6 (x2 + (1 : Int32))) fun j25 =>
      if x5 = 0 then
        j25 (x1 + (1 : Int32))
      else
        j25 x1
def f_X9_shelvesInUse (fu : Nat) (M : gz_M) (a0 : Nat) : Option (Int32) :=
  gz_gd M 9 a0 <|
  lp_X9_shelvesInUse_4 (fun (x7 : Int32) => some x7) fu M a0 fu (0 : Int32) (0 : Int32)
set_option maxHeartbeats 4000000 in
theorem w_X9_shelvesInUse_4 {C : gz_C} {y : Int32} {fu : Nat} {M : gz_M} {a0 : Nat} {j31 : Int32 → Option (Int32)} (hC : gz_ok C cX9_shelvesInUse RX9 3) (hX : gz_cx C 1 20 0 0 (some .int) (some (.int y)) M "shelvesInUse") (hj31 : ∀ (x7 : Int32), j31 x7 = some y → gz_go C 0 0 M [(1, .int x7)] 31 []) : ∀ (n : Nat) (x1 : Int32) (x2 : Int32), lp_X9_shelvesInUse_4 j31 fu M a0 n x1 x2 = some y → gz_go C 0 0 M [(0, .ref a0), (1, .int x1), (2, .int x2)] 4 [] := by
  intro n
  induction n with
  | zero => intro x1 x2 hF; exact nomatch (show (none : Option (Int32)) = some y from hF)
  | succ n4 ih4 =>
    intro x1 x2 hF
    rw [lp_X9_shelvesInUse_4.eq_2] at hF
    refine gz_iload_n 4 hC 2 dX9_shelvesInUse_4 rfl rfl ?_
    refine gz_bipush 5 hC (8 : Int32) dX9_shelvesInUse_5 gz_b8 ?_
    refine gz_icmp_ge 7 31 hC dX9_shelvesInUse_7 (by decide) hF (fun hF => ?_) (fun hF => ?_)
    · skip
      refine gz_sub [1] [(1, .int x1)] rfl ?_
      exact hj31 _ hF
    · skip
      refine gz_aload_n 10 hC 0 dX9_shelvesInUse_10 rfl rfl ?_
      refine gz_getR 11 hC fl_X9_27 fk_9_2 dX9_shelvesInUse_11 hF (fun x3 hF => ?_)
      refine gz_iload_n 14 hC 2 dX9_shelvesInUse_14 rfl rfl ?_
      refine gz_aald 15 hC dX9_shelvesInUse_15 hF (fun x4 hF => ?_)
      refine gz_cvP (st := []) 16 hC hX [] Value.int yl_X4_isFree yv_X4_isFree q_460 ⟨Nat.le_of_ble_eq_true rfl, Nat.le_of_ble_eq_true rfl⟩ ⟨_, rfl⟩ (fun r h => ct_X4_isFree _ _ fu M x4 r h) rfl rfl (Nat.le_of_ble_eq_true rfl) dX9_shelvesInUse_16 gz_00 hF (fun x5 hF => ?_)
      refine gz_join (fun (j : Int32 → Option (Int32)) => ∀ (x6 : Int32), j x6 = some y → gz_go C 0 0 M [(0, .ref a0), (1, .int x6), (2, .int x2)] 25 []) hF (fun x6 hF => ?_) (fun j25 hj25 hF => ?_)
      · skip
        refine gz_iinc 25 hC (x2 + (1 : Int32)) 2 [(2, .int (x2 + (1 : Int32))), (0, .ref a0), (1, .int x6)] dX9_shelvesInUse_25 rfl rfl (by decide) rfl ?_
        refine gz_goto 28 4 hC dX9_shelvesInUse_28 (by decide) ?_
        refine gz_sub [1, 2, 0] [(0, .ref a0), (1, .int x6), (2, .int (x2 + (1 : Int32)))] rfl ?_
        exact ih4 _ _ hF
      refine gz_if_ne 19 25 hC dX9_shelvesInUse_19 (by decide) hF (fun hF => ?_) (fun hF => ?_)
      · skip
        exact hj25 _ hF
      · skip
        refine gz_iinc 22 hC (x1 + (1 : Int32)) 1 [(1, .int (x1 + (1 : Int32))), (0, .ref a0), (2, .int x2)] dX9_shelvesInUse_22 rfl rfl (by decide) rfl ?_
        refine gz_sub [1, 0, 2] [(0, .ref a0), (1, .int (x1 + (1 : Int32))), (2, .int x2)] rfl ?_
        exact hj25 _ hF
set_option maxHeartbeats 4000000 in
theorem ct_X9_shelvesInUse (l : Launch) (G : gz_G) (fu : Nat) (M : gz_M) (a0 : Nat) (y : Int32) (hF : f_X9_shelvesInUse fu M a0 = some y) : gz_ct l yX9_shelvesInUse cX9_shelvesInUse 3 (some .int) 1 20 0 0 G [.ref a0] M (some (.int y)) M := by
  refine gz_ct.of (by decide) (Nat.le_of_ble_eq_true rfl) (fun C hC hX => ?_)
  unfold f_X9_shelvesInUse at hF
  obtain ⟨-, hF⟩ := gz_gd_some hF
  show gz_go C 0 0 M [(0, .ref a0)] 0 []
  refine gz_iconst 0 hC (0 : Int32) dX9_shelvesInUse_0 gz_k0 ?_
  refine gz_istore_n 1 hC [(1, .int (0 : Int32)), (0, .ref a0)] dX9_shelvesInUse_1 rfl (by decide) rfl ?_
  refine gz_iconst 2 hC (0 : Int32) dX9_shelvesInUse_2 gz_k0 ?_
  refine gz_istore_n 3 hC [(2, .int (0 : Int32)), (1, .int (0 : Int32)), (0, .ref a0)] dX9_shelvesInUse_3 rfl (by decide) rfl ?_
  refine gz_sub [2, 1, 0] [(0, .ref a0), (1, .int (0 : Int32)), (2, .int (0 : Int32))] rfl ?_
  refine w_X9_shelvesInUse_4 hC hX ?_ _ _ _ hF
  intro x7 hF
  refine gz_iload_n 31 hC 0 dX9_shelvesInUse_31 rfl rfl ?_
  exact gz_iretP 32 hC hX dX9_shelvesInUse_32 hF

theorem dX9_status_0 : decode cX9_status 0 = .ok (.iload_n 1, 1) := by decide +kernel
theorem dX9_status_1 : decode cX9_status 1 = .ok (.bipush 12, 2) := by decide +kernel
theorem dX9_status_3 : decode cX9_status 3 = .ok (.bipush 16, 2) := by decide +kernel
theorem dX9_status_5 : decode cX9_status 5 = .ok (.invokestatic 75, 3) := by decide +kernel
theorem dX9_status_8 : decode cX9_status 8 = .ok (.ifCond .eq 13, 3) := by decide +kernel
theorem dX9_status_11 : decode cX9_status 11 = .ok (.aload_n 0, 1) := by decide +kernel
theorem dX9_status_12 : decode cX9_status 12 = .ok (.getfield 45, 3) := by decide +kernel
theorem dX9_status_15 : decode cX9_status 15 = .ok (.iload_n 1, 1) := by decide +kernel
theorem dX9_status_16 : decode cX9_status 16 = .ok (.bipush 12, 2) := by decide +kernel
theorem dX9_status_18 : decode cX9_status 18 = .ok (.isub, 1) := by decide +kernel
theorem dX9_status_19 : decode cX9_status 19 = .ok (.iaload, 1) := by decide +kernel
theorem dX9_status_20 : decode cX9_status 20 = .ok (.ireturn, 1) := by decide +kernel
theorem dX9_status_21 : decode cX9_status 21 = .ok (.iload_n 1, 1) := by decide +kernel
theorem dX9_status_22 : decode cX9_status 22 = .ok (.tableswitch 47 0 2 #[26, 34, 42], 26) := by decide +kernel
theorem dX9_status_48 : decode cX9_status 48 = .ok (.aload_n 0, 1) := by decide +kernel
theorem dX9_status_49 : decode cX9_status 49 = .ok (.getfield 34, 3) := by decide +kernel
theorem dX9_status_52 : decode cX9_status 52 = .ok (.getfield 172, 3) := by decide +kernel
theorem dX9_status_55 : decode cX9_status 55 = .ok (.ireturn, 1) := by decide +kernel
theorem dX9_status_56 : decode cX9_status 56 = .ok (.aload_n 0, 1) := by decide +kernel
theorem dX9_status_57 : decode cX9_status 57 = .ok (.getfield 12, 3) := by decide +kernel
theorem dX9_status_60 : decode cX9_status 60 = .ok (.getfield 167, 3) := by decide +kernel
theorem dX9_status_63 : decode cX9_status 63 = .ok (.ireturn, 1) := by decide +kernel
theorem dX9_status_64 : decode cX9_status 64 = .ok (.aload_n 0, 1) := by decide +kernel
theorem dX9_status_65 : decode cX9_status 65 = .ok (.invokevirtual 357, 3) := by decide +kernel
theorem dX9_status_68 : decode cX9_status 68 = .ok (.ireturn, 1) := by decide +kernel
theorem dX9_status_69 : decode cX9_status 69 = .ok (.iconst (-1), 1) := by decide +kernel
theorem dX9_status_70 : decode cX9_status 70 = .ok (.ireturn, 1) := by decide +kernel

def f_X9_status (fu : Nat) (M : gz_M) (a0 : Nat) (a1 : Int32) : Option (Int32) :=
  gz_gd M 9 a0 <|
  (f_X9_isWithin fu M a1 (12 : Int32) (16 : Int32)).bind fun x1 =>
  if x1 = 0 then
    if a1 = (0 : Int32) then (gz_gR M 9 3 a0).bind fun x7 =>
      (gz_gI M 8 2 x7).bind fun x8 =>
      some x8 else if a1 = (1 : Int32) then (gz_gR M 9 0 a0).bind fun x5 =>
      (gz_gI M 6 1 x5).bind fun x6 =>
      some x6 else if a1 = (2 : Int32) then (f_X9_shelvesInUse fu M a0).bind fun x4 =>
      some x4 else some (-1 : Int32)
  else
    (gz_gR M 9 6 a0).bind fun x2 =>
    (gz_aI M x2 (a1 - (12 : Int32))).bind fun x3 =>
    some x3

set_option maxHeartbeats 4000000 in
theorem ct_X9_status (l : Launch) (G : gz_G) (fu : Nat) (M : gz_M) (a0 : Nat) (a1 : Int32) (y : Int32) (hF : f_X9_status fu M a0 a1 = some y) : gz_ct l yX9_status cX9_status 2 (some .int) 2 42 0 0 G [.ref a0, .int a1] M (some (.int y)) M := by
  refine gz_ct.of (by decide) (Nat.le_of_ble_eq_true rfl) (fun C hC hX => ?_)
  unfold f_X9_status at hF
  obtain ⟨-, hF⟩ := gz_gd_some hF
  show gz_go C 0 0 M [(0, .ref a0), (1, .int a1)] 0 []
  refine gz_iload_n 0 hC 1 dX9_status_0 rfl rfl ?_
  refine gz_bipush 1 hC (12 : Int32) dX9_status_1 gz_b12 ?_
  refine gz_bipush 3 hC (16 : Int32) dX9_status_3 gz_b16 ?_
  refine gz_csP (st := []) 5 hC hX [.int a1, .int (12 : Int32), .int (16 : Int32)] Value.int yl_X9_isWithin yv_X9_isWithin q_414 ⟨Nat.le_of_ble_eq_true rfl, Nat.le_of_ble_eq_true rfl⟩ (fun r h => ct_X9_isWithin _ _ fu M a1 (12 : Int32) (16 : Int32) r h) rfl rfl (Nat.le_of_ble_eq_true rfl) dX9_status_5 gz_00 hF (fun x1 hF => ?_)
  refine gz_if_eq 8 21 hC dX9_status_8 (by decide) hF (fun hF => ?_) (fun hF => ?_)
  · skip
    refine gz_iload_n 21 hC 1 dX9_status_21 rfl rfl ?_
    refine gz_cse hF (fun e0 hF => ?_) (fun e0 hF => ?_)
    · skip
      refine gz_tin 22 48 hC (off := 26) dX9_status_22 e0 (by decide) (by decide) (by decide) ?_
      refine gz_aload_n 48 hC 0 dX9_status_48 rfl rfl ?_
      refine gz_getR 49 hC fl_X9_34 fk_9_3 dX9_status_49 hF (fun x7 hF => ?_)
      refine gz_getI 52 hC fl_X9_172 fk_8_2 dX9_status_52 hF (fun x8 hF => ?_)
      exact gz_iretP 55 hC hX dX9_status_55 hF
    refine gz_cse hF (fun e1 hF => ?_) (fun e1 hF => ?_)
    · skip
      refine gz_tin 22 56 hC (off := 34) dX9_status_22 e1 (by decide) (by decide) (by decide) ?_
      refine gz_aload_n 56 hC 0 dX9_status_56 rfl rfl ?_
      refine gz_getR 57 hC fl_X9_12 fk_9_0 dX9_status_57 hF (fun x5 hF => ?_)
      refine gz_getI 60 hC fl_X9_167 fk_6_1 dX9_status_60 hF (fun x6 hF => ?_)
      exact gz_iretP 63 hC hX dX9_status_63 hF
    refine gz_cse hF (fun e2 hF => ?_) (fun e2 hF => ?_)
    · skip
      refine gz_tin 22 64 hC (off := 42) dX9_status_22 e2 (by decide) (by decide) (by decide) ?_
      refine gz_aload_n 64 hC 0 dX9_status_64 rfl rfl ?_
      refine gz_cvP (st := []) 65 hC hX [] Value.int yl_X9_shelvesInUse yv_X9_shelvesInUse q_1062 ⟨Nat.le_of_ble_eq_true rfl, Nat.le_of_ble_eq_true rfl⟩ ⟨_, rfl⟩ (fun r h => ct_X9_shelvesInUse _ _ fu M a0 r h) rfl rfl (Nat.le_of_ble_eq_true rfl) dX9_status_65 gz_00 hF (fun x4 hF => ?_)
      exact gz_iretP 68 hC hX dX9_status_68 hF
    refine gz_tout 22 69 hC dX9_status_22 (by have h0 := lv_neT (a := 0) e0 (by decide); have h1 := lv_neT (a := 1) e1 (by decide); have h2 := lv_neT (a := 2) e2 (by decide); omega) (by decide) ?_
    refine gz_iconst 69 hC (-1 : Int32) dX9_status_69 gz_km1 ?_
    exact gz_iretP 70 hC hX dX9_status_70 hF
  · skip
    refine gz_aload_n 11 hC 0 dX9_status_11 rfl rfl ?_
    refine gz_getR 12 hC fl_X9_45 fk_9_6 dX9_status_12 hF (fun x2 hF => ?_)
    refine gz_iload_n 15 hC 1 dX9_status_15 rfl rfl ?_
    refine gz_bipush 16 hC (12 : Int32) dX9_status_16 gz_b12 ?_
    refine gz_isub 18 hC dX9_status_18 ?_
    refine gz_iald 19 hC dX9_status_19 hF (fun x3 hF => ?_)
    exact gz_iretP 20 hC hX dX9_status_20 hF

theorem dX10_refuse_0 : decode cX10_refuse 0 = .ok (.aload_n 0, 1) := by decide +kernel
theorem dX10_refuse_1 : decode cX10_refuse 1 = .ok (.getfield 40, 3) := by decide +kernel
theorem dX10_refuse_4 : decode cX10_refuse 4 = .ok (.iload_n 1, 1) := by decide +kernel
theorem dX10_refuse_5 : decode cX10_refuse 5 = .ok (.ineg, 1) := by decide +kernel
theorem dX10_refuse_6 : decode cX10_refuse 6 = .ok (.dup2, 1) := by decide +kernel
theorem dX10_refuse_7 : decode cX10_refuse 7 = .ok (.iaload, 1) := by decide +kernel
theorem dX10_refuse_8 : decode cX10_refuse 8 = .ok (.iconst 1, 1) := by decide +kernel
theorem dX10_refuse_9 : decode cX10_refuse 9 = .ok (.iadd, 1) := by decide +kernel
theorem dX10_refuse_10 : decode cX10_refuse 10 = .ok (.iastore, 1) := by decide +kernel
theorem dX10_refuse_11 : decode cX10_refuse 11 = .ok (.iload_n 1, 1) := by decide +kernel
theorem dX10_refuse_12 : decode cX10_refuse 12 = .ok (.ireturn, 1) := by decide +kernel

def f_X10_refuse (fu : Nat) (M : gz_M) (a0 : Nat) (a1 : Int32) : Option (Int32 × gz_M) :=
  gz_gd M 10 a0 <|
  (gz_gR M 10 10 a0).bind fun x1 =>
  (gz_aI M x1 (0 - a1)).bind fun x2 =>
  (gz_tI M x1 (0 - a1) (x2 + (1 : Int32))).bind fun M3 =>
  some (a1, M3)

set_option maxHeartbeats 4000000 in
theorem ct_X10_refuse (l : Launch) (G : gz_G) (fu : Nat) (M : gz_M) (a0 : Nat) (a1 : Int32) (y : Int32 × gz_M) (hF : f_X10_refuse fu M a0 a1 = some y) : gz_ct l yX10_refuse cX10_refuse 2 (some .int) 0 0 0 0 G [.ref a0, .int a1] M (some (.int y.1)) y.2 := by
  refine gz_ct.of (by decide) (Nat.le_of_ble_eq_true rfl) (fun C hC hX => ?_)
  unfold f_X10_refuse at hF
  obtain ⟨-, hF⟩ := gz_gd_some hF
  show gz_go C 0 0 M [(0, .ref a0), (1, .int a1)] 0 []
  refine gz_aload_n 0 hC 0 dX10_refuse_0 rfl rfl ?_
  refine gz_getR 1 hC fl_X10_40 fk_10_10 dX10_refuse_1 hF (fun x1 hF => ?_)
  refine gz_iload_n 4 hC 1 dX10_refuse_4 rfl rfl ?_
  refine gz_ineg 5 hC dX10_refuse_5 ?_
  refine gz_dup2 6 hC dX10_refuse_6 rfl rfl ?_
  refine gz_iald 7 hC dX10_refuse_7 hF (fun x2 hF => ?_)
  refine gz_iconst 8 hC (1 : Int32) dX10_refuse_8 gz_k1 ?_
  refine gz_iadd 9 hC dX10_refuse_9 ?_
  refine gz_iast 10 hC dX10_refuse_10 hF (fun M3 hF => ?_)
  refine gz_iload_n 11 hC 1 dX10_refuse_11 rfl rfl ?_
  exact gz_iretM 12 hC hX dX10_refuse_12 hF

theorem dX10_in_0 : decode cX10_in 0 = .ok (.lload_n 0, 1) := by decide +kernel
theorem dX10_in_1 : decode cX10_in 1 = .ok (.lload_n 2, 1) := by decide +kernel
theorem dX10_in_2 : decode cX10_in 2 = .ok (.lcmp, 1) := by decide +kernel
theorem dX10_in_3 : decode cX10_in 3 = .ok (.ifCond .lt 14, 3) := by decide +kernel
theorem dX10_in_6 : decode cX10_in 6 = .ok (.lload_n 0, 1) := by decide +kernel
theorem dX10_in_7 : decode cX10_in 7 = .ok (.lload 4, 2) := by decide +kernel
theorem dX10_in_9 : decode cX10_in 9 = .ok (.lcmp, 1) := by decide +kernel
theorem dX10_in_10 : decode cX10_in 10 = .ok (.ifCond .gt 7, 3) := by decide +kernel
theorem dX10_in_13 : decode cX10_in 13 = .ok (.iconst 1, 1) := by decide +kernel
theorem dX10_in_14 : decode cX10_in 14 = .ok (.goto 4, 3) := by decide +kernel
theorem dX10_in_17 : decode cX10_in 17 = .ok (.iconst 0, 1) := by decide +kernel
theorem dX10_in_18 : decode cX10_in 18 = .ok (.ireturn, 1) := by decide +kernel

def f_X10_in (fu : Nat) (M : gz_M) (a0 : Int64) (a2 : Int64) (a4 : Int64) : Option (Int32) :=
  gz_jn (fun (x1 : Int32) =>
  gz_z x1 (some x1)) fun j18 =>
  gz_jn (j18 (0 : Int32)) fun j17 =>
  if (lg_cmp a0 a2) < 0 then
    j17
  else
    if 0 < (lg_cmp a0 a4) then
      j17
    else
      j18 (1 : Int32)

set_option maxHeartbeats 4000000 in
theorem ct_X10_in (l : Launch) (G : gz_G) (fu : Nat) (M : gz_M) (a0 : Int64) (a2 : Int64) (a4 : Int64) (y : Int32) (hF : f_X10_in fu M a0 a2 a4 = some y) : gz_ct l yX10_in cX10_in 6 (some .boolean) 0 0 0 0 G [.long a0, .long a2, .long a4] M (some (.int y)) M := by
  refine gz_ct.of (by decide) (Nat.le_of_ble_eq_true rfl) (fun C hC hX => ?_)
  unfold f_X10_in at hF
  show gz_go C 0 0 M [(0, .long a0), (2, .long a2), (4, .long a4)] 0 []
  refine gz_lload_n 0 hC 0 dX10_in_0 rfl rfl ?_
  refine gz_lload_n 1 hC 1 dX10_in_1 rfl rfl ?_
  refine gz_lcmp 2 hC dX10_in_2 ?_
  refine gz_join (fun (j : Int32 → Option (Int32)) => ∀ (x1 : Int32), j x1 = some y → gz_go C 0 0 M [] 18 [.int x1]) hF (fun x1 hF => ?_) (fun j18 hj18 hF => ?_)
  · skip
    exact gz_zretP 18 hC hX dX10_in_18 hF
  refine gz_join (fun (j : Option (Int32)) => j = some y → gz_go C 0 0 M [] 17 []) hF (fun hF => ?_) (fun j17 hj17 hF => ?_)
  · skip
    refine gz_iconst 17 hC (0 : Int32) dX10_in_17 gz_k0 ?_
    exact hj18 _ hF
  refine gz_if_lt 3 17 hC dX10_in_3 (by decide) hF (fun hF => ?_) (fun hF => ?_)
  · skip
    refine gz_sub [] [] rfl ?_
    exact hj17 hF
  · skip
    refine gz_lload_n 6 hC 0 dX10_in_6 rfl rfl ?_
    refine gz_lload 7 hC 2 dX10_in_7 rfl ?_
    refine gz_lcmp 9 hC dX10_in_9 ?_
    refine gz_if_gt 10 17 hC dX10_in_10 (by decide) hF (fun hF => ?_) (fun hF => ?_)
    · skip
      refine gz_sub [] [] rfl ?_
      exact hj17 hF
    · skip
      refine gz_iconst 13 hC (1 : Int32) dX10_in_13 gz_k1 ?_
      refine gz_goto 14 18 hC dX10_in_14 (by decide) ?_
      refine gz_sub [] [] rfl ?_
      exact hj18 _ hF

theorem dX10_isValley_0 : decode cX10_isValley 0 = .ok (.iload_n 1, 1) := by decide +kernel
theorem dX10_isValley_1 : decode cX10_isValley 1 = .ok (.i2l, 1) := by decide +kernel
theorem dX10_isValley_2 : decode cX10_isValley 2 = .ok (.lconst 0, 1) := by decide +kernel
theorem dX10_isValley_3 : decode cX10_isValley 3 = .ok (.aload_n 0, 1) := by decide +kernel
theorem dX10_isValley_4 : decode cX10_isValley 4 = .ok (.getfield 70, 3) := by decide +kernel
theorem dX10_isValley_7 : decode cX10_isValley 7 = .ok (.iconst 1, 1) := by decide +kernel
theorem dX10_isValley_8 : decode cX10_isValley 8 = .ok (.isub, 1) := by decide +kernel
theorem dX10_isValley_9 : decode cX10_isValley 9 = .ok (.i2l, 1) := by decide +kernel
theorem dX10_isValley_10 : decode cX10_isValley 10 = .ok (.invokestatic 73, 3) := by decide +kernel
theorem dX10_isValley_13 : decode cX10_isValley 13 = .ok (.ireturn, 1) := by decide +kernel

def f_X10_isValley (fu : Nat) (M : gz_M) (a0 : Nat) (a1 : Int32) : Option (Int32) :=
  gz_gd M 10 a0 <|
  (gz_gI M 10 11 a0).bind fun x1 =>
  (f_X10_in fu M (a1).toInt64 (0 : Int64) ((x1 - (1 : Int32))).toInt64).bind fun x2 =>
  gz_z x2 (some x2)

set_option maxHeartbeats 4000000 in
theorem ct_X10_isValley (l : Launch) (G : gz_G) (fu : Nat) (M : gz_M) (a0 : Nat) (a1 : Int32) (y : Int32) (hF : f_X10_isValley fu M a0 a1 = some y) : gz_ct l yX10_isValley cX10_isValley 2 (some .boolean) 1 25 0 0 G [.ref a0, .int a1] M (some (.int y)) M := by
  refine gz_ct.of (by decide) (Nat.le_of_ble_eq_true rfl) (fun C hC hX => ?_)
  unfold f_X10_isValley at hF
  obtain ⟨-, hF⟩ := gz_gd_some hF
  show gz_go C 0 0 M [(0, .ref a0), (1, .int a1)] 0 []
  refine gz_iload_n 0 hC 1 dX10_isValley_0 rfl rfl ?_
  refine gz_i2l 1 hC dX10_isValley_1 ?_
  refine gz_lconst 2 hC (0 : Int64) dX10_isValley_2 gz_l0 ?_
  refine gz_aload_n 3 hC 0 dX10_isValley_3 rfl rfl ?_
  refine gz_getI 4 hC fl_X10_70 fk_10_11 dX10_isValley_4 hF (fun x1 hF => ?_)
  refine gz_iconst 7 hC (1 : Int32) dX10_isValley_7 gz_k1 ?_
  refine gz_isub 8 hC dX10_isValley_8 ?_
  refine gz_i2l 9 hC dX10_isValley_9 ?_
  refine gz_csP (st := []) 10 hC hX [.long (a1).toInt64, .long (0 : Int64), .long ((x1 - (1 : Int32))).toInt64] Value.int yl_X10_in yv_X10_in q_1170 ⟨Nat.le_of_ble_eq_true rfl, Nat.le_of_ble_eq_true rfl⟩ (fun r h => ct_X10_in _ _ fu M (a1).toInt64 (0 : Int64) ((x1 - (1 : Int32))).toInt64 r h) rfl rfl (Nat.le_of_ble_eq_true rfl) dX10_isValley_10 gz_00 hF (fun x2 hF => ?_)
  exact gz_zretP 13 hC hX dX10_isValley_13 hF

theorem dX10_feetOf_0 : decode cX10_feetOf 0 = .ok (.aload_n 0, 1) := by decide +kernel
theorem dX10_feetOf_1 : decode cX10_feetOf 1 = .ok (.getfield 45, 3) := by decide +kernel
theorem dX10_feetOf_4 : decode cX10_feetOf 4 = .ok (.iload_n 1, 1) := by decide +kernel
theorem dX10_feetOf_5 : decode cX10_feetOf 5 = .ok (.aaload, 1) := by decide +kernel
theorem dX10_feetOf_6 : decode cX10_feetOf 6 = .ok (.iconst 0, 1) := by decide +kernel
theorem dX10_feetOf_7 : decode cX10_feetOf 7 = .ok (.iaload, 1) := by decide +kernel
theorem dX10_feetOf_8 : decode cX10_feetOf 8 = .ok (.ireturn, 1) := by decide +kernel

def f_X10_feetOf (fu : Nat) (M : gz_M) (a0 : Nat) (a1 : Int32) : Option (Int32) :=
  gz_gd M 10 a0 <|
  (gz_gR M 10 12 a0).bind fun x1 =>
  (gz_aR M x1 a1).bind fun x2 =>
  (gz_aI M x2 (0 : Int32)).bind fun x3 =>
  some x3

set_option maxHeartbeats 4000000 in
theorem ct_X10_feetOf (l : Launch) (G : gz_G) (fu : Nat) (M : gz_M) (a0 : Nat) (a1 : Int32) (y : Int32) (hF : f_X10_feetOf fu M a0 a1 = some y) : gz_ct l yX10_feetOf cX10_feetOf 2 (some .int) 0 0 0 0 G [.ref a0, .int a1] M (some (.int y)) M := by
  refine gz_ct.of (by decide) (Nat.le_of_ble_eq_true rfl) (fun C hC hX => ?_)
  unfold f_X10_feetOf at hF
  obtain ⟨-, hF⟩ := gz_gd_some hF
  show gz_go C 0 0 M [(0, .ref a0), (1, .int a1)] 0 []
  refine gz_aload_n 0 hC 0 dX10_feetOf_0 rfl rfl ?_
  refine gz_getR 1 hC fl_X10_45 fk_10_12 dX10_feetOf_1 hF (fun x1 hF => ?_)
  refine gz_iload_n 4 hC 1 dX10_feetOf_4 rfl rfl ?_
  refine gz_aald 5 hC dX10_feetOf_5 hF (fun x2 hF => ?_)
  refine gz_iconst 6 hC (0 : Int32) dX10_feetOf_6 gz_k0 ?_
  refine gz_iald 7 hC dX10_feetOf_7 hF (fun x3 hF => ?_)
  exact gz_iretP 8 hC hX dX10_feetOf_8 hF

theorem dX10_lastsOf_0 : decode cX10_lastsOf 0 = .ok (.aload_n 0, 1) := by decide +kernel
theorem dX10_lastsOf_1 : decode cX10_lastsOf 1 = .ok (.getfield 45, 3) := by decide +kernel
theorem dX10_lastsOf_4 : decode cX10_lastsOf 4 = .ok (.iload_n 1, 1) := by decide +kernel
theorem dX10_lastsOf_5 : decode cX10_lastsOf 5 = .ok (.aaload, 1) := by decide +kernel
theorem dX10_lastsOf_6 : decode cX10_lastsOf 6 = .ok (.iconst 1, 1) := by decide +kernel
theorem dX10_lastsOf_7 : decode cX10_lastsOf 7 = .ok (.iaload, 1) := by decide +kernel
theorem dX10_lastsOf_8 : decode cX10_lastsOf 8 = .ok (.ireturn, 1) := by decide +kernel

def f_X10_lastsOf (fu : Nat) (M : gz_M) (a0 : Nat) (a1 : Int32) : Option (Int32) :=
  gz_gd M 10 a0 <|
  (gz_gR M 10 12 a0).bind fun x1 =>
  (gz_aR M x1 a1).bind fun x2 =>
  (gz_aI M x2 (1 : Int32)).bind fun x3 =>
  some x3

set_option maxHeartbeats 4000000 in
theorem ct_X10_lastsOf (l : Launch) (G : gz_G) (fu : Nat) (M : gz_M) (a0 : Nat) (a1 : Int32) (y : Int32) (hF : f_X10_lastsOf fu M a0 a1 = some y) : gz_ct l yX10_lastsOf cX10_lastsOf 2 (some .int) 0 0 0 0 G [.ref a0, .int a1] M (some (.int y)) M := by
  refine gz_ct.of (by decide) (Nat.le_of_ble_eq_true rfl) (fun C hC hX => ?_)
  unfold f_X10_lastsOf at hF
  obtain ⟨-, hF⟩ := gz_gd_some hF
  show gz_go C 0 0 M [(0, .ref a0), (1, .int a1)] 0 []
  refine gz_aload_n 0 hC 0 dX10_lastsOf_0 rfl rfl ?_
  refine gz_getR 1 hC fl_X10_45 fk_10_12 dX10_lastsOf_1 hF (fun x1 hF => ?_)
  refine gz_iload_n 4 hC 1 dX10_lastsOf_4 rfl rfl ?_
  refine gz_aald 5 hC dX10_lastsOf_5 hF (fun x2 hF => ?_)
  refine gz_iconst 6 hC (1 : Int32) dX10_lastsOf_6 gz_k1 ?_
  refine gz_iald 7 hC dX10_lastsOf_7 hF (fun x3 hF => ?_)
  exact gz_iretP 8 hC hX dX10_lastsOf_8 hF

theorem dX10_isFoot_0 : decode cX10_isFoot 0 = .ok (.aload_n 0, 1) := by decide +kernel
theorem dX10_isFoot_1 : decode cX10_isFoot 1 = .ok (.iload_n 1, 1) := by decide +kernel
theorem dX10_isFoot_2 : decode cX10_isFoot 2 = .ok (.invokevirtual 77, 3) := by decide +kernel
theorem dX10_isFoot_5 : decode cX10_isFoot 5 = .ok (.ifCond .eq 24, 3) := by decide +kernel
theorem dX10_isFoot_8 : decode cX10_isFoot 8 = .ok (.iload_n 2, 1) := by decide +kernel
theorem dX10_isFoot_9 : decode cX10_isFoot 9 = .ok (.i2l, 1) := by decide +kernel
theorem dX10_isFoot_10 : decode cX10_isFoot 10 = .ok (.lconst 0, 1) := by decide +kernel
theorem dX10_isFoot_11 : decode cX10_isFoot 11 = .ok (.aload_n 0, 1) := by decide +kernel
theorem dX10_isFoot_12 : decode cX10_isFoot 12 = .ok (.iload_n 1, 1) := by decide +kernel
theorem dX10_isFoot_13 : decode cX10_isFoot 13 = .ok (.invokevirtual 81, 3) := by decide +kernel
theorem dX10_isFoot_16 : decode cX10_isFoot 16 = .ok (.iconst 1, 1) := by decide +kernel
theorem dX10_isFoot_17 : decode cX10_isFoot 17 = .ok (.isub, 1) := by decide +kernel
theorem dX10_isFoot_18 : decode cX10_isFoot 18 = .ok (.i2l, 1) := by decide +kernel
theorem dX10_isFoot_19 : decode cX10_isFoot 19 = .ok (.invokestatic 73, 3) := by decide +kernel
theorem dX10_isFoot_22 : decode cX10_isFoot 22 = .ok (.ifCond .eq 7, 3) := by decide +kernel
theorem dX10_isFoot_25 : decode cX10_isFoot 25 = .ok (.iconst 1, 1) := by decide +kernel
theorem dX10_isFoot_26 : decode cX10_isFoot 26 = .ok (.goto 4, 3) := by decide +kernel
theorem dX10_isFoot_29 : decode cX10_isFoot 29 = .ok (.iconst 0, 1) := by decide +kernel
theorem dX10_isFoot_30 : decode cX10_isFoot 30 = .ok (.ireturn, 1) := by decide +kernel

def f_X10_isFoot (fu : Nat) (M : gz_M) (a0 : Nat) (a1 : Int32) (a2 : Int32) : Option (Int32) :=
  gz_gd M 10 a0 <|
  (f_X10_isValley fu M a0 a1).bind fun x1 =>
  gz_jn (fun (x4 : Int32) =>
  gz_z x4 (some x4)) fun j30 =>
  gz_jn (j30 (0 : Int32)) fun j29 =>
  if x1 = 0 then
    j29
  else
    (f_X10_feetOf fu M a0 a1).bind fun x2 =>
    (f_X10_in fu M (a2).toInt64 (0 : Int64) ((x2 - (1 : Int32))).toInt64).bind fun x3 =>
    if x3 = 0 then
      j29
    else
      j30 (1 : Int32)

set_option maxHeartbeats 4000000 in
theorem ct_X10_isFoot (l : Launch) (G : gz_G) (fu : Nat) (M : gz_M) (a0 : Nat) (a1 : Int32) (a2 : Int32) (y : Int32) (hF : f_X10_isFoot fu M a0 a1 a2 = some y) : gz_ct l yX10_isFoot cX10_isFoot 3 (some .boolean) 2 46 0 0 G [.ref a0, .int a1, .int a2] M (some (.int y)) M := by
  refine gz_ct.of (by decide) (Nat.le_of_ble_eq_true rfl) (fun C hC hX => ?_)
  unfold f_X10_isFoot at hF
  obtain ⟨-, hF⟩ := gz_gd_some hF
  show gz_go C 0 0 M [(0, .ref a0), (1, .int a1), (2, .int a2)] 0 []
  refine gz_aload_n 0 hC 0 dX10_isFoot_0 rfl rfl ?_
  refine gz_iload_n 1 hC 1 dX10_isFoot_1 rfl rfl ?_
  refine gz_cvP (st := []) 2 hC hX [.int a1] Value.int yl_X10_isValley yv_X10_isValley q_1217 ⟨Nat.le_of_ble_eq_true rfl, Nat.le_of_ble_eq_true rfl⟩ ⟨_, rfl⟩ (fun r h => ct_X10_isValley _ _ fu M a0 a1 r h) rfl rfl (Nat.le_of_ble_eq_true rfl) dX10_isFoot_2 gz_00 hF (fun x1 hF => ?_)
  refine gz_join (fun (j : Int32 → Option (Int32)) => ∀ (x4 : Int32), j x4 = some y → gz_go C 0 0 M [] 30 [.int x4]) hF (fun x4 hF => ?_) (fun j30 hj30 hF => ?_)
  · skip
    exact gz_zretP 30 hC hX dX10_isFoot_30 hF
  refine gz_join (fun (j : Option (Int32)) => j = some y → gz_go C 0 0 M [] 29 []) hF (fun hF => ?_) (fun j29 hj29 hF => ?_)
  · skip
    refine gz_iconst 29 hC (0 : Int32) dX10_isFoot_29 gz_k0 ?_
    exact hj30 _ hF
  refine gz_if_eq 5 29 hC dX10_isFoot_5 (by decide) hF (fun hF => ?_) (fun hF => ?_)
  · skip
    refine gz_sub [] [] rfl ?_
    exact hj29 hF
  · skip
    refine gz_iload_n 8 hC 2 dX10_isFoot_8 rfl rfl ?_
    refine gz_i2l 9 hC dX10_isFoot_9 ?_
    refine gz_lconst 10 hC (0 : Int64) dX10_isFoot_10 gz_l0 ?_
    refine gz_aload_n 11 hC 0 dX10_isFoot_11 rfl rfl ?_
    refine gz_iload_n 12 hC 1 dX10_isFoot_12 rfl rfl ?_
    refine gz_cvP (st := [.long (0 : Int64), .long (a2).toInt64]) 13 hC hX [.int a1] Value.int yl_X10_feetOf yv_X10_feetOf q_1221 ⟨Nat.le_of_ble_eq_true rfl, Nat.le_of_ble_eq_true rfl⟩ ⟨_, rfl⟩ (fun r h => ct_X10_feetOf _ _ fu M a0 a1 r h) rfl rfl (Nat.le_of_ble_eq_true rfl) dX10_isFoot_13 gz_00 hF (fun x2 hF => ?_)
    refine gz_iconst 16 hC (1 : Int32) dX10_isFoot_16 gz_k1 ?_
    refine gz_isub 17 hC dX10_isFoot_17 ?_
    refine gz_i2l 18 hC dX10_isFoot_18 ?_
    refine gz_csP (st := []) 19 hC hX [.long (a2).toInt64, .long (0 : Int64), .long ((x2 - (1 : Int32))).toInt64] Value.int yl_X10_in yv_X10_in q_1170 ⟨Nat.le_of_ble_eq_true rfl, Nat.le_of_ble_eq_true rfl⟩ (fun r h => ct_X10_in _ _ fu M (a2).toInt64 (0 : Int64) ((x2 - (1 : Int32))).toInt64 r h) rfl rfl (Nat.le_of_ble_eq_true rfl) dX10_isFoot_19 gz_00 hF (fun x3 hF => ?_)
    refine gz_if_eq 22 29 hC dX10_isFoot_22 (by decide) hF (fun hF => ?_) (fun hF => ?_)
    · skip
      refine gz_sub [] [] rfl ?_
      exact hj29 hF
    · skip
      refine gz_iconst 25 hC (1 : Int32) dX10_isFoot_25 gz_k1 ?_
      refine gz_goto 26 30 hC dX10_isFoot_26 (by decide) ?_
      refine gz_sub [] [] rfl ?_
      exact hj30 _ hF

theorem dX10_isLast_0 : decode cX10_isLast 0 = .ok (.aload_n 0, 1) := by decide +kernel
theorem dX10_isLast_1 : decode cX10_isLast 1 = .ok (.iload_n 1, 1) := by decide +kernel
theorem dX10_isLast_2 : decode cX10_isLast 2 = .ok (.invokevirtual 77, 3) := by decide +kernel
theorem dX10_isLast_5 : decode cX10_isLast 5 = .ok (.ifCond .eq 24, 3) := by decide +kernel
theorem dX10_isLast_8 : decode cX10_isLast 8 = .ok (.iload_n 2, 1) := by decide +kernel
theorem dX10_isLast_9 : decode cX10_isLast 9 = .ok (.i2l, 1) := by decide +kernel
theorem dX10_isLast_10 : decode cX10_isLast 10 = .ok (.lconst 0, 1) := by decide +kernel
theorem dX10_isLast_11 : decode cX10_isLast 11 = .ok (.aload_n 0, 1) := by decide +kernel
theorem dX10_isLast_12 : decode cX10_isLast 12 = .ok (.iload_n 1, 1) := by decide +kernel
theorem dX10_isLast_13 : decode cX10_isLast 13 = .ok (.invokevirtual 85, 3) := by decide +kernel
theorem dX10_isLast_16 : decode cX10_isLast 16 = .ok (.iconst 1, 1) := by decide +kernel
theorem dX10_isLast_17 : decode cX10_isLast 17 = .ok (.isub, 1) := by decide +kernel
theorem dX10_isLast_18 : decode cX10_isLast 18 = .ok (.i2l, 1) := by decide +kernel
theorem dX10_isLast_19 : decode cX10_isLast 19 = .ok (.invokestatic 73, 3) := by decide +kernel
theorem dX10_isLast_22 : decode cX10_isLast 22 = .ok (.ifCond .eq 7, 3) := by decide +kernel
theorem dX10_isLast_25 : decode cX10_isLast 25 = .ok (.iconst 1, 1) := by decide +kernel
theorem dX10_isLast_26 : decode cX10_isLast 26 = .ok (.goto 4, 3) := by decide +kernel
theorem dX10_isLast_29 : decode cX10_isLast 29 = .ok (.iconst 0, 1) := by decide +kernel
theorem dX10_isLast_30 : decode cX10_isLast 30 = .ok (.ireturn, 1) := by decide +kernel

def f_X10_isLast (fu : Nat) (M : gz_M) (a0 : Nat) (a1 : Int32) (a2 : Int32) : Option (Int32) :=
  gz_gd M 10 a0 <|
  (f_X10_isValley fu M a0 a1).bind fun x1 =>
  gz_jn (fun (x4 : Int32) =>
  gz_z x4 (some x4)) fun j30 =>
  gz_jn (j30 (0 : Int32)) fun j29 =>
  if x1 = 0 then
    j29
  else
    (f_X10_lastsOf fu M a0 a1).bind fun x2 =>
    (f_X10_in fu M (a2).toInt64 (0 : Int64) ((x2 - (1 : Int32))).toInt64).bind fun x3 =>
    if x3 = 0 then
      j29
    else
      j30 (1 : Int32)

set_option maxHeartbeats 4000000 in
theorem ct_X10_isLast (l : Launch) (G : gz_G) (fu : Nat) (M : gz_M) (a0 : Nat) (a1 : Int32) (a2 : Int32) (y : Int32) (hF : f_X10_isLast fu M a0 a1 a2 = some y) : gz_ct l yX10_isLast cX10_isLast 3 (some .boolean) 2 46 0 0 G [.ref a0, .int a1, .int a2] M (some (.int y)) M := by
  refine gz_ct.of (by decide) (Nat.le_of_ble_eq_true rfl) (fun C hC hX => ?_)
  unfold f_X10_isLast at hF
  obtain ⟨-, hF⟩ := gz_gd_some hF
  show gz_go C 0 0 M [(0, .ref a0), (1, .int a1), (2, .int a2)] 0 []
  refine gz_aload_n 0 hC 0 dX10_isLast_0 rfl rfl ?_
  refine gz_iload_n 1 hC 1 dX10_isLast_1 rfl rfl ?_
  refine gz_cvP (st := []) 2 hC hX [.int a1] Value.int yl_X10_isValley yv_X10_isValley q_1217 ⟨Nat.le_of_ble_eq_true rfl, Nat.le_of_ble_eq_true rfl⟩ ⟨_, rfl⟩ (fun r h => ct_X10_isValley _ _ fu M a0 a1 r h) rfl rfl (Nat.le_of_ble_eq_true rfl) dX10_isLast_2 gz_00 hF (fun x1 hF => ?_)
  refine gz_join (fun (j : Int32 → Option (Int32)) => ∀ (x4 : Int32), j x4 = some y → gz_go C 0 0 M [] 30 [.int x4]) hF (fun x4 hF => ?_) (fun j30 hj30 hF => ?_)
  · skip
    exact gz_zretP 30 hC hX dX10_isLast_30 hF
  refine gz_join (fun (j : Option (Int32)) => j = some y → gz_go C 0 0 M [] 29 []) hF (fun hF => ?_) (fun j29 hj29 hF => ?_)
  · skip
    refine gz_iconst 29 hC (0 : Int32) dX10_isLast_29 gz_k0 ?_
    exact hj30 _ hF
  refine gz_if_eq 5 29 hC dX10_isLast_5 (by decide) hF (fun hF => ?_) (fun hF => ?_)
  · skip
    refine gz_sub [] [] rfl ?_
    exact hj29 hF
  · skip
    refine gz_iload_n 8 hC 2 dX10_isLast_8 rfl rfl ?_
    refine gz_i2l 9 hC dX10_isLast_9 ?_
    refine gz_lconst 10 hC (0 : Int64) dX10_isLast_10 gz_l0 ?_
    refine gz_aload_n 11 hC 0 dX10_isLast_11 rfl rfl ?_
    refine gz_iload_n 12 hC 1 dX10_isLast_12 rfl rfl ?_
    refine gz_cvP (st := [.long (0 : Int64), .long (a2).toInt64]) 13 hC hX [.int a1] Value.int yl_X10_lastsOf yv_X10_lastsOf q_1229 ⟨Nat.le_of_ble_eq_true rfl, Nat.le_of_ble_eq_true rfl⟩ ⟨_, rfl⟩ (fun r h => ct_X10_lastsOf _ _ fu M a0 a1 r h) rfl rfl (Nat.le_of_ble_eq_true rfl) dX10_isLast_13 gz_00 hF (fun x2 hF => ?_)
    refine gz_iconst 16 hC (1 : Int32) dX10_isLast_16 gz_k1 ?_
    refine gz_isub 17 hC dX10_isLast_17 ?_
    refine gz_i2l 18 hC dX10_isLast_18 ?_
    refine gz_csP (st := []) 19 hC hX [.long (a2).toInt64, .long (0 : Int64), .long ((x2 - (1 : Int32))).toInt64] Value.int yl_X10_in yv_X10_in q_1170 ⟨Nat.le_of_ble_eq_true rfl, Nat.le_of_ble_eq_true rfl⟩ (fun r h => ct_X10_in _ _ fu M (a2).toInt64 (0 : Int64) ((x2 - (1 : Int32))).toInt64 r h) rfl rfl (Nat.le_of_ble_eq_true rfl) dX10_isLast_19 gz_00 hF (fun x3 hF => ?_)
    refine gz_if_eq 22 29 hC dX10_isLast_22 (by decide) hF (fun hF => ?_) (fun hF => ?_)
    · skip
      refine gz_sub [] [] rfl ?_
      exact hj29 hF
    · skip
      refine gz_iconst 25 hC (1 : Int32) dX10_isLast_25 gz_k1 ?_
      refine gz_goto 26 30 hC dX10_isLast_26 (by decide) ?_
      refine gz_sub [] [] rfl ?_
      exact hj30 _ hF

theorem dX10_all_0 : decode cX10_all 0 = .ok (.iconst 1, 1) := by decide +kernel
theorem dX10_all_1 : decode cX10_all 1 = .ok (.aload_n 0, 1) := by decide +kernel
theorem dX10_all_2 : decode cX10_all 2 = .ok (.iload_n 1, 1) := by decide +kernel
theorem dX10_all_3 : decode cX10_all 3 = .ok (.invokevirtual 85, 3) := by decide +kernel
theorem dX10_all_6 : decode cX10_all 6 = .ok (.ishl, 1) := by decide +kernel
theorem dX10_all_7 : decode cX10_all 7 = .ok (.iconst 1, 1) := by decide +kernel
theorem dX10_all_8 : decode cX10_all 8 = .ok (.isub, 1) := by decide +kernel
theorem dX10_all_9 : decode cX10_all 9 = .ok (.ireturn, 1) := by decide +kernel

def f_X10_all (fu : Nat) (M : gz_M) (a0 : Nat) (a1 : Int32) : Option (Int32) :=
  gz_gd M 10 a0 <|
  (f_X10_lastsOf fu M a0 a1).bind fun x1 =>
  some (((1 : Int32) <<< (x1 &&& 31)) - (1 : Int32))

set_option maxHeartbeats 4000000 in
theorem ct_X10_all (l : Launch) (G : gz_G) (fu : Nat) (M : gz_M) (a0 : Nat) (a1 : Int32) (y : Int32) (hF : f_X10_all fu M a0 a1 = some y) : gz_ct l yX10_all cX10_all 2 (some .int) 1 21 0 0 G [.ref a0, .int a1] M (some (.int y)) M := by
  refine gz_ct.of (by decide) (Nat.le_of_ble_eq_true rfl) (fun C hC hX => ?_)
  unfold f_X10_all at hF
  obtain ⟨-, hF⟩ := gz_gd_some hF
  show gz_go C 0 0 M [(0, .ref a0), (1, .int a1)] 0 []
  refine gz_iconst 0 hC (1 : Int32) dX10_all_0 gz_k1 ?_
  refine gz_aload_n 1 hC 0 dX10_all_1 rfl rfl ?_
  refine gz_iload_n 2 hC 1 dX10_all_2 rfl rfl ?_
  refine gz_cvP (st := [.int (1 : Int32)]) 3 hC hX [.int a1] Value.int yl_X10_lastsOf yv_X10_lastsOf q_1229 ⟨Nat.le_of_ble_eq_true rfl, Nat.le_of_ble_eq_true rfl⟩ ⟨_, rfl⟩ (fun r h => ct_X10_lastsOf _ _ fu M a0 a1 r h) rfl rfl (Nat.le_of_ble_eq_true rfl) dX10_all_3 gz_00 hF (fun x1 hF => ?_)
  refine gz_ishl 6 hC dX10_all_6 ?_
  refine gz_iconst 7 hC (1 : Int32) dX10_all_7 gz_k1 ?_
  refine gz_isub 8 hC dX10_all_8 ?_
  exact gz_iretP 9 hC hX dX10_all_9 hF

theorem dX10_isSet_0 : decode cX10_isSet 0 = .ok (.aload_n 0, 1) := by decide +kernel
theorem dX10_isSet_1 : decode cX10_isSet 1 = .ok (.iload_n 1, 1) := by decide +kernel
theorem dX10_isSet_2 : decode cX10_isSet 2 = .ok (.invokevirtual 77, 3) := by decide +kernel
theorem dX10_isSet_5 : decode cX10_isSet 5 = .ok (.ifCond .eq 22, 3) := by decide +kernel
theorem dX10_isSet_8 : decode cX10_isSet 8 = .ok (.iload_n 2, 1) := by decide +kernel
theorem dX10_isSet_9 : decode cX10_isSet 9 = .ok (.i2l, 1) := by decide +kernel
theorem dX10_isSet_10 : decode cX10_isSet 10 = .ok (.lconst 0, 1) := by decide +kernel
theorem dX10_isSet_11 : decode cX10_isSet 11 = .ok (.aload_n 0, 1) := by decide +kernel
theorem dX10_isSet_12 : decode cX10_isSet 12 = .ok (.iload_n 1, 1) := by decide +kernel
theorem dX10_isSet_13 : decode cX10_isSet 13 = .ok (.invokevirtual 88, 3) := by decide +kernel
theorem dX10_isSet_16 : decode cX10_isSet 16 = .ok (.i2l, 1) := by decide +kernel
theorem dX10_isSet_17 : decode cX10_isSet 17 = .ok (.invokestatic 73, 3) := by decide +kernel
theorem dX10_isSet_20 : decode cX10_isSet 20 = .ok (.ifCond .eq 7, 3) := by decide +kernel
theorem dX10_isSet_23 : decode cX10_isSet 23 = .ok (.iconst 1, 1) := by decide +kernel
theorem dX10_isSet_24 : decode cX10_isSet 24 = .ok (.goto 4, 3) := by decide +kernel
theorem dX10_isSet_27 : decode cX10_isSet 27 = .ok (.iconst 0, 1) := by decide +kernel
theorem dX10_isSet_28 : decode cX10_isSet 28 = .ok (.ireturn, 1) := by decide +kernel

def f_X10_isSet (fu : Nat) (M : gz_M) (a0 : Nat) (a1 : Int32) (a2 : Int32) : Option (Int32) :=
  gz_gd M 10 a0 <|
  (f_X10_isValley fu M a0 a1).bind fun x1 =>
  gz_jn (fun (x4 : Int32) =>
  gz_z x4 (some x4)) fun j28 =>
  gz_jn (j28 (0 : Int32)) fun j27 =>
  if x1 = 0 then
    j27
  else
    (f_X10_all fu M a0 a1).bind fun x2 =>
    (f_X10_in fu M (a2).toInt64 (0 : Int64) (x2).toInt64).bind fun x3 =>
    if x3 = 0 then
      j27
    else
      j28 (1 : Int32)

set_option maxHeartbeats 4000000 in
theorem ct_X10_isSet (l : Launch) (G : gz_G) (fu : Nat) (M : gz_M) (a0 : Nat) (a1 : Int32) (a2 : Int32) (y : Int32) (hF : f_X10_isSet fu M a0 a1 a2 = some y) : gz_ct l yX10_isSet cX10_isSet 3 (some .boolean) 2 46 0 0 G [.ref a0, .int a1, .int a2] M (some (.int y)) M := by
  refine gz_ct.of (by decide) (Nat.le_of_ble_eq_true rfl) (fun C hC hX => ?_)
  unfold f_X10_isSet at hF
  obtain ⟨-, hF⟩ := gz_gd_some hF
  show gz_go C 0 0 M [(0, .ref a0), (1, .int a1), (2, .int a2)] 0 []
  refine gz_aload_n 0 hC 0 dX10_isSet_0 rfl rfl ?_
  refine gz_iload_n 1 hC 1 dX10_isSet_1 rfl rfl ?_
  refine gz_cvP (st := []) 2 hC hX [.int a1] Value.int yl_X10_isValley yv_X10_isValley q_1217 ⟨Nat.le_of_ble_eq_true rfl, Nat.le_of_ble_eq_true rfl⟩ ⟨_, rfl⟩ (fun r h => ct_X10_isValley _ _ fu M a0 a1 r h) rfl rfl (Nat.le_of_ble_eq_true rfl) dX10_isSet_2 gz_00 hF (fun x1 hF => ?_)
  refine gz_join (fun (j : Int32 → Option (Int32)) => ∀ (x4 : Int32), j x4 = some y → gz_go C 0 0 M [] 28 [.int x4]) hF (fun x4 hF => ?_) (fun j28 hj28 hF => ?_)
  · skip
    exact gz_zretP 28 hC hX dX10_isSet_28 hF
  refine gz_join (fun (j : Option (Int32)) => j = some y → gz_go C 0 0 M [] 27 []) hF (fun hF => ?_) (fun j27 hj27 hF => ?_)
  · skip
    refine gz_iconst 27 hC (0 : Int32) dX10_isSet_27 gz_k0 ?_
    exact hj28 _ hF
  refine gz_if_eq 5 27 hC dX10_isSet_5 (by decide) hF (fun hF => ?_) (fun hF => ?_)
  · skip
    refine gz_sub [] [] rfl ?_
    exact hj27 hF
  · skip
    refine gz_iload_n 8 hC 2 dX10_isSet_8 rfl rfl ?_
    refine gz_i2l 9 hC dX10_isSet_9 ?_
    refine gz_lconst 10 hC (0 : Int64) dX10_isSet_10 gz_l0 ?_
    refine gz_aload_n 11 hC 0 dX10_isSet_11 rfl rfl ?_
    refine gz_iload_n 12 hC 1 dX10_isSet_12 rfl rfl ?_
    refine gz_cvP (st := [.long (0 : Int64), .long (a2).toInt64]) 13 hC hX [.int a1] Value.int yl_X10_all yv_X10_all q_1379 ⟨Nat.le_of_ble_eq_true rfl, Nat.le_of_ble_eq_true rfl⟩ ⟨_, rfl⟩ (fun r h => ct_X10_all _ _ fu M a0 a1 r h) rfl rfl (Nat.le_of_ble_eq_true rfl) dX10_isSet_13 gz_00 hF (fun x2 hF => ?_)
    refine gz_i2l 16 hC dX10_isSet_16 ?_
    refine gz_csP (st := []) 17 hC hX [.long (a2).toInt64, .long (0 : Int64), .long (x2).toInt64] Value.int yl_X10_in yv_X10_in q_1170 ⟨Nat.le_of_ble_eq_true rfl, Nat.le_of_ble_eq_true rfl⟩ (fun r h => ct_X10_in _ _ fu M (a2).toInt64 (0 : Int64) (x2).toInt64 r h) rfl rfl (Nat.le_of_ble_eq_true rfl) dX10_isSet_17 gz_00 hF (fun x3 hF => ?_)
    refine gz_if_eq 20 27 hC dX10_isSet_20 (by decide) hF (fun hF => ?_) (fun hF => ?_)
    · skip
      refine gz_sub [] [] rfl ?_
      exact hj27 hF
    · skip
      refine gz_iconst 23 hC (1 : Int32) dX10_isSet_23 gz_k1 ?_
      refine gz_goto 24 28 hC dX10_isSet_24 (by decide) ?_
      refine gz_sub [] [] rfl ?_
      exact hj28 _ hF

theorem dX10_bits_0 : decode cX10_bits 0 = .ok (.iconst 0, 1) := by decide +kernel
theorem dX10_bits_1 : decode cX10_bits 1 = .ok (.istore_n 1, 1) := by decide +kernel
theorem dX10_bits_2 : decode cX10_bits 2 = .ok (.iconst 0, 1) := by decide +kernel
theorem dX10_bits_3 : decode cX10_bits 3 = .ok (.istore_n 2, 1) := by decide +kernel
theorem dX10_bits_4 : decode cX10_bits 4 = .ok (.iload_n 2, 1) := by decide +kernel
theorem dX10_bits_5 : decode cX10_bits 5 = .ok (.bipush 12, 2) := by decide +kernel
theorem dX10_bits_7 : decode cX10_bits 7 = .ok (.if_icmp .ge 17, 3) := by decide +kernel
theorem dX10_bits_10 : decode cX10_bits 10 = .ok (.iload_n 1, 1) := by decide +kernel
theorem dX10_bits_11 : decode cX10_bits 11 = .ok (.iload_n 0, 1) := by decide +kernel
theorem dX10_bits_12 : decode cX10_bits 12 = .ok (.iload_n 2, 1) := by decide +kernel
theorem dX10_bits_13 : decode cX10_bits 13 = .ok (.ishr, 1) := by decide +kernel
theorem dX10_bits_14 : decode cX10_bits 14 = .ok (.iconst 1, 1) := by decide +kernel
theorem dX10_bits_15 : decode cX10_bits 15 = .ok (.iand, 1) := by decide +kernel
theorem dX10_bits_16 : decode cX10_bits 16 = .ok (.iadd, 1) := by decide +kernel
theorem dX10_bits_17 : decode cX10_bits 17 = .ok (.istore_n 1, 1) := by decide +kernel
theorem dX10_bits_18 : decode cX10_bits 18 = .ok (.iinc 2 1, 3) := by decide +kernel
theorem dX10_bits_21 : decode cX10_bits 21 = .ok (.goto (-17), 3) := by decide +kernel
theorem dX10_bits_24 : decode cX10_bits 24 = .ok (.iload_n 1, 1) := by decide +kernel
theorem dX10_bits_25 : decode cX10_bits 25 = .ok (.ireturn, 1) := by decide +kernel
def lp_X10_bits_4 (j24 : Int32 → Option (Int32)) (a0 : Int32) : Nat → Int32 → Int32 → Option (Int32)
  | 0, _, _ => none
  | n4 + 1, x1, x2 =>
    if (12 : Int32) ≤ x2 then
      j24 x1
    else
      lp_X10_bits_4 j24 a0 n4 (x1 + ((a0 >>> (x2 &&& 31)) &&& (1 : Int32))) (x2 + (1 : Int32))
def f_X10_bits (fu : Nat) (M : gz_M) (a0 : Int32) : Option (Int32) :=
  lp_X10_bits_4 (fun (x3 : Int32) => some x3) a0 fu (0 : Int32) (0 : Int32)
set_option maxHeartbeats 4000000 in
theorem w_X10_bits_4 {C : gz_C} {y : Int32} {a0 : Int32} {M : gz_M} {j24 : Int32 → Option (Int32)} (hC : gz_ok C cX10_bits RX10 3) (hX : gz_cx C 0 0 0 0 (some .int) (some (.int y)) M "bits") (hj24 : ∀ (x3 : Int32), j24 x3 = some y → gz_go C 0 0 M [(1, .int x3)] 24 []) : ∀ (n : Nat) (x1 : Int32) (x2 : Int32), lp_X10_bits_4 j24 a0 n x1 x2 = some y → gz_go C 0 0 M [(0, .int a0), (1, .int x1), (2, .int x2)] 4 [] := by
  intro n
  induction n with
  | zero => intro x1 x2 hF; exact nomatch (show (none : Option (Int32)) = some y from hF)
  | succ n4 ih4 =>
    intro x1 x2 hF
    rw [lp_X10_bits_4.eq_2] at hF
    refine gz_iload_n 4 hC 2 dX10_bits_4 rfl rfl ?_
    refine gz_bipush 5 hC (12 : Int32) dX10_bits_5 gz_b12 ?_
    refine gz_icmp_ge 7 24 hC dX10_bits_7 (by decide) hF (fun hF => ?_) (fun hF => ?_)
    · skip
      refine gz_sub [1] [(1, .int x1)] rfl ?_
      exact hj24 _ hF
    · skip
      refine gz_iload_n 10 hC 1 dX10_bits_10 rfl rfl ?_
      refine gz_iload_n 11 hC 0 dX10_bits_11 rfl rfl ?_
      refine gz_iload_n 12 hC 2 dX10_bits_12 rfl rfl ?_
      refine gz_ishr 13 hC dX10_bits_13 ?_
      refine gz_iconst 14 hC (1 : Int32) dX10_bits_14 gz_k1 ?_
      refine gz_iand 15 hC dX10_bits_15 ?_
      refine gz_iadd 16 hC dX10_bits_16 ?_
      refine gz_istore_n 17 hC [(1, .int (x1 + ((a0 >>> (x2 &&& 31)) &&& (1 : Int32)))), (0, .int a0), (2, .int x2)] dX10_bits_17 rfl (by decide) rfl ?_
      refine gz_iinc 18 hC (x2 + (1 : Int32)) 2 [(2, .int (x2 + (1 : Int32))), (1, .int (x1 + ((a0 >>> (x2 &&& 31)) &&& (1 : Int32)))), (0, .int a0)] dX10_bits_18 rfl rfl (by decide) rfl ?_
      refine gz_goto 21 4 hC dX10_bits_21 (by decide) ?_
      refine gz_sub [2, 1, 0] [(0, .int a0), (1, .int (x1 + ((a0 >>> (x2 &&& 31)) &&& (1 : Int32)))), (2, .int (x2 + (1 : Int32)))] rfl ?_
      exact ih4 _ _ hF
set_option maxHeartbeats 4000000 in
theorem ct_X10_bits (l : Launch) (G : gz_G) (fu : Nat) (M : gz_M) (a0 : Int32) (y : Int32) (hF : f_X10_bits fu M a0 = some y) : gz_ct l yX10_bits cX10_bits 3 (some .int) 0 0 0 0 G [.int a0] M (some (.int y)) M := by
  refine gz_ct.of (by decide) (Nat.le_of_ble_eq_true rfl) (fun C hC hX => ?_)
  unfold f_X10_bits at hF
  show gz_go C 0 0 M [(0, .int a0)] 0 []
  refine gz_iconst 0 hC (0 : Int32) dX10_bits_0 gz_k0 ?_
  refine gz_istore_n 1 hC [(1, .int (0 : Int32)), (0, .int a0)] dX10_bits_1 rfl (by decide) rfl ?_
  refine gz_iconst 2 hC (0 : Int32) dX10_bits_2 gz_k0 ?_
  refine gz_istore_n 3 hC [(2, .int (0 : Int32)), (1, .int (0 : Int32)), (0, .int a0)] dX10_bits_3 rfl (by decide) rfl ?_
  refine gz_sub [2, 1, 0] [(0, .int a0), (1, .int (0 : Int32)), (2, .int (0 : Int32))] rfl ?_
  refine w_X10_bits_4 hC hX ?_ _ _ _ hF
  intro x3 hF
  refine gz_iload_n 24 hC 0 dX10_bits_24 rfl rfl ?_
  exact gz_iretP 25 hC hX dX10_bits_25 hF
