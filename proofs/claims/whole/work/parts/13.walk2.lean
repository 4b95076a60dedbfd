theorem dX2_next_0 : decode cX2_next 0 = .ok (.aload_n 0, 1) := by decide +kernel
theorem dX2_next_1 : decode cX2_next 1 = .ok (.aload_n 0, 1) := by decide +kernel
theorem dX2_next_2 : decode cX2_next 2 = .ok (.getfield 18, 3) := by decide +kernel
theorem dX2_next_5 : decode cX2_next 5 = .ok (.putfield 15, 3) := by decide +kernel
theorem dX2_next_8 : decode cX2_next 8 = .ok (.aload_n 0, 1) := by decide +kernel
theorem dX2_next_9 : decode cX2_next 9 = .ok (.getfield 15, 3) := by decide +kernel
theorem dX2_next_12 : decode cX2_next 12 = .ok (.aload_n 0, 1) := by decide +kernel
theorem dX2_next_13 : decode cX2_next 13 = .ok (.getfield 24, 3) := by decide +kernel
theorem dX2_next_16 : decode cX2_next 16 = .ok (.getfield 43, 3) := by decide +kernel
theorem dX2_next_19 : decode cX2_next 19 = .ok (.if_icmp .ge 32, 3) := by decide +kernel
theorem dX2_next_22 : decode cX2_next 22 = .ok (.aload_n 0, 1) := by decide +kernel
theorem dX2_next_23 : decode cX2_next 23 = .ok (.getfield 24, 3) := by decide +kernel
theorem dX2_next_26 : decode cX2_next 26 = .ok (.aload_n 0, 1) := by decide +kernel
theorem dX2_next_27 : decode cX2_next 27 = .ok (.getfield 15, 3) := by decide +kernel
theorem dX2_next_30 : decode cX2_next 30 = .ok (.invokevirtual 48, 3) := by decide +kernel
theorem dX2_next_33 : decode cX2_next 33 = .ok (.bipush 32, 2) := by decide +kernel
theorem dX2_next_35 : decode cX2_next 35 = .ok (.if_icmp .ne 16, 3) := by decide +kernel
theorem dX2_next_38 : decode cX2_next 38 = .ok (.aload_n 0, 1) := by decide +kernel
theorem dX2_next_39 : decode cX2_next 39 = .ok (.dup, 1) := by decide +kernel
theorem dX2_next_40 : decode cX2_next 40 = .ok (.getfield 15, 3) := by decide +kernel
theorem dX2_next_43 : decode cX2_next 43 = .ok (.iconst 1, 1) := by decide +kernel
theorem dX2_next_44 : decode cX2_next 44 = .ok (.iadd, 1) := by decide +kernel
theorem dX2_next_45 : decode cX2_next 45 = .ok (.putfield 15, 3) := by decide +kernel
theorem dX2_next_48 : decode cX2_next 48 = .ok (.goto (-40), 3) := by decide +kernel
theorem dX2_next_51 : decode cX2_next 51 = .ok (.aload_n 0, 1) := by decide +kernel
theorem dX2_next_52 : decode cX2_next 52 = .ok (.aload_n 0, 1) := by decide +kernel
theorem dX2_next_53 : decode cX2_next 53 = .ok (.getfield 24, 3) := by decide +kernel
theorem dX2_next_56 : decode cX2_next 56 = .ok (.aload_n 0, 1) := by decide +kernel
theorem dX2_next_57 : decode cX2_next 57 = .ok (.getfield 15, 3) := by decide +kernel
theorem dX2_next_60 : decode cX2_next 60 = .ok (.invokevirtual 48, 3) := by decide +kernel
theorem dX2_next_63 : decode cX2_next 63 = .ok (.invokestatic 52, 3) := by decide +kernel
theorem dX2_next_66 : decode cX2_next 66 = .ok (.putfield 11, 3) := by decide +kernel
theorem dX2_next_69 : decode cX2_next 69 = .ok (.aload_n 0, 1) := by decide +kernel
theorem dX2_next_70 : decode cX2_next 70 = .ok (.aload_n 0, 1) := by decide +kernel
theorem dX2_next_71 : decode cX2_next 71 = .ok (.getfield 15, 3) := by decide +kernel
theorem dX2_next_74 : decode cX2_next 74 = .ok (.putfield 18, 3) := by decide +kernel
theorem dX2_next_77 : decode cX2_next 77 = .ok (.aload_n 0, 1) := by decide +kernel
theorem dX2_next_78 : decode cX2_next 78 = .ok (.getfield 11, 3) := by decide +kernel
theorem dX2_next_81 : decode cX2_next 81 = .ok (.iconst 1, 1) := by decide +kernel
theorem dX2_next_82 : decode cX2_next 82 = .ok (.if_icmp .eq 11, 3) := by decide +kernel
theorem dX2_next_85 : decode cX2_next 85 = .ok (.aload_n 0, 1) := by decide +kernel
theorem dX2_next_86 : decode cX2_next 86 = .ok (.getfield 11, 3) := by decide +kernel
theorem dX2_next_89 : decode cX2_next 89 = .ok (.iconst 2, 1) := by decide +kernel
theorem dX2_next_90 : decode cX2_next 90 = .ok (.if_icmp .ne 51, 3) := by decide +kernel
theorem dX2_next_93 : decode cX2_next 93 = .ok (.aload_n 0, 1) := by decide +kernel
theorem dX2_next_94 : decode cX2_next 94 = .ok (.getfield 18, 3) := by decide +kernel
theorem dX2_next_97 : decode cX2_next 97 = .ok (.aload_n 0, 1) := by decide +kernel
theorem dX2_next_98 : decode cX2_next 98 = .ok (.getfield 24, 3) := by decide +kernel
theorem dX2_next_101 : decode cX2_next 101 = .ok (.getfield 43, 3) := by decide +kernel
theorem dX2_next_104 : decode cX2_next 104 = .ok (.if_icmp .ge 54, 3) := by decide +kernel
theorem dX2_next_107 : decode cX2_next 107 = .ok (.aload_n 0, 1) := by decide +kernel
theorem dX2_next_108 : decode cX2_next 108 = .ok (.getfield 24, 3) := by decide +kernel
theorem dX2_next_111 : decode cX2_next 111 = .ok (.aload_n 0, 1) := by decide +kernel
theorem dX2_next_112 : decode cX2_next 112 = .ok (.getfield 18, 3) := by decide +kernel
theorem dX2_next_115 : decode cX2_next 115 = .ok (.invokevirtual 48, 3) := by decide +kernel
theorem dX2_next_118 : decode cX2_next 118 = .ok (.invokestatic 52, 3) := by decide +kernel
theorem dX2_next_121 : decode cX2_next 121 = .ok (.aload_n 0, 1) := by decide +kernel
theorem dX2_next_122 : decode cX2_next 122 = .ok (.getfield 11, 3) := by decide +kernel
theorem dX2_next_125 : decode cX2_next 125 = .ok (.if_icmp .ne 33, 3) := by decide +kernel
theorem dX2_next_128 : decode cX2_next 128 = .ok (.aload_n 0, 1) := by decide +kernel
theorem dX2_next_129 : decode cX2_next 129 = .ok (.dup, 1) := by decide +kernel
theorem dX2_next_130 : decode cX2_next 130 = .ok (.getfield 18, 3) := by decide +kernel
theorem dX2_next_133 : decode cX2_next 133 = .ok (.iconst 1, 1) := by decide +kernel
theorem dX2_next_134 : decode cX2_next 134 = .ok (.iadd, 1) := by decide +kernel
theorem dX2_next_135 : decode cX2_next 135 = .ok (.putfield 18, 3) := by decide +kernel
theorem dX2_next_138 : decode cX2_next 138 = .ok (.goto (-45), 3) := by decide +kernel
theorem dX2_next_141 : decode cX2_next 141 = .ok (.aload_n 0, 1) := by decide +kernel
theorem dX2_next_142 : decode cX2_next 142 = .ok (.getfield 11, 3) := by decide +kernel
theorem dX2_next_145 : decode cX2_next 145 = .ok (.ifCond .eq 13, 3) := by decide +kernel
theorem dX2_next_148 : decode cX2_next 148 = .ok (.aload_n 0, 1) := by decide +kernel
theorem dX2_next_149 : decode cX2_next 149 = .ok (.dup, 1) := by decide +kernel
theorem dX2_next_150 : decode cX2_next 150 = .ok (.getfield 18, 3) := by decide +kernel
theorem dX2_next_153 : decode cX2_next 153 = .ok (.iconst 1, 1) := by decide +kernel
theorem dX2_next_154 : decode cX2_next 154 = .ok (.iadd, 1) := by decide +kernel
theorem dX2_next_155 : decode cX2_next 155 = .ok (.putfield 18, 3) := by decide +kernel
theorem dX2_next_158 : decode cX2_next 158 = .ok (.return_, 1) := by decide +kernel
def lp_X2_next_8 (j51 : gz_M → Option (gz_M)) (fu : Nat) (a0 : Nat) : Nat → gz_M → Option (gz_M)
  | 0, _ => none
  | n8 + 1, M3 =>
    (gz_gI M3 2 2 a0).bind fun x4 =>
    (gz_gR M3 2 0 a0).bind fun x5 =>
    (gz_gI M3 6 1 x5).bind fun x6 =>
    if x6 ≤ x4 then
      j51 M3
    else
      (gz_gR M3 2 0 a0).bind fun x7 =>
      (gz_gI M3 2 2 a0).bind fun x8 =>
      (f_X6_at fu M3 x7 x8).bind fun x9 =>
      if x9 = (32 : Int32) then
        (gz_gI M3 2 2 a0).bind fun x10 =>
        (gz_pI M3 2 2 a0 (x10 + (1 : Int32))).bind fun M11 =>
        lp_X2_next_8 j51 fu a0 n8 M11
      else
        j51 M3
def lp_X2_next_93 (j158 : gz_M → Option (gz_M)) (fu : Nat) (a0 : Nat) : Nat → gz_M → Option (gz_M)
  | 0, _ => none
  | n93 + 1, M25 =>
    (gz_gI M25 2 3 a0).bind fun x26 =>
    (gz_gR M25 2 0 a0).bind fun x27 =>
    (gz_gI M25 6 1 x27).bind fun x28 =>
    if x28 ≤ x26 then
      j158 M25
    else
      (gz_gR M25 2 0 a0).bind fun x29 =>
      (gz_gI M25 2 3 a0).bind fun x30 =>
      (f_X6_at fu M25 x29 x30).bind fun x31 =>
      (f_X2_kindOf fu M25 x31).bind fun x32 =>
      (gz_gI M25 2 1 a0).bind fun x33 =>
      if x32 = x33 then
        (gz_gI M25 2 3 a0).bind fun x34 =>
        (gz_pI M25 2 3 a0 (x34 + (1 : Int32))).bind fun M35 =>
        lp_X2_next_93 j158 fu a0 n93 M35
      else
        j158 M25
def f_X2_next (fu : Nat) (M : gz_M) (a0 : Nat) : Option (gz_M) :=
  gz_gd M 2 a0 <|
  (gz_gI M 2 3 a0).bind fun x1 =>
  (gz_pI M 2 2 a0 x1).bind fun M2 =>
  lp_X2_next_8 (fun (M12 : gz_M) => (gz_gR M12 2 0 a0).bind fun x13 =>
    (gz_gI M12 2 2 a0).bind fun x14 =>
    (f_X6_at fu M12 x13 x14).bind fun x15 =>
    (f_X2_kindOf fu M12 x15).bind fun x16 =>
    (gz_pI M12 2 1 a0 x16).bind fun M17 =>
    (gz_gI M17 2 2 a0).bind fun x18 =>
    (gz_pI M17 2 3 a0 x18).bind fun M19 =>
    (gz_gI M19 2 1 a0).bind fun x20 =>
    gz_jn (fun (M36 : gz_M) =>
    some M36) fun j158 =>
    gz_jn (fun (M25 : gz_M) =>
    lp_X2_next_93 j158 fu a0 fu M25) fun j93 =>
    if x20 = (1 : Int32) then
      j93 M19
    else
      (gz_gI M19 2 1 a0).bind fun x21 =>
      if x21 = (2 : Int32) then
        j93 M19
      else
        (gz_gI M19 2 1 a0).bind fun x22 =>
        if x22 = 0 then
          j158 M19
        else
          (gz_gI M19 2 3 a0).bind fun x23 =>
          (gz_pI M19 2 3 a0 (x23 + (1 : Int32))).bind fun M24 =>
          j158 M24) fu a0 fu M2
set_option maxHeartbeats 4000000 in
theorem w_X2_next_8 {C : gz_C} {y : gz_M} {fu : Nat} {a0 : Nat} {j51 : gz_M → Option (gz_M)} (hC : gz_ok C cX2_next RX2 1) (hX : gz_cx C 1 21 0 0 none none y "next") (hj51 : ∀ (M12 : gz_M), j51 M12 = some y → gz_go C 0 0 M12 [(0, .ref a0)] 51 []) : ∀ (n : Nat) (M3 : gz_M), lp_X2_next_8 j51 fu a0 n M3 = some y → gz_go C 0 0 M3 [(0, .ref a0)] 8 [] := by
  intro n
  induction n with
  | zero => intro M3 hF; exact nomatch (show (none : Option (gz_M)) = some y from hF)
  | succ n8 ih8 =>
    intro M3 hF
    rw [lp_X2_next_8.eq_2] at hF
    refine gz_aload_n 8 hC 0 dX2_next_8 rfl rfl ?_
    refine gz_getI 9 hC fl_X2_15 fk_2_2 dX2_next_9 hF (fun x4 hF => ?_)
    refine gz_aload_n 12 hC 0 dX2_next_12 rfl rfl ?_
    refine gz_getR 13 hC fl_X2_24 fk_2_0 dX2_next_13 hF (fun x5 hF => ?_)
    refine gz_getI 16 hC fl_X2_43 fk_6_1 dX2_next_16 hF (fun x6 hF => ?_)
    refine gz_icmp_ge 19 51 hC dX2_next_19 (by decide) hF (fun hF => ?_) (fun hF => ?_)
    · skip
      exact hj51 _ hF
    · skip
      refine gz_aload_n 22 hC 0 dX2_next_22 rfl rfl ?_
      refine gz_getR 23 hC fl_X2_24 fk_2_0 dX2_next_23 hF (fun x7 hF => ?_)
      refine gz_aload_n 26 hC 0 dX2_next_26 rfl rfl ?_
      refine gz_getI 27 hC fl_X2_15 fk_2_2 dX2_next_27 hF (fun x8 hF => ?_)
      refine gz_cvP (st := []) 30 hC hX [.int x8] Value.int yl_X6_at yv_X6_at q_587 ⟨Nat.le_of_ble_eq_true rfl, Nat.le_of_ble_eq_true rfl⟩ ⟨_, rfl⟩ (fun r h => ct_X6_at _ _ fu M3 x7 x8 r h) rfl rfl (Nat.le_of_ble_eq_true rfl) dX2_next_30 gz_00 hF (fun x9 hF => ?_)
      refine gz_bipush 33 hC (32 : Int32) dX2_next_33 gz_b32 ?_
      refine gz_icmp_ne 35 51 hC dX2_next_35 (by decide) hF (fun hF => ?_) (fun hF => ?_)
      · skip
        exact hj51 _ hF
      · skip
        refine gz_aload_n 38 hC 0 dX2_next_38 rfl rfl ?_
        refine gz_dup 39 hC dX2_next_39 rfl ?_
        refine gz_getI 40 hC fl_X2_15 fk_2_2 dX2_next_40 hF (fun x10 hF => ?_)
        refine gz_iconst 43 hC (1 : Int32) dX2_next_43 gz_k1 ?_
        refine gz_iadd 44 hC dX2_next_44 ?_
        refine gz_putI 45 hC fl_X2_15 fk_2_2 dX2_next_45 hF (fun M11 hF => ?_)
        refine gz_goto 48 8 hC dX2_next_48 (by decide) ?_
        exact ih8 _ hF
set_option maxHeartbeats 4000000 in
theorem w_X2_next_93 {C : gz_C} {y : gz_M} {fu : Nat} {a0 : Nat} {j158 : gz_M → Option (gz_M)} (hC : gz_ok C cX2_next RX2 1) (hX : gz_cx C 1 21 0 0 none none y "next") (hj158 : ∀ (M36 : gz_M), j158 M36 = some y → gz_go C 0 0 M36 [] 158 []) : ∀ (n : Nat) (M25 : gz_M), lp_X2_next_93 j158 fu a0 n M25 = some y → gz_go C 0 0 M25 [(0, .ref a0)] 93 [] := by
  intro n
  induction n with
  | zero => intro M25 hF; exact nomatch (show (none : Option (gz_M)) = some y from hF)
  | succ n93 ih93 =>
    intro M25 hF
    rw [lp_X2_next_93.eq_2] at hF
    refine gz_aload_n 93 hC 0 dX2_next_93 rfl rfl ?_
    refine gz_getI 94 hC fl_X2_18 fk_2_3 dX2_next_94 hF (fun x26 hF => ?_)
    refine gz_aload_n 97 hC 0 dX2_next_97 rfl rfl ?_
    refine gz_getR 98 hC fl_X2_24 fk_2_0 dX2_next_98 hF (fun x27 hF => ?_)
    refine gz_getI 101 hC fl_X2_43 fk_6_1 dX2_next_101 hF (fun x28 hF => ?_)
    refine gz_icmp_ge 104 158 hC dX2_next_104 (by decide) hF (fun hF => ?_) (fun hF => ?_)
    · skip
      refine gz_sub [] [] rfl ?_
      exact hj158 _ hF
    · skip
      refine gz_aload_n 107 hC 0 dX2_next_107 rfl rfl ?_
      refine gz_getR 108 hC fl_X2_24 fk_2_0 dX2_next_108 hF (fun x29 hF => ?_)
      refine gz_aload_n 111 hC 0 dX2_next_111 rfl rfl ?_
      refine gz_getI 112 hC fl_X2_18 fk_2_3 dX2_next_112 hF (fun x30 hF => ?_)
      refine gz_cvP (st := []) 115 hC hX [.int x30] Value.int yl_X6_at yv_X6_at q_587 ⟨Nat.le_of_ble_eq_true rfl, Nat.le_of_ble_eq_true rfl⟩ ⟨_, rfl⟩ (fun r h => ct_X6_at _ _ fu M25 x29 x30 r h) rfl rfl (Nat.le_of_ble_eq_true rfl) dX2_next_115 gz_00 hF (fun x31 hF => ?_)
      refine gz_csP (st := []) 118 hC hX [.int x31] Value.int yl_X2_kindOf yv_X2_kindOf q_591 ⟨Nat.le_of_ble_eq_true rfl, Nat.le_of_ble_eq_true rfl⟩ (fun r h => ct_X2_kindOf _ _ fu M25 x31 r h) rfl rfl (Nat.le_of_ble_eq_true rfl) dX2_next_118 gz_00 hF (fun x32 hF => ?_)
      refine gz_aload_n 121 hC 0 dX2_next_121 rfl rfl ?_
      refine gz_getI 122 hC fl_X2_11 fk_2_1 dX2_next_122 hF (fun x33 hF => ?_)
      refine gz_icmp_ne 125 158 hC dX2_next_125 (by decide) hF (fun hF => ?_) (fun hF => ?_)
      · skip
        refine gz_sub [] [] rfl ?_
        exact hj158 _ hF
      · skip
        refine gz_aload_n 128 hC 0 dX2_next_128 rfl rfl ?_
        refine gz_dup 129 hC dX2_next_129 rfl ?_
        refine gz_getI 130 hC fl_X2_18 fk_2_3 dX2_next_130 hF (fun x34 hF => ?_)
        refine gz_iconst 133 hC (1 : Int32) dX2_next_133 gz_k1 ?_
        refine gz_iadd 134 hC dX2_next_134 ?_
        refine gz_putI 135 hC fl_X2_18 fk_2_3 dX2_next_135 hF (fun M35 hF => ?_)
        refine gz_goto 138 93 hC dX2_next_138 (by decide) ?_
        exact ih93 _ hF
set_option maxHeartbeats 4000000 in
theorem ct_X2_next (l : Launch) (G : gz_G) (fu : Nat) (M : gz_M) (a0 : Nat) (y : gz_M) (hF : f_X2_next fu M a0 = some y) : gz_ct l yX2_next cX2_next 1 none 1 21 0 0 G [.ref a0] M none y := by
  refine gz_ct.of (by decide) (Nat.le_of_ble_eq_true rfl) (fun C hC hX => ?_)
  unfold f_X2_next at hF
  obtain ⟨-, hF⟩ := gz_gd_some hF
  show gz_go C 0 0 M [(0, .ref a0)] 0 []
  refine gz_aload_n 0 hC 0 dX2_next_0 rfl rfl ?_
  refine gz_aload_n 1 hC 0 dX2_next_1 rfl rfl ?_
  refine gz_getI 2 hC fl_X2_18 fk_2_3 dX2_next_2 hF (fun x1 hF => ?_)
  refine gz_putI 5 hC fl_X2_15 fk_2_2 dX2_next_5 hF (fun M2 hF => ?_)
  refine w_X2_next_8 hC hX ?_ _ _ hF
  intro M12 hF
  refine gz_aload_n 51 hC 0 dX2_next_51 rfl rfl ?_
  refine gz_aload_n 52 hC 0 dX2_next_52 rfl rfl ?_
  refine gz_getR 53 hC fl_X2_24 fk_2_0 dX2_next_53 hF (fun x13 hF => ?_)
  refine gz_aload_n 56 hC 0 dX2_next_56 rfl rfl ?_
  refine gz_getI 57 hC fl_X2_15 fk_2_2 dX2_next_57 hF (fun x14 hF => ?_)
  refine gz_cvP (st := [.ref a0]) 60 hC hX [.int x14] Value.int yl_X6_at yv_X6_at q_587 ⟨Nat.le_of_ble_eq_true rfl, Nat.le_of_ble_eq_true rfl⟩ ⟨_, rfl⟩ (fun r h => ct_X6_at _ _ fu M12 x13 x14 r h) rfl rfl (Nat.le_of_ble_eq_true rfl) dX2_next_60 gz_00 hF (fun x15 hF => ?_)
  refine gz_csP (st := [.ref a0]) 63 hC hX [.int x15] Value.int yl_X2_kindOf yv_X2_kindOf q_591 ⟨Nat.le_of_ble_eq_true rfl, Nat.le_of_ble_eq_true rfl⟩ (fun r h => ct_X2_kindOf _ _ fu M12 x15 r h) rfl rfl (Nat.le_of_ble_eq_true rfl) dX2_next_63 gz_00 hF (fun x16 hF => ?_)
  refine gz_putI 66 hC fl_X2_11 fk_2_1 dX2_next_66 hF (fun M17 hF => ?_)
  refine gz_aload_n 69 hC 0 dX2_next_69 rfl rfl ?_
  refine gz_aload_n 70 hC 0 dX2_next_70 rfl rfl ?_
  refine gz_getI 71 hC fl_X2_15 fk_2_2 dX2_next_71 hF (fun x18 hF => ?_)
  refine gz_putI 74 hC fl_X2_18 fk_2_3 dX2_next_74 hF (fun M19 hF => ?_)
  refine gz_aload_n 77 hC 0 dX2_next_77 rfl rfl ?_
  refine gz_getI 78 hC fl_X2_11 fk_2_1 dX2_next_78 hF (fun x20 hF => ?_)
  refine gz_iconst 81 hC (1 : Int32) dX2_next_81 gz_k1 ?_
  refine gz_join (fun (j : gz_M → Option (gz_M)) => ∀ (M36 : gz_M), j M36 = some y → gz_go C 0 0 M36 [] 158 []) hF (fun M36 hF => ?_) (fun j158 hj158 hF => ?_)
  · skip
    exact gz_vretM 158 hC hX dX2_next_158 hF
  refine gz_join (fun (j : gz_M → Option (gz_M)) => ∀ (M25 : gz_M), j M25 = some y → gz_go C 0 0 M25 [(0, .ref a0)] 93 []) hF (fun M25 hF => ?_) (fun j93 hj93 hF => ?_)
  · skip
    refine w_X2_next_93 hC hX hj158 _ _ hF
  refine gz_icmp_eq 82 93 hC dX2_next_82 (by decide) hF (fun hF => ?_) (fun hF => ?_)
  · skip
    exact hj93 _ hF
  · skip
    refine gz_aload_n 85 hC 0 dX2_next_85 rfl rfl ?_
    refine gz_getI 86 hC fl_X2_11 fk_2_1 dX2_next_86 hF (fun x21 hF => ?_)
    refine gz_iconst 89 hC (2 : Int32) dX2_next_89 gz_k2 ?_
    refine gz_icmp_ne 90 141 hC dX2_next_90 (by decide) hF (fun hF => ?_) (fun hF => ?_)
    · skip
      refine gz_aload_n 141 hC 0 dX2_next_141 rfl rfl ?_
      refine gz_getI 142 hC fl_X2_11 fk_2_1 dX2_next_142 hF (fun x22 hF => ?_)
      refine gz_if_eq 145 158 hC dX2_next_145 (by decide) hF (fun hF => ?_) (fun hF => ?_)
      · skip
        refine gz_sub [] [] rfl ?_
        exact hj158 _ hF
      · skip
        refine gz_aload_n 148 hC 0 dX2_next_148 rfl rfl ?_
        refine gz_dup 149 hC dX2_next_149 rfl ?_
        refine gz_getI 150 hC fl_X2_18 fk_2_3 dX2_next_150 hF (fun x23 hF => ?_)
        refine gz_iconst 153 hC (1 : Int32) dX2_next_153 gz_k1 ?_
        refine gz_iadd 154 hC dX2_next_154 ?_
        refine gz_putI 155 hC fl_X2_18 fk_2_3 dX2_next_155 hF (fun M24 hF => ?_)
        refine gz_sub [] [] rfl ?_
        exact hj158 _ hF
    · skip
      exact hj93 _ hF

theorem dX2_isWord_0 : decode cX2_isWord 0 = .ok (.aload_n 0, 1) := by decide +kernel
theorem dX2_isWord_1 : decode cX2_isWord 1 = .ok (.getfield 11, 3) := by decide +kernel
theorem dX2_isWord_4 : decode cX2_isWord 4 = .ok (.iconst 1, 1) := by decide +kernel
theorem dX2_isWord_5 : decode cX2_isWord 5 = .ok (.if_icmp .ne 19, 3) := by decide +kernel
theorem dX2_isWord_8 : decode cX2_isWord 8 = .ok (.aload_n 0, 1) := by decide +kernel
theorem dX2_isWord_9 : decode cX2_isWord 9 = .ok (.getfield 18, 3) := by decide +kernel
theorem dX2_isWord_12 : decode cX2_isWord 12 = .ok (.aload_n 0, 1) := by decide +kernel
theorem dX2_isWord_13 : decode cX2_isWord 13 = .ok (.getfield 15, 3) := by decide +kernel
theorem dX2_isWord_16 : decode cX2_isWord 16 = .ok (.isub, 1) := by decide +kernel
theorem dX2_isWord_17 : decode cX2_isWord 17 = .ok (.aload_n 1, 1) := by decide +kernel
theorem dX2_isWord_18 : decode cX2_isWord 18 = .ok (.invokevirtual 55, 3) := by decide +kernel
theorem dX2_isWord_21 : decode cX2_isWord 21 = .ok (.if_icmp .eq 5, 3) := by decide +kernel
theorem dX2_isWord_24 : decode cX2_isWord 24 = .ok (.iconst 0, 1) := by decide +kernel
theorem dX2_isWord_25 : decode cX2_isWord 25 = .ok (.ireturn, 1) := by decide +kernel
theorem dX2_isWord_26 : decode cX2_isWord 26 = .ok (.iconst 0, 1) := by decide +kernel
theorem dX2_isWord_27 : decode cX2_isWord 27 = .ok (.istore_n 2, 1) := by decide +kernel
theorem dX2_isWord_28 : decode cX2_isWord 28 = .ok (.iload_n 2, 1) := by decide +kernel
theorem dX2_isWord_29 : decode cX2_isWord 29 = .ok (.aload_n 1, 1) := by decide +kernel
theorem dX2_isWord_30 : decode cX2_isWord 30 = .ok (.invokevirtual 55, 3) := by decide +kernel
theorem dX2_isWord_33 : decode cX2_isWord 33 = .ok (.if_icmp .ge 32, 3) := by decide +kernel
theorem dX2_isWord_36 : decode cX2_isWord 36 = .ok (.aload_n 0, 1) := by decide +kernel
theorem dX2_isWord_37 : decode cX2_isWord 37 = .ok (.getfield 24, 3) := by decide +kernel
theorem dX2_isWord_40 : decode cX2_isWord 40 = .ok (.aload_n 0, 1) := by decide +kernel
theorem dX2_isWord_41 : decode cX2_isWord 41 = .ok (.getfield 15, 3) := by decide +kernel
theorem dX2_isWord_44 : decode cX2_isWord 44 = .ok (.iload_n 2, 1) := by decide +kernel
theorem dX2_isWord_45 : decode cX2_isWord 45 = .ok (.iadd, 1) := by decide +kernel
theorem dX2_isWord_46 : decode cX2_isWord 46 = .ok (.invokevirtual 48, 3) := by decide +kernel
theorem dX2_isWord_49 : decode cX2_isWord 49 = .ok (.aload_n 1, 1) := by decide +kernel
theorem dX2_isWord_50 : decode cX2_isWord 50 = .ok (.iload_n 2, 1) := by decide +kernel
theorem dX2_isWord_51 : decode cX2_isWord 51 = .ok (.invokevirtual 61, 3) := by decide +kernel
theorem dX2_isWord_54 : decode cX2_isWord 54 = .ok (.if_icmp .eq 5, 3) := by decide +kernel
theorem dX2_isWord_57 : decode cX2_isWord 57 = .ok (.iconst 0, 1) := by decide +kernel
theorem dX2_isWord_58 : decode cX2_isWord 58 = .ok (.ireturn, 1) := by decide +kernel
theorem dX2_isWord_59 : decode cX2_isWord 59 = .ok (.iinc 2 1, 3) := by decide +kernel
theorem dX2_isWord_62 : decode cX2_isWord 62 = .ok (.goto (-34), 3) := by decide +kernel
theorem dX2_isWord_65 : decode cX2_isWord 65 = .ok (.iconst 1, 1) := by decide +kernel
theorem dX2_isWord_66 : decode cX2_isWord 66 = .ok (.ireturn, 1) := by decide +kernel
def lp_X2_isWord_28 (j65 : Option (Int32)) (fu : Nat) (M : gz_M) (a0 : Nat) (a1 : Nat) : Nat → Int32 → Option (Int32)
  | 0, _ => none
  | n28 + 1, x5 =>
    (gz_sl a1).bind fun x6 =>
    if x6 ≤ x5 then
      j65
    else
      (gz_gR M 2 0 a0).bind fun x7 =>
      (gz_gI M 2 2 a0).bind fun x8 =>
      (f_X6_at fu M x7 (x8 + x5)).bind fun x9 =>
      (gz_sc a1 x5).bind fun x10 =>
      if x9 = x10 then
        lp_X2_isWord_28 j65 fu M a0 a1 n28 (x5 + (1 : Int32))
      else
        gz_z (0 : Int32) (some (0 : Int32))
def f_X2_isWord (fu : Nat) (M : gz_M) (a0 : Nat) (a1 : Nat) : Option (Int32) :=
  gz_gd M 2 a0 <|
  (gz_gI M 2 1 a0).bind fun x1 =>
  gz_jn (gz_z (0 : Int32) (some (0 : Int32))) fun j24 =>
  if x1 = (1 : Int32) then
    (gz_gI M 2 3 a0).bind fun x2 =>
    (gz_gI M 2 2 a0).bind fun x3 =>
    (gz_sl a1).bind fun x4 =>
    if (x2 - x3) = x4 then
      lp_X2_isWord_28 (gz_z (1 : Int32) (some (1 : Int32))) fu M a0 a1 fu (0 : Int32)
    else
      j24
  else
    j24
set_option maxHeartbeats 4000000 in
theorem w_X2_isWord_28 {C : gz_C} {y : Int32} {fu : Nat} {M : gz_M} {a0 : Nat} {a1 : Nat} {j65 : Option (Int32)} (hC : gz_ok C cX2_isWord RX2 3) (hX : gz_cx C 4 85 0 0 (some .boolean) (some (.int y)) M "isWord") (hj65 : j65 = some y → gz_go C 0 0 M [] 65 []) : ∀ (n : Nat) (x5 : Int32), lp_X2_isWord_28 j65 fu M a0 a1 n x5 = some y → gz_go C 0 0 M [(0, .ref a0), (1, .ref (C.2.2.2.2.2.2.2 a1)), (2, .int x5)] 28 [] := by
  intro n
  induction n with
  | zero => intro x5 hF; exact nomatch (show (none : Option (Int32)) = some y from hF)
  | succ n28 ih28 =>
    intro x5 hF
    rw [lp_X2_isWord_28.eq_2] at hF
    refine gz_iload_n 28 hC 2 dX2_isWord_28 rfl rfl ?_
    refine gz_aload_n 29 hC 1 dX2_isWord_29 rfl rfl ?_
    refine gz_sl_row 30 hC hX q_603 ⟨Nat.le_of_ble_eq_true rfl, Nat.le_of_ble_eq_true rfl⟩ (Nat.le_of_ble_eq_true rfl) dX2_isWord_30 gz_00 hF (fun x6 hF => ?_)
    refine gz_icmp_ge 33 65 hC dX2_isWord_33 (by decide) hF (fun hF => ?_) (fun hF => ?_)
    · skip
      refine gz_sub [] [] rfl ?_
      exact hj65 hF
    · skip
      refine gz_aload_n 36 hC 0 dX2_isWord_36 rfl rfl ?_
      refine gz_getR 37 hC fl_X2_24 fk_2_0 dX2_isWord_37 hF (fun x7 hF => ?_)
      refine gz_aload_n 40 hC 0 dX2_isWord_40 rfl rfl ?_
      refine gz_getI 41 hC fl_X2_15 fk_2_2 dX2_isWord_41 hF (fun x8 hF => ?_)
      refine gz_iload_n 44 hC 2 dX2_isWord_44 rfl rfl ?_
      refine gz_iadd 45 hC dX2_isWord_45 ?_
      refine gz_cvP (st := []) 46 hC hX [.int (x8 + x5)] Value.int yl_X6_at yv_X6_at q_587 ⟨Nat.le_of_ble_eq_true rfl, Nat.le_of_ble_eq_true rfl⟩ ⟨_, rfl⟩ (fun r h => ct_X6_at _ _ fu M x7 (x8 + x5) r h) rfl rfl (Nat.le_of_ble_eq_true rfl) dX2_isWord_46 gz_00 hF (fun x9 hF => ?_)
      refine gz_aload_n 49 hC 1 dX2_isWord_49 rfl rfl ?_
      refine gz_iload_n 50 hC 2 dX2_isWord_50 rfl rfl ?_
      refine gz_sc_row 51 hC hX q_613 ⟨Nat.le_of_ble_eq_true rfl, Nat.le_of_ble_eq_true rfl⟩ (Nat.le_of_ble_eq_true rfl) dX2_isWord_51 gz_00 hF (fun x10 hF => ?_)
      refine gz_icmp_eq 54 59 hC dX2_isWord_54 (by decide) hF (fun hF => ?_) (fun hF => ?_)
      · skip
        refine gz_iinc 59 hC (x5 + (1 : Int32)) 2 [(2, .int (x5 + (1 : Int32))), (0, .ref a0), (1, .ref (C.2.2.2.2.2.2.2 a1))] dX2_isWord_59 rfl rfl (by decide) rfl ?_
        refine gz_goto 62 28 hC dX2_isWord_62 (by decide) ?_
        refine gz_sub [1, 2, 0] [(0, .ref a0), (1, .ref (C.2.2.2.2.2.2.2 a1)), (2, .int (x5 + (1 : Int32)))] rfl ?_
        exact ih28 _ hF
      · skip
        refine gz_iconst 57 hC (0 : Int32) dX2_isWord_57 gz_k0 ?_
        exact gz_zretP 58 hC hX dX2_isWord_58 hF
set_option maxHeartbeats 4000000 in
theorem ct_X2_isWord (l : Launch) (G : gz_G) (fu : Nat) (M : gz_M) (a0 : Nat) (a1 : Nat) (y : Int32) (hF : f_X2_isWord fu M a0 a1 = some y) : gz_ct l yX2_isWord cX2_isWord 3 (some .boolean) 4 85 0 0 G [.ref a0, .ref (G.2.2.2.2 a1)] M (some (.int y)) M := by
  refine gz_ct.ofG (by decide) (Nat.le_of_ble_eq_true rfl) (fun C hG hC hX => ?_)
  subst hG
  unfold f_X2_isWord at hF
  obtain ⟨-, hF⟩ := gz_gd_some hF
  show gz_go C 0 0 M [(0, .ref a0), (1, .ref (C.2.2.2.2.2.2.2 a1))] 0 []
  refine gz_aload_n 0 hC 0 dX2_isWord_0 rfl rfl ?_
  refine gz_getI 1 hC fl_X2_11 fk_2_1 dX2_isWord_1 hF (fun x1 hF => ?_)
  refine gz_iconst 4 hC (1 : Int32) dX2_isWord_4 gz_k1 ?_
  refine gz_join (fun (j : Option (Int32)) => j = some y → gz_go C 0 0 M [] 24 []) hF (fun hF => ?_) (fun j24 hj24 hF => ?_)
  · skip
    refine gz_iconst 24 hC (0 : Int32) dX2_isWord_24 gz_k0 ?_
    exact gz_zretP 25 hC hX dX2_isWord_25 hF
  refine gz_icmp_ne 5 24 hC dX2_isWord_5 (by decide) hF (fun hF => ?_) (fun hF => ?_)
  · skip
    refine gz_sub [] [] rfl ?_
    exact hj24 hF
  · skip
    refine gz_aload_n 8 hC 0 dX2_isWord_8 rfl rfl ?_
    refine gz_getI 9 hC fl_X2_18 fk_2_3 dX2_isWord_9 hF (fun x2 hF => ?_)
    refine gz_aload_n 12 hC 0 dX2_isWord_12 rfl rfl ?_
    refine gz_getI 13 hC fl_X2_15 fk_2_2 dX2_isWord_13 hF (fun x3 hF => ?_)
    refine gz_isub 16 hC dX2_isWord_16 ?_
    refine gz_aload_n 17 hC 1 dX2_isWord_17 rfl rfl ?_
    refine gz_sl_row 18 hC hX q_603 ⟨Nat.le_of_ble_eq_true rfl, Nat.le_of_ble_eq_true rfl⟩ (Nat.le_of_ble_eq_true rfl) dX2_isWord_18 gz_00 hF (fun x4 hF => ?_)
    refine gz_icmp_eq 21 26 hC dX2_isWord_21 (by decide) hF (fun hF => ?_) (fun hF => ?_)
    · skip
      refine gz_iconst 26 hC (0 : Int32) dX2_isWord_26 gz_k0 ?_
      refine gz_istore_n 27 hC [(2, .int (0 : Int32)), (0, .ref a0), (1, .ref (C.2.2.2.2.2.2.2 a1))] dX2_isWord_27 rfl (by decide) rfl ?_
      refine gz_sub [1, 2, 0] [(0, .ref a0), (1, .ref (C.2.2.2.2.2.2.2 a1)), (2, .int (0 : Int32))] rfl ?_
      refine w_X2_isWord_28 hC hX ?_ _ _ hF
      intro hF
      refine gz_iconst 65 hC (1 : Int32) dX2_isWord_65 gz_k1 ?_
      exact gz_zretP 66 hC hX dX2_isWord_66 hF
    · skip
      refine gz_sub [] [] rfl ?_
      exact hj24 hF

theorem dX2_fail_0 : decode cX2_fail 0 = .ok (.aload_n 0, 1) := by decide +kernel
theorem dX2_fail_1 : decode cX2_fail 1 = .ok (.getfield 21, 3) := by decide +kernel
theorem dX2_fail_4 : decode cX2_fail 4 = .ok (.iconst (-1), 1) := by decide +kernel
theorem dX2_fail_5 : decode cX2_fail 5 = .ok (.if_icmp .ne 11, 3) := by decide +kernel
theorem dX2_fail_8 : decode cX2_fail 8 = .ok (.aload_n 0, 1) := by decide +kernel
theorem dX2_fail_9 : decode cX2_fail 9 = .ok (.aload_n 0, 1) := by decide +kernel
theorem dX2_fail_10 : decode cX2_fail 10 = .ok (.getfield 15, 3) := by decide +kernel
theorem dX2_fail_13 : decode cX2_fail 13 = .ok (.putfield 21, 3) := by decide +kernel
theorem dX2_fail_16 : decode cX2_fail 16 = .ok (.return_, 1) := by decide +kernel

def f_X2_fail (fu : Nat) (M : gz_M) (a0 : Nat) : Option (gz_M) :=
  gz_gd M 2 a0 <|
  (gz_gI M 2 4 a0).bind fun x1 =>
  gz_jn (fun (M4 : gz_M) =>
  some M4) fun j16 =>
  if x1 = (-1 : Int32) then
    (gz_gI M 2 2 a0).bind fun x2 =>
    (gz_pI M 2 4 a0 x2).bind fun M3 =>
    j16 M3
  else
    j16 M

set_option maxHeartbeats 4000000 in
theorem ct_X2_fail (l : Launch) (G : gz_G) (fu : Nat) (M : gz_M) (a0 : Nat) (y : gz_M) (hF : f_X2_fail fu M a0 = some y) : gz_ct l yX2_fail cX2_fail 1 none 0 0 0 0 G [.ref a0] M none y := by
  refine gz_ct.of (by decide) (Nat.le_of_ble_eq_true rfl) (fun C hC hX => ?_)
  unfold f_X2_fail at hF
  obtain ⟨-, hF⟩ := gz_gd_some hF
  show gz_go C 0 0 M [(0, .ref a0)] 0 []
  refine gz_aload_n 0 hC 0 dX2_fail_0 rfl rfl ?_
  refine gz_getI 1 hC fl_X2_21 fk_2_4 dX2_fail_1 hF (fun x1 hF => ?_)
  refine gz_iconst 4 hC (-1 : Int32) dX2_fail_4 gz_km1 ?_
  refine gz_join (fun (j : gz_M → Option (gz_M)) => ∀ (M4 : gz_M), j M4 = some y → gz_go C 0 0 M4 [] 16 []) hF (fun M4 hF => ?_) (fun j16 hj16 hF => ?_)
  · skip
    exact gz_vretM 16 hC hX dX2_fail_16 hF
  refine gz_icmp_ne 5 16 hC dX2_fail_5 (by decide) hF (fun hF => ?_) (fun hF => ?_)
  · skip
    refine gz_sub [] [] rfl ?_
    exact hj16 _ hF
  · skip
    refine gz_aload_n 8 hC 0 dX2_fail_8 rfl rfl ?_
    refine gz_aload_n 9 hC 0 dX2_fail_9 rfl rfl ?_
    refine gz_getI 10 hC fl_X2_15 fk_2_2 dX2_fail_10 hF (fun x2 hF => ?_)
    refine gz_putI 13 hC fl_X2_21 fk_2_4 dX2_fail_13 hF (fun M3 hF => ?_)
    refine gz_sub [] [] rfl ?_
    exact hj16 _ hF

theorem dX2_number_0 : decode cX2_number 0 = .ok (.aload_n 0, 1) := by decide +kernel
theorem dX2_number_1 : decode cX2_number 1 = .ok (.getfield 21, 3) := by decide +kernel
theorem dX2_number_4 : decode cX2_number 4 = .ok (.iconst (-1), 1) := by decide +kernel
theorem dX2_number_5 : decode cX2_number 5 = .ok (.if_icmp .eq 5, 3) := by decide +kernel
theorem dX2_number_8 : decode cX2_number 8 = .ok (.iload_n 1, 1) := by decide +kernel
theorem dX2_number_9 : decode cX2_number 9 = .ok (.ireturn, 1) := by decide +kernel
theorem dX2_number_10 : decode cX2_number 10 = .ok (.aload_n 0, 1) := by decide +kernel
theorem dX2_number_11 : decode cX2_number 11 = .ok (.getfield 11, 3) := by decide +kernel
theorem dX2_number_14 : decode cX2_number 14 = .ok (.iconst 2, 1) := by decide +kernel
theorem dX2_number_15 : decode cX2_number 15 = .ok (.if_icmp .ne 16, 3) := by decide +kernel
theorem dX2_number_18 : decode cX2_number 18 = .ok (.aload_n 0, 1) := by decide +kernel
theorem dX2_number_19 : decode cX2_number 19 = .ok (.getfield 18, 3) := by decide +kernel
theorem dX2_number_22 : decode cX2_number 22 = .ok (.aload_n 0, 1) := by decide +kernel
theorem dX2_number_23 : decode cX2_number 23 = .ok (.getfield 15, 3) := by decide +kernel
theorem dX2_number_26 : decode cX2_number 26 = .ok (.isub, 1) := by decide +kernel
theorem dX2_number_27 : decode cX2_number 27 = .ok (.iconst 2, 1) := by decide +kernel
theorem dX2_number_28 : decode cX2_number 28 = .ok (.if_icmp .le 9, 3) := by decide +kernel
theorem dX2_number_31 : decode cX2_number 31 = .ok (.aload_n 0, 1) := by decide +kernel
theorem dX2_number_32 : decode cX2_number 32 = .ok (.invokevirtual 40, 3) := by decide +kernel
theorem dX2_number_35 : decode cX2_number 35 = .ok (.iload_n 1, 1) := by decide +kernel
theorem dX2_number_36 : decode cX2_number 36 = .ok (.ireturn, 1) := by decide +kernel
theorem dX2_number_37 : decode cX2_number 37 = .ok (.iconst 0, 1) := by decide +kernel
theorem dX2_number_38 : decode cX2_number 38 = .ok (.istore_n 3, 1) := by decide +kernel
theorem dX2_number_39 : decode cX2_number 39 = .ok (.aload_n 0, 1) := by decide +kernel
theorem dX2_number_40 : decode cX2_number 40 = .ok (.getfield 15, 3) := by decide +kernel
theorem dX2_number_43 : decode cX2_number 43 = .ok (.istore 4, 2) := by decide +kernel
theorem dX2_number_45 : decode cX2_number 45 = .ok (.iload 4, 2) := by decide +kernel
theorem dX2_number_47 : decode cX2_number 47 = .ok (.aload_n 0, 1) := by decide +kernel
theorem dX2_number_48 : decode cX2_number 48 = .ok (.getfield 18, 3) := by decide +kernel
theorem dX2_number_51 : decode cX2_number 51 = .ok (.if_icmp .ge 27, 3) := by decide +kernel
theorem dX2_number_54 : decode cX2_number 54 = .ok (.iload_n 3, 1) := by decide +kernel
theorem dX2_number_55 : decode cX2_number 55 = .ok (.bipush 10, 2) := by decide +kernel
theorem dX2_number_57 : decode cX2_number 57 = .ok (.imul, 1) := by decide +kernel
theorem dX2_number_58 : decode cX2_number 58 = .ok (.aload_n 0, 1) := by decide +kernel
theorem dX2_number_59 : decode cX2_number 59 = .ok (.getfield 24, 3) := by decide +kernel
theorem dX2_number_62 : decode cX2_number 62 = .ok (.iload 4, 2) := by decide +kernel
theorem dX2_number_64 : decode cX2_number 64 = .ok (.invokevirtual 48, 3) := by decide +kernel
theorem dX2_number_67 : decode cX2_number 67 = .ok (.bipush 48, 2) := by decide +kernel
theorem dX2_number_69 : decode cX2_number 69 = .ok (.isub, 1) := by decide +kernel
theorem dX2_number_70 : decode cX2_number 70 = .ok (.iadd, 1) := by decide +kernel
theorem dX2_number_71 : decode cX2_number 71 = .ok (.istore_n 3, 1) := by decide +kernel
theorem dX2_number_72 : decode cX2_number 72 = .ok (.iinc 4 1, 3) := by decide +kernel
theorem dX2_number_75 : decode cX2_number 75 = .ok (.goto (-30), 3) := by decide +kernel
theorem dX2_number_78 : decode cX2_number 78 = .ok (.iload_n 3, 1) := by decide +kernel
theorem dX2_number_79 : decode cX2_number 79 = .ok (.iload_n 1, 1) := by decide +kernel
theorem dX2_number_80 : decode cX2_number 80 = .ok (.if_icmp .lt 8, 3) := by decide +kernel
theorem dX2_number_83 : decode cX2_number 83 = .ok (.iload_n 3, 1) := by decide +kernel
theorem dX2_number_84 : decode cX2_number 84 = .ok (.iload_n 2, 1) := by decide +kernel
theorem dX2_number_85 : decode cX2_number 85 = .ok (.if_icmp .le 9, 3) := by decide +kernel
theorem dX2_number_88 : decode cX2_number 88 = .ok (.aload_n 0, 1) := by decide +kernel
theorem dX2_number_89 : decode cX2_number 89 = .ok (.invokevirtual 40, 3) := by decide +kernel
theorem dX2_number_92 : decode cX2_number 92 = .ok (.iload_n 1, 1) := by decide +kernel
theorem dX2_number_93 : decode cX2_number 93 = .ok (.ireturn, 1) := by decide +kernel
theorem dX2_number_94 : decode cX2_number 94 = .ok (.aload_n 0, 1) := by decide +kernel
theorem dX2_number_95 : decode cX2_number 95 = .ok (.invokevirtual 33, 3) := by decide +kernel
theorem dX2_number_98 : decode cX2_number 98 = .ok (.iload_n 3, 1) := by decide +kernel
theorem dX2_number_99 : decode cX2_number 99 = .ok (.ireturn, 1) := by decide +kernel
def lp_X2_number_45 (j78 : Int32 → Option (Int32 × gz_M)) (fu : Nat) (M : gz_M) (a0 : Nat) : Nat → Int32 → Int32 → Option (Int32 × gz_M)
  | 0, _, _ => none
  | n45 + 1, x6, x7 =>
    (gz_gI M 2 3 a0).bind fun x8 =>
    if x8 ≤ x7 then
      j78 x6
    else
      (gz_gR M 2 0 a0).bind fun x9 =>
      (f_X6_at fu M x9 x7).bind fun x10 =>
      lp_X2_number_45 j78 fu M a0 n45 ((x6 * (10 : Int32)) + (x10 - (48 : Int32))) (x7 + (1 : Int32))
def f_X2_number (fu : Nat) (M : gz_M) (a0 : Nat) (a1 : Int32) (a2 : Int32) : Option (Int32 × gz_M) :=
  gz_gd M 2 a0 <|
  (gz_gI M 2 4 a0).bind fun x1 =>
  if x1 = (-1 : Int32) then
    (gz_gI M 2 1 a0).bind fun x2 =>
    gz_jn ((f_X2_fail fu M a0).bind fun M14 =>
      some (a1, M14)) fun j31 =>
    if x2 = (2 : Int32) then
      (gz_gI M 2 3 a0).bind fun x3 =>
      (gz_gI M 2 2 a0).bind fun x4 =>
      if (x3 - x4) ≤ (2 : Int32) then
        (gz_gI M 2 2 a0).bind fun x5 =>
        lp_X2_number_45 (fun (x11 : Int32) => gz_jn ((f_X2_fail fu M a0).bind fun M13 =>
            some (a1, M13)) fun j88 =>
          if x11 < a1 then
            j88
          else
            if x11 ≤ a2 then
              (f_X2_next fu M a0).bind fun M12 =>
              some (x11, M12)
            else
              j88) fu M a0 fu (0 : Int32) x5
      else
        j31
    else
      j31
  else
    some (a1, M)
set_option maxHeartbeats 4000000 in
theorem w_X2_number_45 {C : gz_C} {y : Int32 × gz_M} {fu : Nat} {M : gz_M} {a0 : Nat} {a1 : Int32} {a2 : Int32} {j78 : Int32 → Option (Int32 × gz_M)} (hC : gz_ok C cX2_number RX2 5) (hX : gz_cx C 2 41 0 0 (some .int) (some (.int y.1)) y.2 "number") (hj78 : ∀ (x11 : Int32), j78 x11 = some y → gz_go C 0 0 M [(0, .ref a0), (1, .int a1), (2, .int a2), (3, .int x11)] 78 []) : ∀ (n : Nat) (x6 : Int32) (x7 : Int32), lp_X2_number_45 j78 fu M a0 n x6 x7 = some y → gz_go C 0 0 M [(0, .ref a0), (1, .int a1), (2, .int a2), (3, .int x6), (4, .int x7)] 45 [] := by
  intro n
  induction n with
  | zero => intro x6 x7 hF; exact nomatch (show (none : Option (Int32 × gz_M)) = some y from hF)
  | succ n45 ih45 =>
    intro x6 x7 hF
    rw [lp_X2_number_45.eq_2] at hF
    refine gz_iload 45 hC 4 dX2_number_45 rfl ?_
    refine gz_aload_n 47 hC 0 dX2_number_47 rfl rfl ?_
    refine gz_getI 48 hC fl_X2_18 fk_2_3 dX2_number_48 hF (fun x8 hF => ?_)
    refine gz_icmp_ge 51 78 hC dX2_number_51 (by decide) hF (fun hF => ?_) (fun hF => ?_)
    · skip
      refine gz_sub [0, 1, 2, 3] [(0, .ref a0), (1, .int a1), (2, .int a2), (3, .int x6)] rfl ?_
      exact hj78 _ hF
    · skip
      refine gz_iload_n 54 hC 3 dX2_number_54 rfl rfl ?_
      refine gz_bipush 55 hC (10 : Int32) dX2_number_55 gz_b10 ?_
      refine gz_imul 57 hC dX2_number_57 ?_
      refine gz_aload_n 58 hC 0 dX2_number_58 rfl rfl ?_
      refine gz_getR 59 hC fl_X2_24 fk_2_0 dX2_number_59 hF (fun x9 hF => ?_)
      refine gz_iload 62 hC 4 dX2_number_62 rfl ?_
      refine gz_cvP (st := [.int (x6 * (10 : Int32))]) 64 hC hX [.int x7] Value.int yl_X6_at yv_X6_at q_587 ⟨Nat.le_of_ble_eq_true rfl, Nat.le_of_ble_eq_true rfl⟩ ⟨_, rfl⟩ (fun r h => ct_X6_at _ _ fu M x9 x7 r h) rfl rfl (Nat.le_of_ble_eq_true rfl) dX2_number_64 gz_00 hF (fun x10 hF => ?_)
      refine gz_bipush 67 hC (48 : Int32) dX2_number_67 gz_b48 ?_
      refine gz_isub 69 hC dX2_number_69 ?_
      refine gz_iadd 70 hC dX2_number_70 ?_
      refine gz_istore_n 71 hC [(3, .int ((x6 * (10 : Int32)) + (x10 - (48 : Int32)))), (0, .ref a0), (1, .int a1), (2, .int a2), (4, .int x7)] dX2_number_71 rfl (by decide) rfl ?_
      refine gz_iinc 72 hC (x7 + (1 : Int32)) 4 [(4, .int (x7 + (1 : Int32))), (3, .int ((x6 * (10 : Int32)) + (x10 - (48 : Int32)))), (0, .ref a0), (1, .int a1), (2, .int a2)] dX2_number_72 rfl rfl (by decide) rfl ?_
      refine gz_goto 75 45 hC dX2_number_75 (by decide) ?_
      refine gz_sub [2, 3, 4, 1, 0] [(0, .ref a0), (1, .int a1), (2, .int a2), (3, .int ((x6 * (10 : Int32)) + (x10 - (48 : Int32)))), (4, .int (x7 + (1 : Int32)))] rfl ?_
      exact ih45 _ _ hF
set_option maxHeartbeats 4000000 in
theorem ct_X2_number (l : Launch) (G : gz_G) (fu : Nat) (M : gz_M) (a0 : Nat) (a1 : Int32) (a2 : Int32) (y : Int32 × gz_M) (hF : f_X2_number fu M a0 a1 a2 = some y) : gz_ct l yX2_number cX2_number 5 (some .int) 2 41 0 0 G [.ref a0, .int a1, .int a2] M (some (.int y.1)) y.2 := by
  refine gz_ct.of (by decide) (Nat.le_of_ble_eq_true rfl) (fun C hC hX => ?_)
  unfold f_X2_number at hF
  obtain ⟨-, hF⟩ := gz_gd_some hF
  show gz_go C 0 0 M [(0, .ref a0), (1, .int a1), (2, .int a2)] 0 []
  refine gz_aload_n 0 hC 0 dX2_number_0 rfl rfl ?_
  refine gz_getI 1 hC fl_X2_21 fk_2_4 dX2_number_1 hF (fun x1 hF => ?_)
  refine gz_iconst 4 hC (-1 : Int32) dX2_number_4 gz_km1 ?_
  refine gz_icmp_eq 5 10 hC dX2_number_5 (by decide) hF (fun hF => ?_) (fun hF => ?_)
  · skip
    refine gz_aload_n 10 hC 0 dX2_number_10 rfl rfl ?_
    refine gz_getI 11 hC fl_X2_11 fk_2_1 dX2_number_11 hF (fun x2 hF => ?_)
    refine gz_iconst 14 hC (2 : Int32) dX2_number_14 gz_k2 ?_
    refine gz_join (fun (j : Option (Int32 × gz_M)) => j = some y → gz_go C 0 0 M [(0, .ref a0), (1, .int a1)] 31 []) hF (fun hF => ?_) (fun j31 hj31 hF => ?_)
    · skip
      refine gz_aload_n 31 hC 0 dX2_number_31 rfl rfl ?_
      refine gz_cvV (st := []) 32 hC hX [] yl_X2_fail yv_X2_fail q_655 ⟨Nat.le_of_ble_eq_true rfl, Nat.le_of_ble_eq_true rfl⟩ ⟨_, rfl⟩ (fun r h => ct_X2_fail _ _ fu M a0 r h) rfl rfl (Nat.le_of_ble_eq_true rfl) dX2_number_32 gz_00 hF (fun M14 hF => ?_)
      refine gz_iload_n 35 hC 1 dX2_number_35 rfl rfl ?_
      exact gz_iretM 36 hC hX dX2_number_36 hF
    refine gz_icmp_ne 15 31 hC dX2_number_15 (by decide) hF (fun hF => ?_) (fun hF => ?_)
    · skip
      refine gz_sub [0, 1] [(0, .ref a0), (1, .int a1)] rfl ?_
      exact hj31 hF
    · skip
      refine gz_aload_n 18 hC 0 dX2_number_18 rfl rfl ?_
      refine gz_getI 19 hC fl_X2_18 fk_2_3 dX2_number_19 hF (fun x3 hF => ?_)
      refine gz_aload_n 22 hC 0 dX2_number_22 rfl rfl ?_
      refine gz_getI 23 hC fl_X2_15 fk_2_2 dX2_number_23 hF (fun x4 hF => ?_)
      refine gz_isub 26 hC dX2_number_26 ?_
      refine gz_iconst 27 hC (2 : Int32) dX2_number_27 gz_k2 ?_
      refine gz_icmp_le 28 37 hC dX2_number_28 (by decide) hF (fun hF => ?_) (fun hF => ?_)
      · skip
        refine gz_iconst 37 hC (0 : Int32) dX2_number_37 gz_k0 ?_
        refine gz_istore_n 38 hC [(3, .int (0 : Int32)), (0, .ref a0), (1, .int a1), (2, .int a2)] dX2_number_38 rfl (by decide) rfl ?_
        refine gz_aload_n 39 hC 1 dX2_number_39 rfl rfl ?_
        refine gz_getI 40 hC fl_X2_15 fk_2_2 dX2_number_40 hF (fun x5 hF => ?_)
        refine gz_istore 43 hC [(4, .int x5), (3, .int (0 : Int32)), (0, .ref a0), (1, .int a1), (2, .int a2)] dX2_number_43 (by decide) rfl ?_
        refine gz_sub [2, 3, 4, 1, 0] [(0, .ref a0), (1, .int a1), (2, .int a2), (3, .int (0 : Int32)), (4, .int x5)] rfl ?_
        refine w_X2_number_45 hC hX ?_ _ _ _ hF
        intro x11 hF
        refine gz_iload_n 78 hC 3 dX2_number_78 rfl rfl ?_
        refine gz_iload_n 79 hC 1 dX2_number_79 rfl rfl ?_
        refine gz_join (fun (j : Option (Int32 × gz_M)) => j = some y → gz_go C 0 0 M [(0, .ref a0), (1, .int a1)] 88 []) hF (fun hF => ?_) (fun j88 hj88 hF => ?_)
        · skip
          refine gz_aload_n 88 hC 0 dX2_number_88 rfl rfl ?_
          refine gz_cvV (st := []) 89 hC hX [] yl_X2_fail yv_X2_fail q_655 ⟨Nat.le_of_ble_eq_true rfl, Nat.le_of_ble_eq_true rfl⟩ ⟨_, rfl⟩ (fun r h => ct_X2_fail _ _ fu M a0 r h) rfl rfl (Nat.le_of_ble_eq_true rfl) dX2_number_89 gz_00 hF (fun M13 hF => ?_)
          refine gz_iload_n 92 hC 1 dX2_number_92 rfl rfl ?_
          exact gz_iretM 93 hC hX dX2_number_93 hF
        refine gz_icmp_lt 80 88 hC dX2_number_80 (by decide) hF (fun hF => ?_) (fun hF => ?_)
        · skip
          refine gz_sub [0, 1] [(0, .ref a0), (1, .int a1)] rfl ?_
          exact hj88 hF
        · skip
          refine gz_iload_n 83 hC 3 dX2_number_83 rfl rfl ?_
          refine gz_iload_n 84 hC 2 dX2_number_84 rfl rfl ?_
          refine gz_icmp_le 85 94 hC dX2_number_85 (by decide) hF (fun hF => ?_) (fun hF => ?_)
          · skip
            refine gz_aload_n 94 hC 0 dX2_number_94 rfl rfl ?_
            refine gz_cvV (st := []) 95 hC hX [] yl_X2_next yv_X2_next q_583 ⟨Nat.le_of_ble_eq_true rfl, Nat.le_of_ble_eq_true rfl⟩ ⟨_, rfl⟩ (fun r h => ct_X2_next _ _ fu M a0 r h) rfl rfl (Nat.le_of_ble_eq_true rfl) dX2_number_95 gz_00 hF (fun M12 hF => ?_)
            refine gz_iload_n 98 hC 3 dX2_number_98 rfl rfl ?_
            exact gz_iretM 99 hC hX dX2_number_99 hF
          · skip
            refine gz_sub [0, 1] [(0, .ref a0), (1, .int a1)] rfl ?_
            exact hj88 hF
      · skip
        refine gz_sub [0, 1] [(0, .ref a0), (1, .int a1)] rfl ?_
        exact hj31 hF
  · skip
    refine gz_iload_n 8 hC 1 dX2_number_8 rfl rfl ?_
    exact gz_iretM 9 hC hX dX2_number_9 hF

theorem dX7_putFootPart_0 : decode cX7_putFootPart 0 = .ok (.aload_n 0, 1) := by decide +kernel
theorem dX7_putFootPart_1 : decode cX7_putFootPart 1 = .ok (.getfield 9, 3) := by decide +kernel
theorem dX7_putFootPart_4 : decode cX7_putFootPart 4 = .ok (.iload_n 1, 1) := by decide +kernel
theorem dX7_putFootPart_5 : decode cX7_putFootPart 5 = .ok (.iconst 5, 1) := by decide +kernel
theorem dX7_putFootPart_6 : decode cX7_putFootPart 6 = .ok (.imul, 1) := by decide +kernel
theorem dX7_putFootPart_7 : decode cX7_putFootPart 7 = .ok (.iload_n 2, 1) := by decide +kernel
theorem dX7_putFootPart_8 : decode cX7_putFootPart 8 = .ok (.iadd, 1) := by decide +kernel
theorem dX7_putFootPart_9 : decode cX7_putFootPart 9 = .ok (.iload_n 3, 1) := by decide +kernel
theorem dX7_putFootPart_10 : decode cX7_putFootPart 10 = .ok (.iastore, 1) := by decide +kernel
theorem dX7_putFootPart_11 : decode cX7_putFootPart 11 = .ok (.return_, 1) := by decide +kernel

def f_X7_putFootPart (fu : Nat) (M : gz_M) (a0 : Nat) (a1 : Int32) (a2 : Int32) (a3 : Int32) : Option (gz_M) :=
  gz_gd M 7 a0 <|
  (gz_gR M 7 0 a0).bind fun x1 =>
  (gz_tI M x1 ((a1 * (5 : Int32)) + a2) a3).bind fun M2 =>
  some M2

set_option maxHeartbeats 4000000 in
theorem ct_X7_putFootPart (l : Launch) (G : gz_G) (fu : Nat) (M : gz_M) (a0 : Nat) (a1 : Int32) (a2 : Int32) (a3 : Int32) (y : gz_M) (hF : f_X7_putFootPart fu M a0 a1 a2 a3 = some y) : gz_ct l yX7_putFootPart cX7_putFootPart 4 none 0 0 0 0 G [.ref a0, .int a1, .int a2, .int a3] M none y := by
  refine gz_ct.of (by decide) (Nat.le_of_ble_eq_true rfl) (fun C hC hX => ?_)
  unfold f_X7_putFootPart at hF
  obtain ⟨-, hF⟩ := gz_gd_some hF
  show gz_go C 0 0 M [(0, .ref a0), (1, .int a1), (2, .int a2), (3, .int a3)] 0 []
  refine gz_aload_n 0 hC 0 dX7_putFootPart_0 rfl rfl ?_
  refine gz_getR 1 hC fl_X7_9 fk_7_0 dX7_putFootPart_1 hF (fun x1 hF => ?_)
  refine gz_iload_n 4 hC 1 dX7_putFootPart_4 rfl rfl ?_
  refine gz_iconst 5 hC (5 : Int32) dX7_putFootPart_5 gz_k5 ?_
  refine gz_imul 6 hC dX7_putFootPart_6 ?_
  refine gz_iload_n 7 hC 2 dX7_putFootPart_7 rfl rfl ?_
  refine gz_iadd 8 hC dX7_putFootPart_8 ?_
  refine gz_iload_n 9 hC 3 dX7_putFootPart_9 rfl rfl ?_
  refine gz_iast 10 hC dX7_putFootPart_10 hF (fun M2 hF => ?_)
  exact gz_vretM 11 hC hX dX7_putFootPart_11 hF

theorem dX7_addFoot_0 : decode cX7_addFoot 0 = .ok (.aload_n 0, 1) := by decide +kernel
theorem dX7_addFoot_1 : decode cX7_addFoot 1 = .ok (.getfield 24, 3) := by decide +kernel
theorem dX7_addFoot_4 : decode cX7_addFoot 4 = .ok (.istore 4, 2) := by decide +kernel
theorem dX7_addFoot_6 : decode cX7_addFoot 6 = .ok (.aload_n 0, 1) := by decide +kernel
theorem dX7_addFoot_7 : decode cX7_addFoot 7 = .ok (.dup, 1) := by decide +kernel
theorem dX7_addFoot_8 : decode cX7_addFoot 8 = .ok (.getfield 24, 3) := by decide +kernel
theorem dX7_addFoot_11 : decode cX7_addFoot 11 = .ok (.iconst 1, 1) := by decide +kernel
theorem dX7_addFoot_12 : decode cX7_addFoot 12 = .ok (.iadd, 1) := by decide +kernel
theorem dX7_addFoot_13 : decode cX7_addFoot 13 = .ok (.putfield 24, 3) := by decide +kernel
theorem dX7_addFoot_16 : decode cX7_addFoot 16 = .ok (.aload_n 0, 1) := by decide +kernel
theorem dX7_addFoot_17 : decode cX7_addFoot 17 = .ok (.iload 4, 2) := by decide +kernel
theorem dX7_addFoot_19 : decode cX7_addFoot 19 = .ok (.iconst 0, 1) := by decide +kernel
theorem dX7_addFoot_20 : decode cX7_addFoot 20 = .ok (.iload_n 1, 1) := by decide +kernel
theorem dX7_addFoot_21 : decode cX7_addFoot 21 = .ok (.invokevirtual 49, 3) := by decide +kernel
theorem dX7_addFoot_24 : decode cX7_addFoot 24 = .ok (.aload_n 0, 1) := by decide +kernel
theorem dX7_addFoot_25 : decode cX7_addFoot 25 = .ok (.iload 4, 2) := by decide +kernel
theorem dX7_addFoot_27 : decode cX7_addFoot 27 = .ok (.iconst 1, 1) := by decide +kernel
theorem dX7_addFoot_28 : decode cX7_addFoot 28 = .ok (.iload_n 2, 1) := by decide +kernel
theorem dX7_addFoot_29 : decode cX7_addFoot 29 = .ok (.invokevirtual 49, 3) := by decide +kernel
theorem dX7_addFoot_32 : decode cX7_addFoot 32 = .ok (.aload_n 0, 1) := by decide +kernel
theorem dX7_addFoot_33 : decode cX7_addFoot 33 = .ok (.iload 4, 2) := by decide +kernel
theorem dX7_addFoot_35 : decode cX7_addFoot 35 = .ok (.iconst 2, 1) := by decide +kernel
theorem dX7_addFoot_36 : decode cX7_addFoot 36 = .ok (.iload_n 3, 1) := by decide +kernel
theorem dX7_addFoot_37 : decode cX7_addFoot 37 = .ok (.invokevirtual 49, 3) := by decide +kernel
theorem dX7_addFoot_40 : decode cX7_addFoot 40 = .ok (.aload_n 0, 1) := by decide +kernel
theorem dX7_addFoot_41 : decode cX7_addFoot 41 = .ok (.iload 4, 2) := by decide +kernel
theorem dX7_addFoot_43 : decode cX7_addFoot 43 = .ok (.iconst 3, 1) := by decide +kernel
theorem dX7_addFoot_44 : decode cX7_addFoot 44 = .ok (.iconst 1, 1) := by decide +kernel
theorem dX7_addFoot_45 : decode cX7_addFoot 45 = .ok (.invokevirtual 49, 3) := by decide +kernel
theorem dX7_addFoot_48 : decode cX7_addFoot 48 = .ok (.aload_n 0, 1) := by decide +kernel
theorem dX7_addFoot_49 : decode cX7_addFoot 49 = .ok (.iload 4, 2) := by decide +kernel
theorem dX7_addFoot_51 : decode cX7_addFoot 51 = .ok (.iconst 4, 1) := by decide +kernel
theorem dX7_addFoot_52 : decode cX7_addFoot 52 = .ok (.iconst 0, 1) := by decide +kernel
theorem dX7_addFoot_53 : decode cX7_addFoot 53 = .ok (.invokevirtual 49, 3) := by decide +kernel
theorem dX7_addFoot_56 : decode cX7_addFoot 56 = .ok (.return_, 1) := by decide +kernel

def f_X7_addFoot (fu : Nat) (M : gz_M) (a0 : Nat) (a1 : Int32) (a2 : Int32) (a3 : Int32) : Option (gz_M) :=
  gz_gd M 7 a0 <|
  (gz_gI M 7 4 a0).bind fun x1 =>
  (gz_gI M 7 4 a0).bind fun x2 =>
  (gz_pI M 7 4 a0 (x2 + (1 : Int32))).bind fun M3 =>
  (f_X7_putFootPart fu M3 a0 x1 (0 : Int32) a1).bind fun M4 =>
  (f_X7_putFootPart fu M4 a0 x1 (1 : Int32) a2).bind fun M5 =>
  (f_X7_putFootPart fu M5 a0 x1 (2 : Int32) a3).bind fun M6 =>
  (f_X7_putFootPart fu M6 a0 x1 (3 : Int32) (1 : Int32)).bind fun M7 =>
  (f_X7_putFootPart fu M7 a0 x1 (4 : Int32) (0 : Int32)).bind fun M8 =>
  some M8

set_option maxHeartbeats 4000000 in
theorem ct_X7_addFoot (l : Launch) (G : gz_G) (fu : Nat) (M : gz_M) (a0 : Nat) (a1 : Int32) (a2 : Int32) (a3 : Int32) (y : gz_M) (hF : f_X7_addFoot fu M a0 a1 a2 a3 = some y) : gz_ct l yX7_addFoot cX7_addFoot 5 none 1 23 0 0 G [.ref a0, .int a1, .int a2, .int a3] M none y := by
  refine gz_ct.of (by decide) (Nat.le_of_ble_eq_true rfl) (fun C hC hX => ?_)
  unfold f_X7_addFoot at hF
  obtain ⟨-, hF⟩ := gz_gd_some hF
  show gz_go C 0 0 M [(0, .ref a0), (1, .int a1), (2, .int a2), (3, .int a3)] 0 []
  refine gz_aload_n 0 hC 0 dX7_addFoot_0 rfl rfl ?_
  refine gz_getI 1 hC fl_X7_24 fk_7_4 dX7_addFoot_1 hF (fun x1 hF => ?_)
  refine gz_istore 4 hC [(4, .int x1), (0, .ref a0), (1, .int a1), (2, .int a2), (3, .int a3)] dX7_addFoot_4 (by decide) rfl ?_
  refine gz_aload_n 6 hC 1 dX7_addFoot_6 rfl rfl ?_
  refine gz_dup 7 hC dX7_addFoot_7 rfl ?_
  refine gz_getI 8 hC fl_X7_24 fk_7_4 dX7_addFoot_8 hF (fun x2 hF => ?_)
  refine gz_iconst 11 hC (1 : Int32) dX7_addFoot_11 gz_k1 ?_
  refine gz_iadd 12 hC dX7_addFoot_12 ?_
  refine gz_putI 13 hC fl_X7_24 fk_7_4 dX7_addFoot_13 hF (fun M3 hF => ?_)
  refine gz_aload_n 16 hC 1 dX7_addFoot_16 rfl rfl ?_
  refine gz_iload 17 hC 0 dX7_addFoot_17 rfl ?_
  refine gz_iconst 19 hC (0 : Int32) dX7_addFoot_19 gz_k0 ?_
  refine gz_iload_n 20 hC 2 dX7_addFoot_20 rfl rfl ?_
  refine gz_cvV (st := []) 21 hC hX [.int x1, .int (0 : Int32), .int a1] yl_X7_putFootPart yv_X7_putFootPart q_667 ⟨Nat.le_of_ble_eq_true rfl, Nat.le_of_ble_eq_true rfl⟩ ⟨_, rfl⟩ (fun r h => ct_X7_putFootPart _ _ fu M3 a0 x1 (0 : Int32) a1 r h) rfl rfl (Nat.le_of_ble_eq_true rfl) dX7_addFoot_21 gz_00 hF (fun M4 hF => ?_)
  refine gz_aload_n 24 hC 1 dX7_addFoot_24 rfl rfl ?_
  refine gz_iload 25 hC 0 dX7_addFoot_25 rfl ?_
  refine gz_iconst 27 hC (1 : Int32) dX7_addFoot_27 gz_k1 ?_
  refine gz_iload_n 28 hC 3 dX7_addFoot_28 rfl rfl ?_
  refine gz_cvV (st := []) 29 hC hX [.int x1, .int (1 : Int32), .int a2] yl_X7_putFootPart yv_X7_putFootPart q_667 ⟨Nat.le_of_ble_eq_true rfl, Nat.le_of_ble_eq_true rfl⟩ ⟨_, rfl⟩ (fun r h => ct_X7_putFootPart _ _ fu M4 a0 x1 (1 : Int32) a2 r h) rfl rfl (Nat.le_of_ble_eq_true rfl) dX7_addFoot_29 gz_00 hF (fun M5 hF => ?_)
  refine gz_aload_n 32 hC 1 dX7_addFoot_32 rfl rfl ?_
  refine gz_iload 33 hC 0 dX7_addFoot_33 rfl ?_
  refine gz_iconst 35 hC (2 : Int32) dX7_addFoot_35 gz_k2 ?_
  refine gz_iload_n 36 hC 4 dX7_addFoot_36 rfl rfl ?_
  refine gz_cvV (st := []) 37 hC hX [.int x1, .int (2 : Int32), .int a3] yl_X7_putFootPart yv_X7_putFootPart q_667 ⟨Nat.le_of_ble_eq_true rfl, Nat.le_of_ble_eq_true rfl⟩ ⟨_, rfl⟩ (fun r h => ct_X7_putFootPart _ _ fu M5 a0 x1 (2 : Int32) a3 r h) rfl rfl (Nat.le_of_ble_eq_true rfl) dX7_addFoot_37 gz_00 hF (fun M6 hF => ?_)
  refine gz_aload_n 40 hC 1 dX7_addFoot_40 rfl rfl ?_
  refine gz_iload 41 hC 0 dX7_addFoot_41 rfl ?_
  refine gz_iconst 43 hC (3 : Int32) dX7_addFoot_43 gz_k3 ?_
  refine gz_iconst 44 hC (1 : Int32) dX7_addFoot_44 gz_k1 ?_
  refine gz_cvV (st := []) 45 hC hX [.int x1, .int (3 : Int32), .int (1 : Int32)] yl_X7_putFootPart yv_X7_putFootPart q_667 ⟨Nat.le_of_ble_eq_true rfl, Nat.le_of_ble_eq_true rfl⟩ ⟨_, rfl⟩ (fun r h => ct_X7_putFootPart _ _ fu M6 a0 x1 (3 : Int32) (1 : Int32) r h) rfl rfl (Nat.le_of_ble_eq_true rfl) dX7_addFoot_45 gz_00 hF (fun M7 hF => ?_)
  refine gz_aload_n 48 hC 1 dX7_addFoot_48 rfl rfl ?_
  refine gz_iload 49 hC 0 dX7_addFoot_49 rfl ?_
  refine gz_iconst 51 hC (4 : Int32) dX7_addFoot_51 gz_k4 ?_
  refine gz_iconst 52 hC (0 : Int32) dX7_addFoot_52 gz_k0 ?_
  refine gz_cvV (st := []) 53 hC hX [.int x1, .int (4 : Int32), .int (0 : Int32)] yl_X7_putFootPart yv_X7_putFootPart q_667 ⟨Nat.le_of_ble_eq_true rfl, Nat.le_of_ble_eq_true rfl⟩ ⟨_, rfl⟩ (fun r h => ct_X7_putFootPart _ _ fu M7 a0 x1 (4 : Int32) (0 : Int32) r h) rfl rfl (Nat.le_of_ble_eq_true rfl) dX7_addFoot_53 gz_00 hF (fun M8 hF => ?_)
  exact gz_vretM 56 hC hX dX7_addFoot_56 hF

theorem dX2_readFoot_0 : decode cX2_readFoot 0 = .ok (.aload_n 1, 1) := by decide +kernel
theorem dX2_readFoot_1 : decode cX2_readFoot 1 = .ok (.getfield 106, 3) := by decide +kernel
theorem dX2_readFoot_4 : decode cX2_readFoot 4 = .ok (.bipush 12, 2) := by decide +kernel
theorem dX2_readFoot_6 : decode cX2_readFoot 6 = .ok (.if_icmp .lt 8, 3) := by decide +kernel
theorem dX2_readFoot_9 : decode cX2_readFoot 9 = .ok (.aload_n 0, 1) := by decide +kernel
theorem dX2_readFoot_10 : decode cX2_readFoot 10 = .ok (.invokevirtual 40, 3) := by decide +kernel
theorem dX2_readFoot_13 : decode cX2_readFoot 13 = .ok (.return_, 1) := by decide +kernel
theorem dX2_readFoot_14 : decode cX2_readFoot 14 = .ok (.aload_n 0, 1) := by decide +kernel
theorem dX2_readFoot_15 : decode cX2_readFoot 15 = .ok (.invokevirtual 33, 3) := by decide +kernel
theorem dX2_readFoot_18 : decode cX2_readFoot 18 = .ok (.aload_n 0, 1) := by decide +kernel
theorem dX2_readFoot_19 : decode cX2_readFoot 19 = .ok (.iconst 0, 1) := by decide +kernel
theorem dX2_readFoot_20 : decode cX2_readFoot 20 = .ok (.bipush 30, 2) := by decide +kernel
theorem dX2_readFoot_22 : decode cX2_readFoot 22 = .ok (.invokevirtual 94, 3) := by decide +kernel
theorem dX2_readFoot_25 : decode cX2_readFoot 25 = .ok (.istore_n 2, 1) := by decide +kernel
theorem dX2_readFoot_26 : decode cX2_readFoot 26 = .ok (.aload_n 0, 1) := by decide +kernel
theorem dX2_readFoot_27 : decode cX2_readFoot 27 = .ok (.iconst 0, 1) := by decide +kernel
theorem dX2_readFoot_28 : decode cX2_readFoot 28 = .ok (.bipush 30, 2) := by decide +kernel
theorem dX2_readFoot_30 : decode cX2_readFoot 30 = .ok (.invokevirtual 94, 3) := by decide +kernel
theorem dX2_readFoot_33 : decode cX2_readFoot 33 = .ok (.istore_n 3, 1) := by decide +kernel
theorem dX2_readFoot_34 : decode cX2_readFoot 34 = .ok (.aload_n 0, 1) := by decide +kernel
theorem dX2_readFoot_35 : decode cX2_readFoot 35 = .ok (.iconst 0, 1) := by decide +kernel
theorem dX2_readFoot_36 : decode cX2_readFoot 36 = .ok (.bipush 30, 2) := by decide +kernel
theorem dX2_readFoot_38 : decode cX2_readFoot 38 = .ok (.invokevirtual 94, 3) := by decide +kernel
theorem dX2_readFoot_41 : decode cX2_readFoot 41 = .ok (.istore 4, 2) := by decide +kernel
theorem dX2_readFoot_43 : decode cX2_readFoot 43 = .ok (.aload_n 1, 1) := by decide +kernel
theorem dX2_readFoot_44 : decode cX2_readFoot 44 = .ok (.iload_n 2, 1) := by decide +kernel
theorem dX2_readFoot_45 : decode cX2_readFoot 45 = .ok (.iload_n 3, 1) := by decide +kernel
theorem dX2_readFoot_46 : decode cX2_readFoot 46 = .ok (.iload 4, 2) := by decide +kernel
theorem dX2_readFoot_48 : decode cX2_readFoot 48 = .ok (.invokevirtual 109, 3) := by decide +kernel
theorem dX2_readFoot_51 : decode cX2_readFoot 51 = .ok (.aload_n 1, 1) := by decide +kernel
theorem dX2_readFoot_52 : decode cX2_readFoot 52 = .ok (.getfield 106, 3) := by decide +kernel
theorem dX2_readFoot_55 : decode cX2_readFoot 55 = .ok (.iconst 1, 1) := by decide +kernel
theorem dX2_readFoot_56 : decode cX2_readFoot 56 = .ok (.isub, 1) := by decide +kernel
theorem dX2_readFoot_57 : decode cX2_readFoot 57 = .ok (.istore 5, 2) := by decide +kernel
theorem dX2_readFoot_59 : decode cX2_readFoot 59 = .ok (.aload_n 0, 1) := by decide +kernel
theorem dX2_readFoot_60 : decode cX2_readFoot 60 = .ok (.getfield 21, 3) := by decide +kernel
theorem dX2_readFoot_63 : decode cX2_readFoot 63 = .ok (.iconst (-1), 1) := by decide +kernel
theorem dX2_readFoot_64 : decode cX2_readFoot 64 = .ok (.if_icmp .ne 30, 3) := by decide +kernel
theorem dX2_readFoot_67 : decode cX2_readFoot 67 = .ok (.aload_n 0, 1) := by decide +kernel
theorem dX2_readFoot_68 : decode cX2_readFoot 68 = .ok (.ldc 113, 2) := by decide +kernel
theorem dX2_readFoot_70 : decode cX2_readFoot 70 = .ok (.invokevirtual 67, 3) := by decide +kernel
theorem dX2_readFoot_73 : decode cX2_readFoot 73 = .ok (.ifCond .eq 21, 3) := by decide +kernel
theorem dX2_readFoot_76 : decode cX2_readFoot 76 = .ok (.aload_n 0, 1) := by decide +kernel
theorem dX2_readFoot_77 : decode cX2_readFoot 77 = .ok (.invokevirtual 33, 3) := by decide +kernel
theorem dX2_readFoot_80 : decode cX2_readFoot 80 = .ok (.aload_n 1, 1) := by decide +kernel
theorem dX2_readFoot_81 : decode cX2_readFoot 81 = .ok (.iload 5, 2) := by decide +kernel
theorem dX2_readFoot_83 : decode cX2_readFoot 83 = .ok (.iconst 3, 1) := by decide +kernel
theorem dX2_readFoot_84 : decode cX2_readFoot 84 = .ok (.aload_n 0, 1) := by decide +kernel
theorem dX2_readFoot_85 : decode cX2_readFoot 85 = .ok (.iconst 1, 1) := by decide +kernel
theorem dX2_readFoot_86 : decode cX2_readFoot 86 = .ok (.bipush 99, 2) := by decide +kernel
theorem dX2_readFoot_88 : decode cX2_readFoot 88 = .ok (.invokevirtual 94, 3) := by decide +kernel
theorem dX2_readFoot_91 : decode cX2_readFoot 91 = .ok (.invokevirtual 115, 3) := by decide +kernel
theorem dX2_readFoot_94 : decode cX2_readFoot 94 = .ok (.aload_n 0, 1) := by decide +kernel
theorem dX2_readFoot_95 : decode cX2_readFoot 95 = .ok (.getfield 21, 3) := by decide +kernel
theorem dX2_readFoot_98 : decode cX2_readFoot 98 = .ok (.iconst (-1), 1) := by decide +kernel
theorem dX2_readFoot_99 : decode cX2_readFoot 99 = .ok (.if_icmp .ne 30, 3) := by decide +kernel
theorem dX2_readFoot_102 : decode cX2_readFoot 102 = .ok (.aload_n 0, 1) := by decide +kernel
theorem dX2_readFoot_103 : decode cX2_readFoot 103 = .ok (.ldc 118, 2) := by decide +kernel
theorem dX2_readFoot_105 : decode cX2_readFoot 105 = .ok (.invokevirtual 67, 3) := by decide +kernel
theorem dX2_readFoot_108 : decode cX2_readFoot 108 = .ok (.ifCond .eq 21, 3) := by decide +kernel
theorem dX2_readFoot_111 : decode cX2_readFoot 111 = .ok (.aload_n 0, 1) := by decide +kernel
theorem dX2_readFoot_112 : decode cX2_readFoot 112 = .ok (.invokevirtual 33, 3) := by decide +kernel
theorem dX2_readFoot_115 : decode cX2_readFoot 115 = .ok (.aload_n 1, 1) := by decide +kernel
theorem dX2_readFoot_116 : decode cX2_readFoot 116 = .ok (.iload 5, 2) := by decide +kernel
theorem dX2_readFoot_118 : decode cX2_readFoot 118 = .ok (.iconst 4, 1) := by decide +kernel
theorem dX2_readFoot_119 : decode cX2_readFoot 119 = .ok (.aload_n 0, 1) := by decide +kernel
theorem dX2_readFoot_120 : decode cX2_readFoot 120 = .ok (.iconst 0, 1) := by decide +kernel
theorem dX2_readFoot_121 : decode cX2_readFoot 121 = .ok (.bipush 9, 2) := by decide +kernel
theorem dX2_readFoot_123 : decode cX2_readFoot 123 = .ok (.invokevirtual 94, 3) := by decide +kernel
theorem dX2_readFoot_126 : decode cX2_readFoot 126 = .ok (.invokevirtual 115, 3) := by decide +kernel
theorem dX2_readFoot_129 : decode cX2_readFoot 129 = .ok (.return_, 1) := by decide +kernel

def f_X2_readFoot (fu : Nat) (M : gz_M) (a0 : Nat) (a1 : Nat) : Option (gz_M) :=
  gz_gd M 2 a0 <|
  (gz_gI M 7 4 a1).bind fun x1 =>
  if x1 < (12 : Int32) then
    (f_X2_next fu M a0).bind fun M3 =>
    gz_b2 (f_X2_number fu M3 a0 (0 : Int32) (30 : Int32)) fun x4 M5 =>
    gz_b2 (f_X2_number fu M5 a0 (0 : Int32) (30 : Int32)) fun x6 M7 =>
    gz_b2 (f_X2_number fu M7 a0 (0 : Int32) (30 : Int32)) fun x8 M9 =>
    (f_X7_addFoot fu M9 a1 x4 x6 x8).bind fun M10 =>
    (gz_gI M10 7 4 a1).bind fun x11 =>
    (gz_gI M10 2 4 a0).bind fun x12 =>
    gz_jn (fun (M18 : gz_M) =>
    (gz_gI M18 2 4 a0).bind fun x19 =>
      gz_jn (fun (M25 : gz_M) =>
      some M25) fun j129 =>
      if x19 = (-1 : Int32) then
        (f_X2_isWord fu M18 a0 2).bind fun x20 =>
        if x20 = 0 then
          j129 M18
        else
          (f_X2_next fu M18 a0).bind fun M21 =>
          gz_b2 (f_X2_number fu M21 a0 (0 : Int32) (9 : Int32)) fun x22 M23 =>
          (f_X7_putFootPart fu M23 a1 (x11 - (1 : Int32)) (4 : Int32) x22).bind fun M24 =>
          j129 M24
      else
        j129 M18) fun j94 =>
    if x12 = (-1 : Int32) then
      (f_X2_isWord fu M10 a0 1).bind fun x13 =>
      if x13 = 0 then
        j94 M10
      else
        (f_X2_next fu M10 a0).bind fun M14 =>
        gz_b2 (f_X2_number fu M14 a0 (1 : Int32) (99 : Int32)) fun x15 M16 =>
        (f_X7_putFootPart fu M16 a1 (x11 - (1 : Int32)) (3 : Int32) x15).bind fun M17 =>
        j94 M17
    else
      j94 M10
  else
    (f_X2_fail fu M a0).bind fun M2 =>
    some M2

set_option maxHeartbeats 4000000 in
theorem ct_X2_readFoot (l : Launch) (G : gz_G) (fu : Nat) (M : gz_M) (a0 : Nat) (a1 : Nat) (y : gz_M) (hF : f_X2_readFoot fu M a0 a1 = some y) : gz_ct l yX2_readFoot cX2_readFoot 6 none 5 107 0 0 G [.ref a0, .ref a1] M none y := by
  refine gz_ct.of (by decide) (Nat.le_of_ble_eq_true rfl) (fun C hC hX => ?_)
  unfold f_X2_readFoot at hF
  obtain ⟨-, hF⟩ := gz_gd_some hF
  show gz_go C 0 0 M [(0, .ref a0), (1, .ref a1)] 0 []
  refine gz_aload_n 0 hC 1 dX2_readFoot_0 rfl rfl ?_
  refine gz_getI 1 hC fl_X2_106 fk_7_4 dX2_readFoot_1 hF (fun x1 hF => ?_)
  refine gz_bipush 4 hC (12 : Int32) dX2_readFoot_4 gz_b12 ?_
  refine gz_icmp_lt 6 14 hC dX2_readFoot_6 (by decide) hF (fun hF => ?_) (fun hF => ?_)
  · skip
    refine gz_aload_n 14 hC 0 dX2_readFoot_14 rfl rfl ?_
    refine gz_cvV (st := []) 15 hC hX [] yl_X2_next yv_X2_next q_583 ⟨Nat.le_of_ble_eq_true rfl, Nat.le_of_ble_eq_true rfl⟩ ⟨_, rfl⟩ (fun r h => ct_X2_next _ _ fu M a0 r h) rfl rfl (Nat.le_of_ble_eq_true rfl) dX2_readFoot_15 gz_00 hF (fun M3 hF => ?_)
    refine gz_aload_n 18 hC 0 dX2_readFoot_18 rfl rfl ?_
    refine gz_iconst 19 hC (0 : Int32) dX2_readFoot_19 gz_k0 ?_
    refine gz_bipush 20 hC (30 : Int32) dX2_readFoot_20 gz_b30 ?_
    refine gz_cvM (st := []) 22 hC hX [.int (0 : Int32), .int (30 : Int32)] Value.int yl_X2_number yv_X2_number q_659 ⟨Nat.le_of_ble_eq_true rfl, Nat.le_of_ble_eq_true rfl⟩ ⟨_, rfl⟩ (fun r h => ct_X2_number _ _ fu M3 a0 (0 : Int32) (30 : Int32) r h) rfl rfl (Nat.le_of_ble_eq_true rfl) dX2_readFoot_22 gz_00 hF (fun x4 M5 hF => ?_)
    refine gz_istore_n 25 hC [(2, .int x4), (0, .ref a0), (1, .ref a1)] dX2_readFoot_25 rfl (by decide) rfl ?_
    refine gz_aload_n 26 hC 1 dX2_readFoot_26 rfl rfl ?_
    refine gz_iconst 27 hC (0 : Int32) dX2_readFoot_27 gz_k0 ?_
    refine gz_bipush 28 hC (30 : Int32) dX2_readFoot_28 gz_b30 ?_
    refine gz_cvM (st := []) 30 hC hX [.int (0 : Int32), .int (30 : Int32)] Value.int yl_X2_number yv_X2_number q_659 ⟨Nat.le_of_ble_eq_true rfl, Nat.le_of_ble_eq_true rfl⟩ ⟨_, rfl⟩ (fun r h => ct_X2_number _ _ fu M5 a0 (0 : Int32) (30 : Int32) r h) rfl rfl (Nat.le_of_ble_eq_true rfl) dX2_readFoot_30 gz_00 hF (fun x6 M7 hF => ?_)
    refine gz_istore_n 33 hC [(3, .int x6), (2, .int x4), (0, .ref a0), (1, .ref a1)] dX2_readFoot_33 rfl (by decide) rfl ?_
    refine gz_aload_n 34 hC 2 dX2_readFoot_34 rfl rfl ?_
    refine gz_iconst 35 hC (0 : Int32) dX2_readFoot_35 gz_k0 ?_
    refine gz_bipush 36 hC (30 : Int32) dX2_readFoot_36 gz_b30 ?_
    refine gz_cvM (st := []) 38 hC hX [.int (0 : Int32), .int (30 : Int32)] Value.int yl_X2_number yv_X2_number q_659 ⟨Nat.le_of_ble_eq_true rfl, Nat.le_of_ble_eq_true rfl⟩ ⟨_, rfl⟩ (fun r h => ct_X2_number _ _ fu M7 a0 (0 : Int32) (30 : Int32) r h) rfl rfl (Nat.le_of_ble_eq_true rfl) dX2_readFoot_38 gz_00 hF (fun x8 M9 hF => ?_)
    refine gz_istore 41 hC [(4, .int x8), (3, .int x6), (2, .int x4), (0, .ref a0), (1, .ref a1)] dX2_readFoot_41 (by decide) rfl ?_
    refine gz_aload_n 43 hC 4 dX2_readFoot_43 rfl rfl ?_
    refine gz_iload_n 44 hC 2 dX2_readFoot_44 rfl rfl ?_
    refine gz_iload_n 45 hC 1 dX2_readFoot_45 rfl rfl ?_
    refine gz_iload 46 hC 0 dX2_readFoot_46 rfl ?_
    refine gz_cvV (st := []) 48 hC hX [.int x4, .int x6, .int x8] yl_X7_addFoot yv_X7_addFoot q_663 ⟨Nat.le_of_ble_eq_true rfl, Nat.le_of_ble_eq_true rfl⟩ ⟨_, rfl⟩ (fun r h => ct_X7_addFoot _ _ fu M9 a1 x4 x6 x8 r h) rfl rfl (Nat.le_of_ble_eq_true rfl) dX2_readFoot_48 gz_00 hF (fun M10 hF => ?_)
    refine gz_aload_n 51 hC 4 dX2_readFoot_51 rfl rfl ?_
    refine gz_getI 52 hC fl_X2_106 fk_7_4 dX2_readFoot_52 hF (fun x11 hF => ?_)
    refine gz_iconst 55 hC (1 : Int32) dX2_readFoot_55 gz_k1 ?_
    refine gz_isub 56 hC dX2_readFoot_56 ?_
    refine gz_istore 57 hC [(5, .int (x11 - (1 : Int32))), (4, .int x8), (3, .int x6), (2, .int x4), (0, .ref a0), (1, .ref a1)] dX2_readFoot_57 (by decide) rfl ?_
    refine gz_aload_n 59 hC 4 dX2_readFoot_59 rfl rfl ?_
    refine gz_getI 60 hC fl_X2_21 fk_2_4 dX2_readFoot_60 hF (fun x12 hF => ?_)
    refine gz_iconst 63 hC (-1 : Int32) dX2_readFoot_63 gz_km1 ?_
    refine gz_join (fun (j : gz_M → Option (gz_M)) => ∀ (M18 : gz_M), j M18 = some y → gz_go C 0 0 M18 [(0, .ref a0), (1, .ref a1), (5, .int (x11 - (1 : Int32)))] 94 []) hF (fun M18 hF => ?_) (fun j94 hj94 hF => ?_)
    · skip
      refine gz_aload_n 94 hC 0 dX2_readFoot_94 rfl rfl ?_
      refine gz_getI 95 hC fl_X2_21 fk_2_4 dX2_readFoot_95 hF (fun x19 hF => ?_)
      refine gz_iconst 98 hC (-1 : Int32) dX2_readFoot_98 gz_km1 ?_
      refine gz_join (fun (j : gz_M → Option (gz_M)) => ∀ (M25 : gz_M), j M25 = some y → gz_go C 0 0 M25 [] 129 []) hF (fun M25 hF => ?_) (fun j129 hj129 hF => ?_)
      · skip
        exact gz_vretM 129 hC hX dX2_readFoot_129 hF
      refine gz_icmp_ne 99 129 hC dX2_readFoot_99 (by decide) hF (fun hF => ?_) (fun hF => ?_)
      · skip
        refine gz_sub [] [] rfl ?_
        exact hj129 _ hF
      · skip
        refine gz_aload_n 102 hC 0 dX2_readFoot_102 rfl rfl ?_
        refine gz_ldcs 103 hC 2 rfl dX2_readFoot_103 ?_
        refine gz_cvP (st := []) 105 hC hX [.ref (C.2.2.2.2.2.2.2 2)] Value.int yl_X2_isWord yv_X2_isWord q_599 ⟨Nat.le_of_ble_eq_true rfl, Nat.le_of_ble_eq_true rfl⟩ ⟨_, rfl⟩ (fun r h => ct_X2_isWord _ _ fu M18 a0 2 r h) rfl rfl (Nat.le_of_ble_eq_true rfl) dX2_readFoot_105 gz_00 hF (fun x20 hF => ?_)
        refine gz_if_eq 108 129 hC dX2_readFoot_108 (by decide) hF (fun hF => ?_) (fun hF => ?_)
        · skip
          refine gz_sub [] [] rfl ?_
          exact hj129 _ hF
        · skip
          refine gz_aload_n 111 hC 0 dX2_readFoot_111 rfl rfl ?_
          refine gz_cvV (st := []) 112 hC hX [] yl_X2_next yv_X2_next q_583 ⟨Nat.le_of_ble_eq_true rfl, Nat.le_of_ble_eq_true rfl⟩ ⟨_, rfl⟩ (fun r h => ct_X2_next _ _ fu M18 a0 r h) rfl rfl (Nat.le_of_ble_eq_true rfl) dX2_readFoot_112 gz_00 hF (fun M21 hF => ?_)
          refine gz_aload_n 115 hC 1 dX2_readFoot_115 rfl rfl ?_
          refine gz_iload 116 hC 2 dX2_readFoot_116 rfl ?_
          refine gz_iconst 118 hC (4 : Int32) dX2_readFoot_118 gz_k4 ?_
          refine gz_aload_n 119 hC 0 dX2_readFoot_119 rfl rfl ?_
          refine gz_iconst 120 hC (0 : Int32) dX2_readFoot_120 gz_k0 ?_
          refine gz_bipush 121 hC (9 : Int32) dX2_readFoot_121 gz_b9 ?_
          refine gz_cvM (st := [.int (4 : Int32), .int (x11 - (1 : Int32)), .ref a1]) 123 hC hX [.int (0 : Int32), .int (9 : Int32)] Value.int yl_X2_number yv_X2_number q_659 ⟨Nat.le_of_ble_eq_true rfl, Nat.le_of_ble_eq_true rfl⟩ ⟨_, rfl⟩ (fun r h => ct_X2_number _ _ fu M21 a0 (0 : Int32) (9 : Int32) r h) rfl rfl (Nat.le_of_ble_eq_true rfl) dX2_readFoot_123 gz_00 hF (fun x22 M23 hF => ?_)
          refine gz_cvV (st := []) 126 hC hX [.int (x11 - (1 : Int32)), .int (4 : Int32), .int x22] yl_X7_putFootPart yv_X7_putFootPart q_672 ⟨Nat.le_of_ble_eq_true rfl, Nat.le_of_ble_eq_true rfl⟩ ⟨_, rfl⟩ (fun r h => ct_X7_putFootPart _ _ fu M23 a1 (x11 - (1 : Int32)) (4 : Int32) x22 r h) rfl rfl (Nat.le_of_ble_eq_true rfl) dX2_readFoot_126 gz_00 hF (fun M24 hF => ?_)
          refine gz_sub [] [] rfl ?_
          exact hj129 _ hF
    refine gz_icmp_ne 64 94 hC dX2_readFoot_64 (by decide) hF (fun hF => ?_) (fun hF => ?_)
    · skip
      refine gz_sub [4, 5, 0] [(0, .ref a0), (1, .ref a1), (5, .int (x11 - (1 : Int32)))] rfl ?_
      exact hj94 _ hF
    · skip
      refine gz_aload_n 67 hC 4 dX2_readFoot_67 rfl rfl ?_
      refine gz_ldcs 68 hC 1 rfl dX2_readFoot_68 ?_
      refine gz_cvP (st := []) 70 hC hX [.ref (C.2.2.2.2.2.2.2 1)] Value.int yl_X2_isWord yv_X2_isWord q_599 ⟨Nat.le_of_ble_eq_true rfl, Nat.le_of_ble_eq_true rfl⟩ ⟨_, rfl⟩ (fun r h => ct_X2_isWord _ _ fu M10 a0 1 r h) rfl rfl (Nat.le_of_ble_eq_true rfl) dX2_readFoot_70 gz_00 hF (fun x13 hF => ?_)
      refine gz_if_eq 73 94 hC dX2_readFoot_73 (by decide) hF (fun hF => ?_) (fun hF => ?_)
      · skip
        refine gz_sub [4, 5, 0] [(0, .ref a0), (1, .ref a1), (5, .int (x11 - (1 : Int32)))] rfl ?_
        exact hj94 _ hF
      · skip
        refine gz_aload_n 76 hC 4 dX2_readFoot_76 rfl rfl ?_
        refine gz_cvV (st := []) 77 hC hX [] yl_X2_next yv_X2_next q_583 ⟨Nat.le_of_ble_eq_true rfl, Nat.le_of_ble_eq_true rfl⟩ ⟨_, rfl⟩ (fun r h => ct_X2_next _ _ fu M10 a0 r h) rfl rfl (Nat.le_of_ble_eq_true rfl) dX2_readFoot_77 gz_00 hF (fun M14 hF => ?_)
        refine gz_aload_n 80 hC 5 dX2_readFoot_80 rfl rfl ?_
        refine gz_iload 81 hC 0 dX2_readFoot_81 rfl ?_
        refine gz_iconst 83 hC (3 : Int32) dX2_readFoot_83 gz_k3 ?_
        refine gz_aload_n 84 hC 4 dX2_readFoot_84 rfl rfl ?_
        refine gz_iconst 85 hC (1 : Int32) dX2_readFoot_85 gz_k1 ?_
        refine gz_bipush 86 hC (99 : Int32) dX2_readFoot_86 gz_b99 ?_
        refine gz_cvM (st := [.int (3 : Int32), .int (x11 - (1 : Int32)), .ref a1]) 88 hC hX [.int (1 : Int32), .int (99 : Int32)] Value.int yl_X2_number yv_X2_number q_659 ⟨Nat.le_of_ble_eq_true rfl, Nat.le_of_ble_eq_true rfl⟩ ⟨_, rfl⟩ (fun r h => ct_X2_number _ _ fu M14 a0 (1 : Int32) (99 : Int32) r h) rfl rfl (Nat.le_of_ble_eq_true rfl) dX2_readFoot_88 gz_00 hF (fun x15 M16 hF => ?_)
        refine gz_cvV (st := []) 91 hC hX [.int (x11 - (1 : Int32)), .int (3 : Int32), .int x15] yl_X7_putFootPart yv_X7_putFootPart q_672 ⟨Nat.le_of_ble_eq_true rfl, Nat.le_of_ble_eq_true rfl⟩ ⟨_, rfl⟩ (fun r h => ct_X7_putFootPart _ _ fu M16 a1 (x11 - (1 : Int32)) (3 : Int32) x15 r h) rfl rfl (Nat.le_of_ble_eq_true rfl) dX2_readFoot_91 gz_00 hF (fun M17 hF => ?_)
        refine gz_sub [4, 5, 0] [(0, .ref a0), (1, .ref a1), (5, .int (x11 - (1 : Int32)))] rfl ?_
        exact hj94 _ hF
  · skip
    refine gz_aload_n 9 hC 0 dX2_readFoot_9 rfl rfl ?_
    refine gz_cvV (st := []) 10 hC hX [] yl_X2_fail yv_X2_fail q_655 ⟨Nat.le_of_ble_eq_true rfl, Nat.le_of_ble_eq_true rfl⟩ ⟨_, rfl⟩ (fun r h => ct_X2_fail _ _ fu M a0 r h) rfl rfl (Nat.le_of_ble_eq_true rfl) dX2_readFoot_10 gz_00 hF (fun M2 hF => ?_)
    exact gz_vretM 13 hC hX dX2_readFoot_13 hF

theorem dX7_putLastPart_0 : decode cX7_putLastPart 0 = .ok (.aload_n 0, 1) := by decide +kernel
theorem dX7_putLastPart_1 : decode cX7_putLastPart 1 = .ok (.getfield 15, 3) := by decide +kernel
theorem dX7_putLastPart_4 : decode cX7_putLastPart 4 = .ok (.iload_n 1, 1) := by decide +kernel
theorem dX7_putLastPart_5 : decode cX7_putLastPart 5 = .ok (.iconst 4, 1) := by decide +kernel
theorem dX7_putLastPart_6 : decode cX7_putLastPart 6 = .ok (.imul, 1) := by decide +kernel
theorem dX7_putLastPart_7 : decode cX7_putLastPart 7 = .ok (.iload_n 2, 1) := by decide +kernel
theorem dX7_putLastPart_8 : decode cX7_putLastPart 8 = .ok (.iadd, 1) := by decide +kernel
theorem dX7_putLastPart_9 : decode cX7_putLastPart 9 = .ok (.iload_n 3, 1) := by decide +kernel
theorem dX7_putLastPart_10 : decode cX7_putLastPart 10 = .ok (.iastore, 1) := by decide +kernel
theorem dX7_putLastPart_11 : decode cX7_putLastPart 11 = .ok (.return_, 1) := by decide +kernel

def f_X7_putLastPart (fu : Nat) (M : gz_M) (a0 : Nat) (a1 : Int32) (a2 : Int32) (a3 : Int32) : Option (gz_M) :=
  gz_gd M 7 a0 <|
  (gz_gR M 7 1 a0).bind fun x1 =>
  (gz_tI M x1 ((a1 * (4 : Int32)) + a2) a3).bind fun M2 =>
  some M2

set_option maxHeartbeats 4000000 in
theorem ct_X7_putLastPart (l : Launch) (G : gz_G) (fu : Nat) (M : gz_M) (a0 : Nat) (a1 : Int32) (a2 : Int32) (a3 : Int32) (y : gz_M) (hF : f_X7_putLastPart fu M a0 a1 a2 a3 = some y) : gz_ct l yX7_putLastPart cX7_putLastPart 4 none 0 0 0 0 G [.ref a0, .int a1, .int a2, .int a3] M none y := by
  refine gz_ct.of (by decide) (Nat.le_of_ble_eq_true rfl) (fun C hC hX => ?_)
  unfold f_X7_putLastPart at hF
  obtain ⟨-, hF⟩ := gz_gd_some hF
  show gz_go C 0 0 M [(0, .ref a0), (1, .int a1), (2, .int a2), (3, .int a3)] 0 []
  refine gz_aload_n 0 hC 0 dX7_putLastPart_0 rfl rfl ?_
  refine gz_getR 1 hC fl_X7_15 fk_7_1 dX7_putLastPart_1 hF (fun x1 hF => ?_)
  refine gz_iload_n 4 hC 1 dX7_putLastPart_4 rfl rfl ?_
  refine gz_iconst 5 hC (4 : Int32) dX7_putLastPart_5 gz_k4 ?_
  refine gz_imul 6 hC dX7_putLastPart_6 ?_
  refine gz_iload_n 7 hC 2 dX7_putLastPart_7 rfl rfl ?_
  refine gz_iadd 8 hC dX7_putLastPart_8 ?_
  refine gz_iload_n 9 hC 3 dX7_putLastPart_9 rfl rfl ?_
  refine gz_iast 10 hC dX7_putLastPart_10 hF (fun M2 hF => ?_)
  exact gz_vretM 11 hC hX dX7_putLastPart_11 hF

theorem dX7_addLast_0 : decode cX7_addLast 0 = .ok (.aload_n 0, 1) := by decide +kernel
theorem dX7_addLast_1 : decode cX7_addLast 1 = .ok (.getfield 28, 3) := by decide +kernel
theorem dX7_addLast_4 : decode cX7_addLast 4 = .ok (.istore 4, 2) := by decide +kernel
theorem dX7_addLast_6 : decode cX7_addLast 6 = .ok (.aload_n 0, 1) := by decide +kernel
theorem dX7_addLast_7 : decode cX7_addLast 7 = .ok (.dup, 1) := by decide +kernel
theorem dX7_addLast_8 : decode cX7_addLast 8 = .ok (.getfield 28, 3) := by decide +kernel
theorem dX7_addLast_11 : decode cX7_addLast 11 = .ok (.iconst 1, 1) := by decide +kernel
theorem dX7_addLast_12 : decode cX7_addLast 12 = .ok (.iadd, 1) := by decide +kernel
theorem dX7_addLast_13 : decode cX7_addLast 13 = .ok (.putfield 28, 3) := by decide +kernel
theorem dX7_addLast_16 : decode cX7_addLast 16 = .ok (.aload_n 0, 1) := by decide +kernel
theorem dX7_addLast_17 : decode cX7_addLast 17 = .ok (.iload 4, 2) := by decide +kernel
theorem dX7_addLast_19 : decode cX7_addLast 19 = .ok (.iconst 0, 1) := by decide +kernel
theorem dX7_addLast_20 : decode cX7_addLast 20 = .ok (.iload_n 1, 1) := by decide +kernel
theorem dX7_addLast_21 : decode cX7_addLast 21 = .ok (.invokevirtual 53, 3) := by decide +kernel
theorem dX7_addLast_24 : decode cX7_addLast 24 = .ok (.aload_n 0, 1) := by decide +kernel
theorem dX7_addLast_25 : decode cX7_addLast 25 = .ok (.iload 4, 2) := by decide +kernel
theorem dX7_addLast_27 : decode cX7_addLast 27 = .ok (.iconst 1, 1) := by decide +kernel
theorem dX7_addLast_28 : decode cX7_addLast 28 = .ok (.iload_n 2, 1) := by decide +kernel
theorem dX7_addLast_29 : decode cX7_addLast 29 = .ok (.invokevirtual 53, 3) := by decide +kernel
theorem dX7_addLast_32 : decode cX7_addLast 32 = .ok (.aload_n 0, 1) := by decide +kernel
theorem dX7_addLast_33 : decode cX7_addLast 33 = .ok (.iload 4, 2) := by decide +kernel
theorem dX7_addLast_35 : decode cX7_addLast 35 = .ok (.iconst 2, 1) := by decide +kernel
theorem dX7_addLast_36 : decode cX7_addLast 36 = .ok (.iload_n 3, 1) := by decide +kernel
theorem dX7_addLast_37 : decode cX7_addLast 37 = .ok (.invokevirtual 53, 3) := by decide +kernel
theorem dX7_addLast_40 : decode cX7_addLast 40 = .ok (.aload_n 0, 1) := by decide +kernel
theorem dX7_addLast_41 : decode cX7_addLast 41 = .ok (.iload 4, 2) := by decide +kernel
theorem dX7_addLast_43 : decode cX7_addLast 43 = .ok (.iconst 3, 1) := by decide +kernel
theorem dX7_addLast_44 : decode cX7_addLast 44 = .ok (.iconst 0, 1) := by decide +kernel
theorem dX7_addLast_45 : decode cX7_addLast 45 = .ok (.invokevirtual 53, 3) := by decide +kernel
theorem dX7_addLast_48 : decode cX7_addLast 48 = .ok (.return_, 1) := by decide +kernel

def f_X7_addLast (fu : Nat) (M : gz_M) (a0 : Nat) (a1 : Int32) (a2 : Int32) (a3 : Int32) : Option (gz_M) :=
  gz_gd M 7 a0 <|
  (gz_gI M 7 5 a0).bind fun x1 =>
  (gz_gI M 7 5 a0).bind fun x2 =>
  (gz_pI M 7 5 a0 (x2 + (1 : Int32))).bind fun M3 =>
  (f_X7_putLastPart fu M3 a0 x1 (0 : Int32) a1).bind fun M4 =>
  (f_X7_putLastPart fu M4 a0 x1 (1 : Int32) a2).bind fun M5 =>
  (f_X7_putLastPart fu M5 a0 x1 (2 : Int32) a3).bind fun M6 =>
  (f_X7_putLastPart fu M6 a0 x1 (3 : Int32) (0 : Int32)).bind fun M7 =>
  some M7

set_option maxHeartbeats 4000000 in
theorem ct_X7_addLast (l : Launch) (G : gz_G) (fu : Nat) (M : gz_M) (a0 : Nat) (a1 : Int32) (a2 : Int32) (a3 : Int32) (y : gz_M) (hF : f_X7_addLast fu M a0 a1 a2 a3 = some y) : gz_ct l yX7_addLast cX7_addLast 5 none 1 23 0 0 G [.ref a0, .int a1, .int a2, .int a3] M none y := by
  refine gz_ct.of (by decide) (Nat.le_of_ble_eq_true rfl) (fun C hC hX => ?_)
  unfold f_X7_addLast at hF
  obtain ⟨-, hF⟩ := gz_gd_some hF
  show gz_go C 0 0 M [(0, .ref a0), (1, .int a1), (2, .int a2), (3, .int a3)] 0 []
  refine gz_aload_n 0 hC 0 dX7_addLast_0 rfl rfl ?_
  refine gz_getI 1 hC fl_X7_28 fk_7_5 dX7_addLast_1 hF (fun x1 hF => ?_)
  refine gz_istore 4 hC [(4, .int x1), (0, .ref a0), (1, .int a1), (2, .int a2), (3, .int a3)] dX7_addLast_4 (by decide) rfl ?_
  refine gz_aload_n 6 hC 1 dX7_addLast_6 rfl rfl ?_
  refine gz_dup 7 hC dX7_addLast_7 rfl ?_
  refine gz_getI 8 hC fl_X7_28 fk_7_5 dX7_addLast_8 hF (fun x2 hF => ?_)
  refine gz_iconst 11 hC (1 : Int32) dX7_addLast_11 gz_k1 ?_
  refine gz_iadd 12 hC dX7_addLast_12 ?_
  refine gz_putI 13 hC fl_X7_28 fk_7_5 dX7_addLast_13 hF (fun M3 hF => ?_)
  refine gz_aload_n 16 hC 1 dX7_addLast_16 rfl rfl ?_
  refine gz_iload 17 hC 0 dX7_addLast_17 rfl ?_
  refine gz_iconst 19 hC (0 : Int32) dX7_addLast_19 gz_k0 ?_
  refine gz_iload_n 20 hC 2 dX7_addLast_20 rfl rfl ?_
  refine gz_cvV (st := []) 21 hC hX [.int x1, .int (0 : Int32), .int a1] yl_X7_putLastPart yv_X7_putLastPart q_683 ⟨Nat.le_of_ble_eq_true rfl, Nat.le_of_ble_eq_true rfl⟩ ⟨_, rfl⟩ (fun r h => ct_X7_putLastPart _ _ fu M3 a0 x1 (0 : Int32) a1 r h) rfl rfl (Nat.le_of_ble_eq_true rfl) dX7_addLast_21 gz_00 hF (fun M4 hF => ?_)
  refine gz_aload_n 24 hC 1 dX7_addLast_24 rfl rfl ?_
  refine gz_iload 25 hC 0 dX7_addLast_25 rfl ?_
  refine gz_iconst 27 hC (1 : Int32) dX7_addLast_27 gz_k1 ?_
  refine gz_iload_n 28 hC 3 dX7_addLast_28 rfl rfl ?_
  refine gz_cvV (st := []) 29 hC hX [.int x1, .int (1 : Int32), .int a2] yl_X7_putLastPart yv_X7_putLastPart q_683 ⟨Nat.le_of_ble_eq_true rfl, Nat.le_of_ble_eq_true rfl⟩ ⟨_, rfl⟩ (fun r h => ct_X7_putLastPart _ _ fu M4 a0 x1 (1 : Int32) a2 r h) rfl rfl (Nat.le_of_ble_eq_true rfl) dX7_addLast_29 gz_00 hF (fun M5 hF => ?_)
  refine gz_aload_n 32 hC 1 dX7_addLast_32 rfl rfl ?_
  refine gz_iload 33 hC 0 dX7_addLast_33 rfl ?_
  refine gz_iconst 35 hC (2 : Int32) dX7_addLast_35 gz_k2 ?_
  refine gz_iload_n 36 hC 4 dX7_addLast_36 rfl rfl ?_
  refine gz_cvV (st := []) 37 hC hX [.int x1, .int (2 : Int32), .int a3] yl_X7_putLastPart yv_X7_putLastPart q_683 ⟨Nat.le_of_ble_eq_true rfl, Nat.le_of_ble_eq_true rfl⟩ ⟨_, rfl⟩ (fun r h => ct_X7_putLastPart _ _ fu M5 a0 x1 (2 : Int32) a3 r h) rfl rfl (Nat.le_of_ble_eq_true rfl) dX7_addLast_37 gz_00 hF (fun M6 hF => ?_)
  refine gz_aload_n 40 hC 1 dX7_addLast_40 rfl rfl ?_
  refine gz_iload 41 hC 0 dX7_addLast_41 rfl ?_
  refine gz_iconst 43 hC (3 : Int32) dX7_addLast_43 gz_k3 ?_
  refine gz_iconst 44 hC (0 : Int32) dX7_addLast_44 gz_k0 ?_
  refine gz_cvV (st := []) 45 hC hX [.int x1, .int (3 : Int32), .int (0 : Int32)] yl_X7_putLastPart yv_X7_putLastPart q_683 ⟨Nat.le_of_ble_eq_true rfl, Nat.le_of_ble_eq_true rfl⟩ ⟨_, rfl⟩ (fun r h => ct_X7_putLastPart _ _ fu M6 a0 x1 (3 : Int32) (0 : Int32) r h) rfl rfl (Nat.le_of_ble_eq_true rfl) dX7_addLast_45 gz_00 hF (fun M7 hF => ?_)
  exact gz_vretM 48 hC hX dX7_addLast_48 hF

theorem dX2_readLast_0 : decode cX2_readLast 0 = .ok (.aload_n 1, 1) := by decide +kernel
theorem dX2_readLast_1 : decode cX2_readLast 1 = .ok (.getfield 120, 3) := by decide +kernel
theorem dX2_readLast_4 : decode cX2_readLast 4 = .ok (.bipush 10, 2) := by decide +kernel
theorem dX2_readLast_6 : decode cX2_readLast 6 = .ok (.if_icmp .lt 8, 3) := by decide +kernel
theorem dX2_readLast_9 : decode cX2_readLast 9 = .ok (.aload_n 0, 1) := by decide +kernel
theorem dX2_readLast_10 : decode cX2_readLast 10 = .ok (.invokevirtual 40, 3) := by decide +kernel
theorem dX2_readLast_13 : decode cX2_readLast 13 = .ok (.return_, 1) := by decide +kernel
theorem dX2_readLast_14 : decode cX2_readLast 14 = .ok (.aload_n 0, 1) := by decide +kernel
theorem dX2_readLast_15 : decode cX2_readLast 15 = .ok (.invokevirtual 33, 3) := by decide +kernel
theorem dX2_readLast_18 : decode cX2_readLast 18 = .ok (.aload_n 0, 1) := by decide +kernel
theorem dX2_readLast_19 : decode cX2_readLast 19 = .ok (.iconst 0, 1) := by decide +kernel
theorem dX2_readLast_20 : decode cX2_readLast 20 = .ok (.bipush 40, 2) := by decide +kernel
theorem dX2_readLast_22 : decode cX2_readLast 22 = .ok (.invokevirtual 94, 3) := by decide +kernel
theorem dX2_readLast_25 : decode cX2_readLast 25 = .ok (.istore_n 2, 1) := by decide +kernel
theorem dX2_readLast_26 : decode cX2_readLast 26 = .ok (.aload_n 0, 1) := by decide +kernel
theorem dX2_readLast_27 : decode cX2_readLast 27 = .ok (.iconst 0, 1) := by decide +kernel
theorem dX2_readLast_28 : decode cX2_readLast 28 = .ok (.bipush 40, 2) := by decide +kernel
theorem dX2_readLast_30 : decode cX2_readLast 30 = .ok (.invokevirtual 94, 3) := by decide +kernel
theorem dX2_readLast_33 : decode cX2_readLast 33 = .ok (.istore_n 3, 1) := by decide +kernel
theorem dX2_readLast_34 : decode cX2_readLast 34 = .ok (.aload_n 0, 1) := by decide +kernel
theorem dX2_readLast_35 : decode cX2_readLast 35 = .ok (.iconst 0, 1) := by decide +kernel
theorem dX2_readLast_36 : decode cX2_readLast 36 = .ok (.bipush 40, 2) := by decide +kernel
theorem dX2_readLast_38 : decode cX2_readLast 38 = .ok (.invokevirtual 94, 3) := by decide +kernel
theorem dX2_readLast_41 : decode cX2_readLast 41 = .ok (.istore 4, 2) := by decide +kernel
theorem dX2_readLast_43 : decode cX2_readLast 43 = .ok (.aload_n 1, 1) := by decide +kernel
theorem dX2_readLast_44 : decode cX2_readLast 44 = .ok (.iload_n 2, 1) := by decide +kernel
theorem dX2_readLast_45 : decode cX2_readLast 45 = .ok (.iload_n 3, 1) := by decide +kernel
theorem dX2_readLast_46 : decode cX2_readLast 46 = .ok (.iload 4, 2) := by decide +kernel
theorem dX2_readLast_48 : decode cX2_readLast 48 = .ok (.invokevirtual 123, 3) := by decide +kernel
theorem dX2_readLast_51 : decode cX2_readLast 51 = .ok (.aload_n 0, 1) := by decide +kernel
theorem dX2_readLast_52 : decode cX2_readLast 52 = .ok (.getfield 21, 3) := by decide +kernel
theorem dX2_readLast_55 : decode cX2_readLast 55 = .ok (.iconst (-1), 1) := by decide +kernel
theorem dX2_readLast_56 : decode cX2_readLast 56 = .ok (.if_icmp .ne 34, 3) := by decide +kernel
theorem dX2_readLast_59 : decode cX2_readLast 59 = .ok (.aload_n 0, 1) := by decide +kernel
theorem dX2_readLast_60 : decode cX2_readLast 60 = .ok (.ldc 126, 2) := by decide +kernel
theorem dX2_readLast_62 : decode cX2_readLast 62 = .ok (.invokevirtual 67, 3) := by decide +kernel
theorem dX2_readLast_65 : decode cX2_readLast 65 = .ok (.ifCond .eq 25, 3) := by decide +kernel
theorem dX2_readLast_68 : decode cX2_readLast 68 = .ok (.aload_n 0, 1) := by decide +kernel
theorem dX2_readLast_69 : decode cX2_readLast 69 = .ok (.invokevirtual 33, 3) := by decide +kernel
theorem dX2_readLast_72 : decode cX2_readLast 72 = .ok (.aload_n 1, 1) := by decide +kernel
theorem dX2_readLast_73 : decode cX2_readLast 73 = .ok (.aload_n 1, 1) := by decide +kernel
theorem dX2_readLast_74 : decode cX2_readLast 74 = .ok (.getfield 120, 3) := by decide +kernel
theorem dX2_readLast_77 : decode cX2_readLast 77 = .ok (.iconst 1, 1) := by decide +kernel
theorem dX2_readLast_78 : decode cX2_readLast 78 = .ok (.isub, 1) := by decide +kernel
theorem dX2_readLast_79 : decode cX2_readLast 79 = .ok (.iconst 3, 1) := by decide +kernel
theorem dX2_readLast_80 : decode cX2_readLast 80 = .ok (.aload_n 0, 1) := by decide +kernel
theorem dX2_readLast_81 : decode cX2_readLast 81 = .ok (.iconst 0, 1) := by decide +kernel
theorem dX2_readLast_82 : decode cX2_readLast 82 = .ok (.bipush 99, 2) := by decide +kernel
theorem dX2_readLast_84 : decode cX2_readLast 84 = .ok (.invokevirtual 94, 3) := by decide +kernel
theorem dX2_readLast_87 : decode cX2_readLast 87 = .ok (.invokevirtual 128, 3) := by decide +kernel
theorem dX2_readLast_90 : decode cX2_readLast 90 = .ok (.return_, 1) := by decide +kernel

def f_X2_readLast (fu : Nat) (M : gz_M) (a0 : Nat) (a1 : Nat) : Option (gz_M) :=
  gz_gd M 2 a0 <|
  (gz_gI M 7 5 a1).bind fun x1 =>
  if x1 < (10 : Int32) then
    (f_X2_next fu M a0).bind fun M3 =>
    gz_b2 (f_X2_number fu M3 a0 (0 : Int32) (40 : Int32)) fun x4 M5 =>
    gz_b2 (f_X2_number fu M5 a0 (0 : Int32) (40 : Int32)) fun x6 M7 =>
    gz_b2 (f_X2_number fu M7 a0 (0 : Int32) (40 : Int32)) fun x8 M9 =>
    (f_X7_addLast fu M9 a1 x4 x6 x8).bind fun M10 =>
    (gz_gI M10 2 4 a0).bind fun x11 =>
    gz_jn (fun (M18 : gz_M) =>
    some M18) fun j90 =>
    if x11 = (-1 : Int32) then
      (f_X2_isWord fu M10 a0 4).bind fun x12 =>
      if x12 = 0 then
        j90 M10
      else
        (f_X2_next fu M10 a0).bind fun M13 =>
        (gz_gI M13 7 5 a1).bind fun x14 =>
        gz_b2 (f_X2_number fu M13 a0 (0 : Int32) (99 : Int32)) fun x15 M16 =>
        (f_X7_putLastPart fu M16 a1 (x14 - (1 : Int32)) (3 : Int32) x15).bind fun M17 =>
        j90 M17
    else
      j90 M10
  else
    (f_X2_fail fu M a0).bind fun M2 =>
    some M2

set_option maxHeartbeats 4000000 in
theorem ct_X2_readLast (l : Launch) (G : gz_G) (fu : Nat) (M : gz_M) (a0 : Nat) (a1 : Nat) (y : gz_M) (hF : f_X2_readLast fu M a0 a1 = some y) : gz_ct l yX2_readLast cX2_readLast 5 none 5 107 0 0 G [.ref a0, .ref a1] M none y := by
  refine gz_ct.of (by decide) (Nat.le_of_ble_eq_true rfl) (fun C hC hX => ?_)
  unfold f_X2_readLast at hF
  obtain ⟨-, hF⟩ := gz_gd_some hF
  show gz_go C 0 0 M [(0, .ref a0), (1, .ref a1)] 0 []
  refine gz_aload_n 0 hC 1 dX2_readLast_0 rfl rfl ?_
  refine gz_getI 1 hC fl_X2_120 fk_7_5 dX2_readLast_1 hF (fun x1 hF => ?_)
  refine gz_bipush 4 hC (10 : Int32) dX2_readLast_4 gz_b10 ?_
  refine gz_icmp_lt 6 14 hC dX2_readLast_6 (by decide) hF (fun hF => ?_) (fun hF => ?_)
  · skip
    refine gz_aload_n 14 hC 0 dX2_readLast_14 rfl rfl ?_
    refine gz_cvV (st := []) 15 hC hX [] yl_X2_next yv_X2_next q_583 ⟨Nat.le_of_ble_eq_true rfl, Nat.le_of_ble_eq_true rfl⟩ ⟨_, rfl⟩ (fun r h => ct_X2_next _ _ fu M a0 r h) rfl rfl (Nat.le_of_ble_eq_true rfl) dX2_readLast_15 gz_00 hF (fun M3 hF => ?_)
    refine gz_aload_n 18 hC 0 dX2_readLast_18 rfl rfl ?_
    refine gz_iconst 19 hC (0 : Int32) dX2_readLast_19 gz_k0 ?_
    refine gz_bipush 20 hC (40 : Int32) dX2_readLast_20 gz_b40 ?_
    refine gz_cvM (st := []) 22 hC hX [.int (0 : Int32), .int (40 : Int32)] Value.int yl_X2_number yv_X2_number q_659 ⟨Nat.le_of_ble_eq_true rfl, Nat.le_of_ble_eq_true rfl⟩ ⟨_, rfl⟩ (fun r h => ct_X2_number _ _ fu M3 a0 (0 : Int32) (40 : Int32) r h) rfl rfl (Nat.le_of_ble_eq_true rfl) dX2_readLast_22 gz_00 hF (fun x4 M5 hF => ?_)
    refine gz_istore_n 25 hC [(2, .int x4), (0, .ref a0), (1, .ref a1)] dX2_readLast_25 rfl (by decide) rfl ?_
    refine gz_aload_n 26 hC 1 dX2_readLast_26 rfl rfl ?_
    refine gz_iconst 27 hC (0 : Int32) dX2_readLast_27 gz_k0 ?_
    refine gz_bipush 28 hC (40 : Int32) dX2_readLast_28 gz_b40 ?_
    refine gz_cvM (st := []) 30 hC hX [.int (0 : Int32), .int (40 : Int32)] Value.int yl_X2_number yv_X2_number q_659 ⟨Nat.le_of_ble_eq_true rfl, Nat.le_of_ble_eq_true rfl⟩ ⟨_, rfl⟩ (fun r h => ct_X2_number _ _ fu M5 a0 (0 : Int32) (40 : Int32) r h) rfl rfl (Nat.le_of_ble_eq_true rfl) dX2_readLast_30 gz_00 hF (fun x6 M7 hF => ?_)
    refine gz_istore_n 33 hC [(3, .int x6), (2, .int x4), (0, .ref a0), (1, .ref a1)] dX2_readLast_33 rfl (by decide) rfl ?_
    refine gz_aload_n 34 hC 2 dX2_readLast_34 rfl rfl ?_
    refine gz_iconst 35 hC (0 : Int32) dX2_readLast_35 gz_k0 ?_
    refine gz_bipush 36 hC (40 : Int32) dX2_readLast_36 gz_b40 ?_
    refine gz_cvM (st := []) 38 hC hX [.int (0 : Int32), .int (40 : Int32)] Value.int yl_X2_number yv_X2_number q_659 ⟨Nat.le_of_ble_eq_true rfl, Nat.le_of_ble_eq_true rfl⟩ ⟨_, rfl⟩ (fun r h => ct_X2_number _ _ fu M7 a0 (0 : Int32) (40 : Int32) r h) rfl rfl (Nat.le_of_ble_eq_true rfl) dX2_readLast_38 gz_00 hF (fun x8 M9 hF => ?_)
    refine gz_istore 41 hC [(4, .int x8), (3, .int x6), (2, .int x4), (0, .ref a0), (1, .ref a1)] dX2_readLast_41 (by decide) rfl ?_
    refine gz_aload_n 43 hC 4 dX2_readLast_43 rfl rfl ?_
    refine gz_iload_n 44 hC 2 dX2_readLast_44 rfl rfl ?_
    refine gz_iload_n 45 hC 1 dX2_readLast_45 rfl rfl ?_
    refine gz_iload 46 hC 0 dX2_readLast_46 rfl ?_
    refine gz_cvV (st := []) 48 hC hX [.int x4, .int x6, .int x8] yl_X7_addLast yv_X7_addLast q_679 ⟨Nat.le_of_ble_eq_true rfl, Nat.le_of_ble_eq_true rfl⟩ ⟨_, rfl⟩ (fun r h => ct_X7_addLast _ _ fu M9 a1 x4 x6 x8 r h) rfl rfl (Nat.le_of_ble_eq_true rfl) dX2_readLast_48 gz_00 hF (fun M10 hF => ?_)
    refine gz_aload_n 51 hC 3 dX2_readLast_51 rfl rfl ?_
    refine gz_getI 52 hC fl_X2_21 fk_2_4 dX2_readLast_52 hF (fun x11 hF => ?_)
    refine gz_iconst 55 hC (-1 : Int32) dX2_readLast_55 gz_km1 ?_
    refine gz_join (fun (j : gz_M → Option (gz_M)) => ∀ (M18 : gz_M), j M18 = some y → gz_go C 0 0 M18 [] 90 []) hF (fun M18 hF => ?_) (fun j90 hj90 hF => ?_)
    · skip
      exact gz_vretM 90 hC hX dX2_readLast_90 hF
    refine gz_icmp_ne 56 90 hC dX2_readLast_56 (by decide) hF (fun hF => ?_) (fun hF => ?_)
    · skip
      refine gz_sub [] [] rfl ?_
      exact hj90 _ hF
    · skip
      refine gz_aload_n 59 hC 3 dX2_readLast_59 rfl rfl ?_
      refine gz_ldcs 60 hC 4 rfl dX2_readLast_60 ?_
      refine gz_cvP (st := []) 62 hC hX [.ref (C.2.2.2.2.2.2.2 4)] Value.int yl_X2_isWord yv_X2_isWord q_599 ⟨Nat.le_of_ble_eq_true rfl, Nat.le_of_ble_eq_true rfl⟩ ⟨_, rfl⟩ (fun r h => ct_X2_isWord _ _ fu M10 a0 4 r h) rfl rfl (Nat.le_of_ble_eq_true rfl) dX2_readLast_62 gz_00 hF (fun x12 hF => ?_)
      refine gz_if_eq 65 90 hC dX2_readLast_65 (by decide) hF (fun hF => ?_) (fun hF => ?_)
      · skip
        refine gz_sub [] [] rfl ?_
        exact hj90 _ hF
      · skip
        refine gz_aload_n 68 hC 3 dX2_readLast_68 rfl rfl ?_
        refine gz_cvV (st := []) 69 hC hX [] yl_X2_next yv_X2_next q_583 ⟨Nat.le_of_ble_eq_true rfl, Nat.le_of_ble_eq_true rfl⟩ ⟨_, rfl⟩ (fun r h => ct_X2_next _ _ fu M10 a0 r h) rfl rfl (Nat.le_of_ble_eq_true rfl) dX2_readLast_69 gz_00 hF (fun M13 hF => ?_)
        refine gz_aload_n 72 hC 4 dX2_readLast_72 rfl rfl ?_
        refine gz_aload_n 73 hC 4 dX2_readLast_73 rfl rfl ?_
        refine gz_getI 74 hC fl_X2_120 fk_7_5 dX2_readLast_74 hF (fun x14 hF => ?_)
        refine gz_iconst 77 hC (1 : Int32) dX2_readLast_77 gz_k1 ?_
        refine gz_isub 78 hC dX2_readLast_78 ?_
        refine gz_iconst 79 hC (3 : Int32) dX2_readLast_79 gz_k3 ?_
        refine gz_aload_n 80 hC 3 dX2_readLast_80 rfl rfl ?_
        refine gz_iconst 81 hC (0 : Int32) dX2_readLast_81 gz_k0 ?_
        refine gz_bipush 82 hC (99 : Int32) dX2_readLast_82 gz_b99 ?_
        refine gz_cvM (st := [.int (3 : Int32), .int (x14 - (1 : Int32)), .ref a1]) 84 hC hX [.int (0 : Int32), .int (99 : Int32)] Value.int yl_X2_number yv_X2_number q_659 ⟨Nat.le_of_ble_eq_true rfl, Nat.le_of_ble_eq_true rfl⟩ ⟨_, rfl⟩ (fun r h => ct_X2_number _ _ fu M13 a0 (0 : Int32) (99 : Int32) r h) rfl rfl (Nat.le_of_ble_eq_true rfl) dX2_readLast_84 gz_00 hF (fun x15 M16 hF => ?_)
        refine gz_cvV (st := []) 87 hC hX [.int (x14 - (1 : Int32)), .int (3 : Int32), .int x15] yl_X7_putLastPart yv_X7_putLastPart q_688 ⟨Nat.le_of_ble_eq_true rfl, Nat.le_of_ble_eq_true rfl⟩ ⟨_, rfl⟩ (fun r h => ct_X7_putLastPart _ _ fu M16 a1 (x14 - (1 : Int32)) (3 : Int32) x15 r h) rfl rfl (Nat.le_of_ble_eq_true rfl) dX2_readLast_87 gz_00 hF (fun M17 hF => ?_)
        refine gz_sub [] [] rfl ?_
        exact hj90 _ hF
  · skip
    refine gz_aload_n 9 hC 0 dX2_readLast_9 rfl rfl ?_
    refine gz_cvV (st := []) 10 hC hX [] yl_X2_fail yv_X2_fail q_655 ⟨Nat.le_of_ble_eq_true rfl, Nat.le_of_ble_eq_true rfl⟩ ⟨_, rfl⟩ (fun r h => ct_X2_fail _ _ fu M a0 r h) rfl rfl (Nat.le_of_ble_eq_true rfl) dX2_readLast_10 gz_00 hF (fun M2 hF => ?_)
    exact gz_vretM 13 hC hX dX2_readLast_13 hF

theorem dX2_readMeasures_0 : decode cX2_readMeasures 0 = .ok (.iconst 0, 1) := by decide +kernel
theorem dX2_readMeasures_1 : decode cX2_readMeasures 1 = .ok (.istore_n 3, 1) := by decide +kernel
theorem dX2_readMeasures_2 : decode cX2_readMeasures 2 = .ok (.iload_n 3, 1) := by decide +kernel
theorem dX2_readMeasures_3 : decode cX2_readMeasures 3 = .ok (.iconst 3, 1) := by decide +kernel
theorem dX2_readMeasures_4 : decode cX2_readMeasures 4 = .ok (.if_icmp .ge 24, 3) := by decide +kernel
theorem dX2_readMeasures_7 : decode cX2_readMeasures 7 = .ok (.iload_n 3, 1) := by decide +kernel
theorem dX2_readMeasures_8 : decode cX2_readMeasures 8 = .ok (.aload_n 1, 1) := by decide +kernel
theorem dX2_readMeasures_9 : decode cX2_readMeasures 9 = .ok (.arraylength, 1) := by decide +kernel
theorem dX2_readMeasures_10 : decode cX2_readMeasures 10 = .ok (.if_icmp .ge 18, 3) := by decide +kernel
theorem dX2_readMeasures_13 : decode cX2_readMeasures 13 = .ok (.aload_n 1, 1) := by decide +kernel
theorem dX2_readMeasures_14 : decode cX2_readMeasures 14 = .ok (.iload_n 3, 1) := by decide +kernel
theorem dX2_readMeasures_15 : decode cX2_readMeasures 15 = .ok (.aload_n 0, 1) := by decide +kernel
theorem dX2_readMeasures_16 : decode cX2_readMeasures 16 = .ok (.iconst 0, 1) := by decide +kernel
theorem dX2_readMeasures_17 : decode cX2_readMeasures 17 = .ok (.iload_n 2, 1) := by decide +kernel
theorem dX2_readMeasures_18 : decode cX2_readMeasures 18 = .ok (.invokevirtual 94, 3) := by decide +kernel
theorem dX2_readMeasures_21 : decode cX2_readMeasures 21 = .ok (.iastore, 1) := by decide +kernel
theorem dX2_readMeasures_22 : decode cX2_readMeasures 22 = .ok (.iinc 3 1, 3) := by decide +kernel
theorem dX2_readMeasures_25 : decode cX2_readMeasures 25 = .ok (.goto (-23), 3) := by decide +kernel
theorem dX2_readMeasures_28 : decode cX2_readMeasures 28 = .ok (.return_, 1) := by decide +kernel
def lp_X2_readMeasures_2 (j28 : gz_M → Option (gz_M)) (fu : Nat) (a0 : Nat) (a1 : Nat) (a2 : Int32) : Nat → Int32 → gz_M → Option (gz_M)
  | 0, _, _ => none
  | n2 + 1, x1, M2 =>
    if (3 : Int32) ≤ x1 then
      j28 M2
    else
      (gz_ln M2 a1).bind fun x3 =>
      if x3 ≤ x1 then
        j28 M2
      else
        gz_b2 (f_X2_number fu M2 a0 (0 : Int32) a2) fun x4 M5 =>
        (gz_tI M5 a1 x1 x4).bind fun M6 =>
        lp_X2_readMeasures_2 j28 fu a0 a1 a2 n2 (x1 + (1 : Int32)) M6
def f_X2_readMeasures (fu : Nat) (M : gz_M) (a0 : Nat) (a1 : Nat) (a2 : Int32) : Option (gz_M) :=
  gz_gd M 2 a0 <|
  lp_X2_readMeasures_2 (fun (M7 : gz_M) => some M7) fu a0 a1 a2 fu (0 : Int32) M
set_option maxHeartbeats 4000000 in
theorem w_X2_readMeasures_2 {C : gz_C} {y : gz_M} {fu : Nat} {a0 : Nat} {a1 : Nat} {a2 : Int32} {j28 : gz_M → Option (gz_M)} (hC : gz_ok C cX2_readMeasures RX2 4) (hX : gz_cx C 3 65 0 0 none none y "readMeasures") (hj28 : ∀ (M7 : gz_M), j28 M7 = some y → gz_go C 0 0 M7 [] 28 []) : ∀ (n : Nat) (x1 : Int32) (M2 : gz_M), lp_X2_readMeasures_2 j28 fu a0 a1 a2 n x1 M2 = some y → gz_go C 0 0 M2 [(0, .ref a0), (1, .ref a1), (2, .int a2), (3, .int x1)] 2 [] := by
  intro n
  induction n with
  | zero => intro x1 M2 hF; exact nomatch (show (none : Option (gz_M)) = some y from hF)
  | succ n2 ih2 =>
    intro x1 M2 hF
    rw [lp_X2_readMeasures_2.eq_2] at hF
    refine gz_iload_n 2 hC 3 dX2_readMeasures_2 rfl rfl ?_
    refine gz_iconst 3 hC (3 : Int32) dX2_readMeasures_3 gz_k3 ?_
    refine gz_icmp_ge 4 28 hC dX2_readMeasures_4 (by decide) hF (fun hF => ?_) (fun hF => ?_)
    · skip
      refine gz_sub [] [] rfl ?_
      exact hj28 _ hF
    · skip
      refine gz_iload_n 7 hC 3 dX2_readMeasures_7 rfl rfl ?_
      refine gz_aload_n 8 hC 1 dX2_readMeasures_8 rfl rfl ?_
      refine gz_alen 9 hC dX2_readMeasures_9 hF (fun x3 hF => ?_)
      refine gz_icmp_ge 10 28 hC dX2_readMeasures_10 (by decide) hF (fun hF => ?_) (fun hF => ?_)
      · skip
        refine gz_sub [] [] rfl ?_
        exact hj28 _ hF
      · skip
        refine gz_aload_n 13 hC 1 dX2_readMeasures_13 rfl rfl ?_
        refine gz_iload_n 14 hC 3 dX2_readMeasures_14 rfl rfl ?_
        refine gz_aload_n 15 hC 0 dX2_readMeasures_15 rfl rfl ?_
        refine gz_iconst 16 hC (0 : Int32) dX2_readMeasures_16 gz_k0 ?_
        refine gz_iload_n 17 hC 2 dX2_readMeasures_17 rfl rfl ?_
        refine gz_cvM (st := [.int x1, .ref a1]) 18 hC hX [.int (0 : Int32), .int a2] Value.int yl_X2_number yv_X2_number q_659 ⟨Nat.le_of_ble_eq_true rfl, Nat.le_of_ble_eq_true rfl⟩ ⟨_, rfl⟩ (fun r h => ct_X2_number _ _ fu M2 a0 (0 : Int32) a2 r h) rfl rfl (Nat.le_of_ble_eq_true rfl) dX2_readMeasures_18 gz_00 hF (fun x4 M5 hF => ?_)
        refine gz_iast 21 hC dX2_readMeasures_21 hF (fun M6 hF => ?_)
        refine gz_iinc 22 hC (x1 + (1 : Int32)) 3 [(3, .int (x1 + (1 : Int32))), (0, .ref a0), (1, .ref a1), (2, .int a2)] dX2_readMeasures_22 rfl rfl (by decide) rfl ?_
        refine gz_goto 25 2 hC dX2_readMeasures_25 (by decide) ?_
        refine gz_sub [1, 2, 3, 0] [(0, .ref a0), (1, .ref a1), (2, .int a2), (3, .int (x1 + (1 : Int32)))] rfl ?_
        exact ih2 _ _ hF
set_option maxHeartbeats 4000000 in
theorem ct_X2_readMeasures (l : Launch) (G : gz_G) (fu : Nat) (M : gz_M) (a0 : Nat) (a1 : Nat) (a2 : Int32) (y : gz_M) (hF : f_X2_readMeasures fu M a0 a1 a2 = some y) : gz_ct l yX2_readMeasures cX2_readMeasures 4 none 3 65 0 0 G [.ref a0, .ref a1, .int a2] M none y := by
  refine gz_ct.of (by decide) (Nat.le_of_ble_eq_true rfl) (fun C hC hX => ?_)
  unfold f_X2_readMeasures at hF
  obtain ⟨-, hF⟩ := gz_gd_some hF
  show gz_go C 0 0 M [(0, .ref a0), (1, .ref a1), (2, .int a2)] 0 []
  refine gz_iconst 0 hC (0 : Int32) dX2_readMeasures_0 gz_k0 ?_
  refine gz_istore_n 1 hC [(3, .int (0 : Int32)), (0, .ref a0), (1, .ref a1), (2, .int a2)] dX2_readMeasures_1 rfl (by decide) rfl ?_
  refine gz_sub [1, 2, 3, 0] [(0, .ref a0), (1, .ref a1), (2, .int a2), (3, .int (0 : Int32))] rfl ?_
  refine w_X2_readMeasures_2 hC hX ?_ _ _ _ hF
  intro M7 hF
  exact gz_vretM 28 hC hX dX2_readMeasures_28 hF

theorem dX2_readStatement_0 : decode cX2_readStatement 0 = .ok (.aload_n 0, 1) := by decide +kernel
theorem dX2_readStatement_1 : decode cX2_readStatement 1 = .ok (.ldc 65, 2) := by decide +kernel
theorem dX2_readStatement_3 : decode cX2_readStatement 3 = .ok (.invokevirtual 67, 3) := by decide +kernel
theorem dX2_readStatement_6 : decode cX2_readStatement 6 = .ok (.ifCond .eq 11, 3) := by decide +kernel
theorem dX2_readStatement_9 : decode cX2_readStatement 9 = .ok (.aload_n 0, 1) := by decide +kernel
theorem dX2_readStatement_10 : decode cX2_readStatement 10 = .ok (.aload_n 1, 1) := by decide +kernel
theorem dX2_readStatement_11 : decode cX2_readStatement 11 = .ok (.invokevirtual 71, 3) := by decide +kernel
theorem dX2_readStatement_14 : decode cX2_readStatement 14 = .ok (.goto 130, 3) := by decide +kernel
theorem dX2_readStatement_17 : decode cX2_readStatement 17 = .ok (.aload_n 0, 1) := by decide +kernel
theorem dX2_readStatement_18 : decode cX2_readStatement 18 = .ok (.ldc 74, 2) := by decide +kernel
theorem dX2_readStatement_20 : decode cX2_readStatement 20 = .ok (.invokevirtual 67, 3) := by decide +kernel
theorem dX2_readStatement_23 : decode cX2_readStatement 23 = .ok (.ifCond .eq 11, 3) := by decide +kernel
theorem dX2_readStatement_26 : decode cX2_readStatement 26 = .ok (.aload_n 0, 1) := by decide +kernel
theorem dX2_readStatement_27 : decode cX2_readStatement 27 = .ok (.aload_n 1, 1) := by decide +kernel
theorem dX2_readStatement_28 : decode cX2_readStatement 28 = .ok (.invokevirtual 76, 3) := by decide +kernel
theorem dX2_readStatement_31 : decode cX2_readStatement 31 = .ok (.goto 113, 3) := by decide +kernel
theorem dX2_readStatement_34 : decode cX2_readStatement 34 = .ok (.aload_n 0, 1) := by decide +kernel
theorem dX2_readStatement_35 : decode cX2_readStatement 35 = .ok (.ldc 79, 2) := by decide +kernel
theorem dX2_readStatement_37 : decode cX2_readStatement 37 = .ok (.invokevirtual 67, 3) := by decide +kernel
theorem dX2_readStatement_40 : decode cX2_readStatement 40 = .ok (.ifCond .eq 20, 3) := by decide +kernel
theorem dX2_readStatement_43 : decode cX2_readStatement 43 = .ok (.aload_n 0, 1) := by decide +kernel
theorem dX2_readStatement_44 : decode cX2_readStatement 44 = .ok (.invokevirtual 33, 3) := by decide +kernel
theorem dX2_readStatement_47 : decode cX2_readStatement 47 = .ok (.aload_n 0, 1) := by decide +kernel
theorem dX2_readStatement_48 : decode cX2_readStatement 48 = .ok (.aload_n 1, 1) := by decide +kernel
theorem dX2_readStatement_49 : decode cX2_readStatement 49 = .ok (.getfield 81, 3) := by decide +kernel
theorem dX2_readStatement_52 : decode cX2_readStatement 52 = .ok (.bipush 9, 2) := by decide +kernel
theorem dX2_readStatement_54 : decode cX2_readStatement 54 = .ok (.invokevirtual 84, 3) := by decide +kernel
theorem dX2_readStatement_57 : decode cX2_readStatement 57 = .ok (.goto 87, 3) := by decide +kernel
theorem dX2_readStatement_60 : decode cX2_readStatement 60 = .ok (.aload_n 0, 1) := by decide +kernel
theorem dX2_readStatement_61 : decode cX2_readStatement 61 = .ok (.ldc 88, 2) := by decide +kernel
theorem dX2_readStatement_63 : decode cX2_readStatement 63 = .ok (.invokevirtual 67, 3) := by decide +kernel
theorem dX2_readStatement_66 : decode cX2_readStatement 66 = .ok (.ifCond .eq 20, 3) := by decide +kernel
theorem dX2_readStatement_69 : decode cX2_readStatement 69 = .ok (.aload_n 0, 1) := by decide +kernel
theorem dX2_readStatement_70 : decode cX2_readStatement 70 = .ok (.invokevirtual 33, 3) := by decide +kernel
theorem dX2_readStatement_73 : decode cX2_readStatement 73 = .ok (.aload_n 0, 1) := by decide +kernel
theorem dX2_readStatement_74 : decode cX2_readStatement 74 = .ok (.aload_n 1, 1) := by decide +kernel
theorem dX2_readStatement_75 : decode cX2_readStatement 75 = .ok (.getfield 90, 3) := by decide +kernel
theorem dX2_readStatement_78 : decode cX2_readStatement 78 = .ok (.bipush 30, 2) := by decide +kernel
theorem dX2_readStatement_80 : decode cX2_readStatement 80 = .ok (.invokevirtual 84, 3) := by decide +kernel
theorem dX2_readStatement_83 : decode cX2_readStatement 83 = .ok (.goto 61, 3) := by decide +kernel
theorem dX2_readStatement_86 : decode cX2_readStatement 86 = .ok (.aload_n 0, 1) := by decide +kernel
theorem dX2_readStatement_87 : decode cX2_readStatement 87 = .ok (.ldc 92, 2) := by decide +kernel
theorem dX2_readStatement_89 : decode cX2_readStatement 89 = .ok (.invokevirtual 67, 3) := by decide +kernel
theorem dX2_readStatement_92 : decode cX2_readStatement 92 = .ok (.ifCond .eq 21, 3) := by decide +kernel
theorem dX2_readStatement_95 : decode cX2_readStatement 95 = .ok (.aload_n 0, 1) := by decide +kernel
theorem dX2_readStatement_96 : decode cX2_readStatement 96 = .ok (.invokevirtual 33, 3) := by decide +kernel
theorem dX2_readStatement_99 : decode cX2_readStatement 99 = .ok (.aload_n 1, 1) := by decide +kernel
theorem dX2_readStatement_100 : decode cX2_readStatement 100 = .ok (.aload_n 0, 1) := by decide +kernel
theorem dX2_readStatement_101 : decode cX2_readStatement 101 = .ok (.iconst 0, 1) := by decide +kernel
theorem dX2_readStatement_102 : decode cX2_readStatement 102 = .ok (.bipush 99, 2) := by decide +kernel
theorem dX2_readStatement_104 : decode cX2_readStatement 104 = .ok (.invokevirtual 94, 3) := by decide +kernel
theorem dX2_readStatement_107 : decode cX2_readStatement 107 = .ok (.putfield 98, 3) := by decide +kernel
theorem dX2_readStatement_110 : decode cX2_readStatement 110 = .ok (.goto 34, 3) := by decide +kernel
theorem dX2_readStatement_113 : decode cX2_readStatement 113 = .ok (.aload_n 0, 1) := by decide +kernel
theorem dX2_readStatement_114 : decode cX2_readStatement 114 = .ok (.ldc 101, 2) := by decide +kernel
theorem dX2_readStatement_116 : decode cX2_readStatement 116 = .ok (.invokevirtual 67, 3) := by decide +kernel
theorem dX2_readStatement_119 : decode cX2_readStatement 119 = .ok (.ifCond .eq 21, 3) := by decide +kernel
theorem dX2_readStatement_122 : decode cX2_readStatement 122 = .ok (.aload_n 0, 1) := by decide +kernel
theorem dX2_readStatement_123 : decode cX2_readStatement 123 = .ok (.invokevirtual 33, 3) := by decide +kernel
theorem dX2_readStatement_126 : decode cX2_readStatement 126 = .ok (.aload_n 1, 1) := by decide +kernel
theorem dX2_readStatement_127 : decode cX2_readStatement 127 = .ok (.aload_n 0, 1) := by decide +kernel
theorem dX2_readStatement_128 : decode cX2_readStatement 128 = .ok (.iconst 0, 1) := by decide +kernel
theorem dX2_readStatement_129 : decode cX2_readStatement 129 = .ok (.bipush 9, 2) := by decide +kernel
theorem dX2_readStatement_131 : decode cX2_readStatement 131 = .ok (.invokevirtual 94, 3) := by decide +kernel
theorem dX2_readStatement_134 : decode cX2_readStatement 134 = .ok (.putfield 103, 3) := by decide +kernel
theorem dX2_readStatement_137 : decode cX2_readStatement 137 = .ok (.goto 7, 3) := by decide +kernel
theorem dX2_readStatement_140 : decode cX2_readStatement 140 = .ok (.aload_n 0, 1) := by decide +kernel
theorem dX2_readStatement_141 : decode cX2_readStatement 141 = .ok (.invokevirtual 40, 3) := by decide +kernel
theorem dX2_readStatement_144 : decode cX2_readStatement 144 = .ok (.return_, 1) := by decide +kernel

def f_X2_readStatement (fu : Nat) (M : gz_M) (a0 : Nat) (a1 : Nat) : Option (gz_M) :=
  gz_gd M 2 a0 <|
  (f_X2_isWord fu M a0 0).bind fun x1 =>
  gz_jn (fun (M24 : gz_M) =>
  some M24) fun j144 =>
  if x1 = 0 then
    (f_X2_isWord fu M a0 3).bind fun x3 =>
    if x3 = 0 then
      (f_X2_isWord fu M a0 5).bind fun x5 =>
      if x5 = 0 then
        (f_X2_isWord fu M a0 6).bind fun x9 =>
        if x9 = 0 then
          (f_X2_isWord fu M a0 7).bind fun x13 =>
          if x13 = 0 then
            (f_X2_isWord fu M a0 8).bind fun x18 =>
            if x18 = 0 then
              (f_X2_fail fu M a0).bind fun M23 =>
              j144 M23
            else
              (f_X2_next fu M a0).bind fun M19 =>
              gz_b2 (f_X2_number fu M19 a0 (0 : Int32) (9 : Int32)) fun x20 M21 =>
              (gz_pI M21 7 7 a1 x20).bind fun M22 =>
              j144 M22
          else
            (f_X2_next fu M a0).bind fun M14 =>
            gz_b2 (f_X2_number fu M14 a0 (0 : Int32) (99 : Int32)) fun x15 M16 =>
            (gz_pI M16 7 6 a1 x15).bind fun M17 =>
            j144 M17
        else
          (f_X2_next fu M a0).bind fun M10 =>
          (gz_gR M10 7 3 a1).bind fun x11 =>
          (f_X2_readMeasures fu M10 a0 x11 (30 : Int32)).bind fun M12 =>
          j144 M12
      else
        (f_X2_next fu M a0).bind fun M6 =>
        (gz_gR M6 7 2 a1).bind fun x7 =>
        (f_X2_readMeasures fu M6 a0 x7 (9 : Int32)).bind fun M8 =>
        j144 M8
    else
      (f_X2_readLast fu M a0 a1).bind fun M4 =>
      j144 M4
  else
    (f_X2_readFoot fu M a0 a1).bind fun M2 =>
    j144 M2

set_option maxHeartbeats 4000000 in
theorem ct_X2_readStatement (l : Launch) (G : gz_G) (fu : Nat) (M : gz_M) (a0 : Nat) (a1 : Nat) (y : gz_M) (hF : f_X2_readStatement fu M a0 a1 = some y) : gz_ct l yX2_readStatement cX2_readStatement 2 none 6 132 0 0 G [.ref a0, .ref a1] M none y := by
  refine gz_ct.of (by decide) (Nat.le_of_ble_eq_true rfl) (fun C hC hX => ?_)
  unfold f_X2_readStatement at hF
  obtain ⟨-, hF⟩ := gz_gd_some hF
  show gz_go C 0 0 M [(0, .ref a0), (1, .ref a1)] 0 []
  refine gz_aload_n 0 hC 0 dX2_readStatement_0 rfl rfl ?_
  refine gz_ldcs 1 hC 0 rfl dX2_readStatement_1 ?_
  refine gz_cvP (st := []) 3 hC hX [.ref (C.2.2.2.2.2.2.2 0)] Value.int yl_X2_isWord yv_X2_isWord q_599 ⟨Nat.le_of_ble_eq_true rfl, Nat.le_of_ble_eq_true rfl⟩ ⟨_, rfl⟩ (fun r h => ct_X2_isWord _ _ fu M a0 0 r h) rfl rfl (Nat.le_of_ble_eq_true rfl) dX2_readStatement_3 gz_00 hF (fun x1 hF => ?_)
  refine gz_join (fun (j : gz_M → Option (gz_M)) => ∀ (M24 : gz_M), j M24 = some y → gz_go C 0 0 M24 [] 144 []) hF (fun M24 hF => ?_) (fun j144 hj144 hF => ?_)
  · skip
    exact gz_vretM 144 hC hX dX2_readStatement_144 hF
  refine gz_if_eq 6 17 hC dX2_readStatement_6 (by decide) hF (fun hF => ?_) (fun hF => ?_)
  · skip
    refine gz_aload_n 17 hC 0 dX2_readStatement_17 rfl rfl ?_
    refine gz_ldcs 18 hC 3 rfl dX2_readStatement_18 ?_
    refine gz_cvP (st := []) 20 hC hX [.ref (C.2.2.2.2.2.2.2 3)] Value.int yl_X2_isWord yv_X2_isWord q_599 ⟨Nat.le_of_ble_eq_true rfl, Nat.le_of_ble_eq_true rfl⟩ ⟨_, rfl⟩ (fun r h => ct_X2_isWord _ _ fu M a0 3 r h) rfl rfl (Nat.le_of_ble_eq_true rfl) dX2_readStatement_20 gz_00 hF (fun x3 hF => ?_)
    refine gz_if_eq 23 34 hC dX2_readStatement_23 (by decide) hF (fun hF => ?_) (fun hF => ?_)
    · skip
      refine gz_aload_n 34 hC 0 dX2_readStatement_34 rfl rfl ?_
      refine gz_ldcs 35 hC 5 rfl dX2_readStatement_35 ?_
      refine gz_cvP (st := []) 37 hC hX [.ref (C.2.2.2.2.2.2.2 5)] Value.int yl_X2_isWord yv_X2_isWord q_599 ⟨Nat.le_of_ble_eq_true rfl, Nat.le_of_ble_eq_true rfl⟩ ⟨_, rfl⟩ (fun r h => ct_X2_isWord _ _ fu M a0 5 r h) rfl rfl (Nat.le_of_ble_eq_true rfl) dX2_readStatement_37 gz_00 hF (fun x5 hF => ?_)
      refine gz_if_eq 40 60 hC dX2_readStatement_40 (by decide) hF (fun hF => ?_) (fun hF => ?_)
      · skip
        refine gz_aload_n 60 hC 0 dX2_readStatement_60 rfl rfl ?_
        refine gz_ldcs 61 hC 6 rfl dX2_readStatement_61 ?_
        refine gz_cvP (st := []) 63 hC hX [.ref (C.2.2.2.2.2.2.2 6)] Value.int yl_X2_isWord yv_X2_isWord q_599 ⟨Nat.le_of_ble_eq_true rfl, Nat.le_of_ble_eq_true rfl⟩ ⟨_, rfl⟩ (fun r h => ct_X2_isWord _ _ fu M a0 6 r h) rfl rfl (Nat.le_of_ble_eq_true rfl) dX2_readStatement_63 gz_00 hF (fun x9 hF => ?_)
        refine gz_if_eq 66 86 hC dX2_readStatement_66 (by decide) hF (fun hF => ?_) (fun hF => ?_)
        · skip
          refine gz_aload_n 86 hC 0 dX2_readStatement_86 rfl rfl ?_
          refine gz_ldcs 87 hC 7 rfl dX2_readStatement_87 ?_
          refine gz_cvP (st := []) 89 hC hX [.ref (C.2.2.2.2.2.2.2 7)] Value.int yl_X2_isWord yv_X2_isWord q_599 ⟨Nat.le_of_ble_eq_true rfl, Nat.le_of_ble_eq_true rfl⟩ ⟨_, rfl⟩ (fun r h => ct_X2_isWord _ _ fu M a0 7 r h) rfl rfl (Nat.le_of_ble_eq_true rfl) dX2_readStatement_89 gz_00 hF (fun x13 hF => ?_)
          refine gz_if_eq 92 113 hC dX2_readStatement_92 (by decide) hF (fun hF => ?_) (fun hF => ?_)
          · skip
            refine gz_aload_n 113 hC 0 dX2_readStatement_113 rfl rfl ?_
            refine gz_ldcs 114 hC 8 rfl dX2_readStatement_114 ?_
            refine gz_cvP (st := []) 116 hC hX [.ref (C.2.2.2.2.2.2.2 8)] Value.int yl_X2_isWord yv_X2_isWord q_599 ⟨Nat.le_of_ble_eq_true rfl, Nat.le_of_ble_eq_true rfl⟩ ⟨_, rfl⟩ (fun r h => ct_X2_isWord _ _ fu M a0 8 r h) rfl rfl (Nat.le_of_ble_eq_true rfl) dX2_readStatement_116 gz_00 hF (fun x18 hF => ?_)
            refine gz_if_eq 119 140 hC dX2_readStatement_119 (by decide) hF (fun hF => ?_) (fun hF => ?_)
            · skip
              refine gz_aload_n 140 hC 0 dX2_readStatement_140 rfl rfl ?_
              refine gz_cvV (st := []) 141 hC hX [] yl_X2_fail yv_X2_fail q_655 ⟨Nat.le_of_ble_eq_true rfl, Nat.le_of_ble_eq_true rfl⟩ ⟨_, rfl⟩ (fun r h => ct_X2_fail _ _ fu M a0 r h) rfl rfl (Nat.le_of_ble_eq_true rfl) dX2_readStatement_141 gz_00 hF (fun M23 hF => ?_)
              refine gz_sub [] [] rfl ?_
              exact hj144 _ hF
            · skip
              refine gz_aload_n 122 hC 0 dX2_readStatement_122 rfl rfl ?_
              refine gz_cvV (st := []) 123 hC hX [] yl_X2_next yv_X2_next q_583 ⟨Nat.le_of_ble_eq_true rfl, Nat.le_of_ble_eq_true rfl⟩ ⟨_, rfl⟩ (fun r h => ct_X2_next _ _ fu M a0 r h) rfl rfl (Nat.le_of_ble_eq_true rfl) dX2_readStatement_123 gz_00 hF (fun M19 hF => ?_)
              refine gz_aload_n 126 hC 1 dX2_readStatement_126 rfl rfl ?_
              refine gz_aload_n 127 hC 0 dX2_readStatement_127 rfl rfl ?_
              refine gz_iconst 128 hC (0 : Int32) dX2_readStatement_128 gz_k0 ?_
              refine gz_bipush 129 hC (9 : Int32) dX2_readStatement_129 gz_b9 ?_
              refine gz_cvM (st := [.ref a1]) 131 hC hX [.int (0 : Int32), .int (9 : Int32)] Value.int yl_X2_number yv_X2_number q_659 ⟨Nat.le_of_ble_eq_true rfl, Nat.le_of_ble_eq_true rfl⟩ ⟨_, rfl⟩ (fun r h => ct_X2_number _ _ fu M19 a0 (0 : Int32) (9 : Int32) r h) rfl rfl (Nat.le_of_ble_eq_true rfl) dX2_readStatement_131 gz_00 hF (fun x20 M21 hF => ?_)
              refine gz_putI 134 hC fl_X2_103 fk_7_7 dX2_readStatement_134 hF (fun M22 hF => ?_)
              refine gz_goto 137 144 hC dX2_readStatement_137 (by decide) ?_
              refine gz_sub [] [] rfl ?_
              exact hj144 _ hF
          · skip
            refine gz_aload_n 95 hC 0 dX2_readStatement_95 rfl rfl ?_
            refine gz_cvV (st := []) 96 hC hX [] yl_X2_next yv_X2_next q_583 ⟨Nat.le_of_ble_eq_true rfl, Nat.le_of_ble_eq_true rfl⟩ ⟨_, rfl⟩ (fun r h => ct_X2_next _ _ fu M a0 r h) rfl rfl (Nat.le_of_ble_eq_true rfl) dX2_readStatement_96 gz_00 hF (fun M14 hF => ?_)
            refine gz_aload_n 99 hC 1 dX2_readStatement_99 rfl rfl ?_
            refine gz_aload_n 100 hC 0 dX2_readStatement_100 rfl rfl ?_
            refine gz_iconst 101 hC (0 : Int32) dX2_readStatement_101 gz_k0 ?_
            refine gz_bipush 102 hC (99 : Int32) dX2_readStatement_102 gz_b99 ?_
            refine gz_cvM (st := [.ref a1]) 104 hC hX [.int (0 : Int32), .int (99 : Int32)] Value.int yl_X2_number yv_X2_number q_659 ⟨Nat.le_of_ble_eq_true rfl, Nat.le_of_ble_eq_true rfl⟩ ⟨_, rfl⟩ (fun r h => ct_X2_number _ _ fu M14 a0 (0 : Int32) (99 : Int32) r h) rfl rfl (Nat.le_of_ble_eq_true rfl) dX2_readStatement_104 gz_00 hF (fun x15 M16 hF => ?_)
            refine gz_putI 107 hC fl_X2_98 fk_7_6 dX2_readStatement_107 hF (fun M17 hF => ?_)
            refine gz_goto 110 144 hC dX2_readStatement_110 (by decide) ?_
            refine gz_sub [] [] rfl ?_
            exact hj144 _ hF
        · skip
          refine gz_aload_n 69 hC 0 dX2_readStatement_69 rfl rfl ?_
          refine gz_cvV (st := []) 70 hC hX [] yl_X2_next yv_X2_next q_583 ⟨Nat.le_of_ble_eq_true rfl, Nat.le_of_ble_eq_true rfl⟩ ⟨_, rfl⟩ (fun r h => ct_X2_next _ _ fu M a0 r h) rfl rfl (Nat.le_of_ble_eq_true rfl) dX2_readStatement_70 gz_00 hF (fun M10 hF => ?_)
          refine gz_aload_n 73 hC 0 dX2_readStatement_73 rfl rfl ?_
          refine gz_aload_n 74 hC 1 dX2_readStatement_74 rfl rfl ?_
          refine gz_getR 75 hC fl_X2_90 fk_7_3 dX2_readStatement_75 hF (fun x11 hF => ?_)
          refine gz_bipush 78 hC (30 : Int32) dX2_readStatement_78 gz_b30 ?_
          refine gz_cvV (st := []) 80 hC hX [.ref x11, .int (30 : Int32)] yl_X2_readMeasures yv_X2_readMeasures q_690 ⟨Nat.le_of_ble_eq_true rfl, Nat.le_of_ble_eq_true rfl⟩ ⟨_, rfl⟩ (fun r h => ct_X2_readMeasures _ _ fu M10 a0 x11 (30 : Int32) r h) rfl rfl (Nat.le_of_ble_eq_true rfl) dX2_readStatement_80 gz_00 hF (fun M12 hF => ?_)
          refine gz_goto 83 144 hC dX2_readStatement_83 (by decide) ?_
          refine gz_sub [] [] rfl ?_
          exact hj144 _ hF
      · skip
        refine gz_aload_n 43 hC 0 dX2_readStatement_43 rfl rfl ?_
        refine gz_cvV (st := []) 44 hC hX [] yl_X2_next yv_X2_next q_583 ⟨Nat.le_of_ble_eq_true rfl, Nat.le_of_ble_eq_true rfl⟩ ⟨_, rfl⟩ (fun r h => ct_X2_next _ _ fu M a0 r h) rfl rfl (Nat.le_of_ble_eq_true rfl) dX2_readStatement_44 gz_00 hF (fun M6 hF => ?_)
        refine gz_aload_n 47 hC 0 dX2_readStatement_47 rfl rfl ?_
        refine gz_aload_n 48 hC 1 dX2_readStatement_48 rfl rfl ?_
        refine gz_getR 49 hC fl_X2_81 fk_7_2 dX2_readStatement_49 hF (fun x7 hF => ?_)
        refine gz_bipush 52 hC (9 : Int32) dX2_readStatement_52 gz_b9 ?_
        refine gz_cvV (st := []) 54 hC hX [.ref x7, .int (9 : Int32)] yl_X2_readMeasures yv_X2_readMeasures q_690 ⟨Nat.le_of_ble_eq_true rfl, Nat.le_of_ble_eq_true rfl⟩ ⟨_, rfl⟩ (fun r h => ct_X2_readMeasures _ _ fu M6 a0 x7 (9 : Int32) r h) rfl rfl (Nat.le_of_ble_eq_true rfl) dX2_readStatement_54 gz_00 hF (fun M8 hF => ?_)
        refine gz_goto 57 144 hC dX2_readStatement_57 (by decide) ?_
        refine gz_sub [] [] rfl ?_
        exact hj144 _ hF
    · skip
      refine gz_aload_n 26 hC 0 dX2_readStatement_26 rfl rfl ?_
      refine gz_aload_n 27 hC 1 dX2_readStatement_27 rfl rfl ?_
      refine gz_cvV (st := []) 28 hC hX [.ref a1] yl_X2_readLast yv_X2_readLast q_675 ⟨Nat.le_of_ble_eq_true rfl, Nat.le_of_ble_eq_true rfl⟩ ⟨_, rfl⟩ (fun r h => ct_X2_readLast _ _ fu M a0 a1 r h) rfl rfl (Nat.le_of_ble_eq_true rfl) dX2_readStatement_28 gz_00 hF (fun M4 hF => ?_)
      refine gz_goto 31 144 hC dX2_readStatement_31 (by decide) ?_
      refine gz_sub [] [] rfl ?_
      exact hj144 _ hF
  · skip
    refine gz_aload_n 9 hC 0 dX2_readStatement_9 rfl rfl ?_
    refine gz_aload_n 10 hC 1 dX2_readStatement_10 rfl rfl ?_
    refine gz_cvV (st := []) 11 hC hX [.ref a1] yl_X2_readFoot yv_X2_readFoot q_651 ⟨Nat.le_of_ble_eq_true rfl, Nat.le_of_ble_eq_true rfl⟩ ⟨_, rfl⟩ (fun r h => ct_X2_readFoot _ _ fu M a0 a1 r h) rfl rfl (Nat.le_of_ble_eq_true rfl) dX2_readStatement_11 gz_00 hF (fun M2 hF => ?_)
    refine gz_goto 14 144 hC dX2_readStatement_14 (by decide) ?_
    refine gz_sub [] [] rfl ?_
    exact hj144 _ hF

theorem dX2_readInto_0 : decode cX2_readInto 0 = .ok (.aload_n 1, 1) := by decide +kernel
theorem dX2_readInto_1 : decode cX2_readInto 1 = .ok (.invokevirtual 28, 3) := by decide +kernel
theorem dX2_readInto_4 : decode cX2_readInto 4 = .ok (.aload_n 0, 1) := by decide +kernel
theorem dX2_readInto_5 : decode cX2_readInto 5 = .ok (.iconst (-1), 1) := by decide +kernel
theorem dX2_readInto_6 : decode cX2_readInto 6 = .ok (.putfield 21, 3) := by decide +kernel
theorem dX2_readInto_9 : decode cX2_readInto 9 = .ok (.aload_n 0, 1) := by decide +kernel
theorem dX2_readInto_10 : decode cX2_readInto 10 = .ok (.iconst 0, 1) := by decide +kernel
theorem dX2_readInto_11 : decode cX2_readInto 11 = .ok (.putfield 18, 3) := by decide +kernel
theorem dX2_readInto_14 : decode cX2_readInto 14 = .ok (.aload_n 0, 1) := by decide +kernel
theorem dX2_readInto_15 : decode cX2_readInto 15 = .ok (.invokevirtual 33, 3) := by decide +kernel
theorem dX2_readInto_18 : decode cX2_readInto 18 = .ok (.aload_n 0, 1) := by decide +kernel
theorem dX2_readInto_19 : decode cX2_readInto 19 = .ok (.aload_n 1, 1) := by decide +kernel
theorem dX2_readInto_20 : decode cX2_readInto 20 = .ok (.invokevirtual 36, 3) := by decide +kernel
theorem dX2_readInto_23 : decode cX2_readInto 23 = .ok (.iconst 0, 1) := by decide +kernel
theorem dX2_readInto_24 : decode cX2_readInto 24 = .ok (.istore_n 2, 1) := by decide +kernel
theorem dX2_readInto_25 : decode cX2_readInto 25 = .ok (.iload_n 2, 1) := by decide +kernel
theorem dX2_readInto_26 : decode cX2_readInto 26 = .ok (.sipush 250, 3) := by decide +kernel
theorem dX2_readInto_29 : decode cX2_readInto 29 = .ok (.if_icmp .ge 34, 3) := by decide +kernel
theorem dX2_readInto_32 : decode cX2_readInto 32 = .ok (.aload_n 0, 1) := by decide +kernel
theorem dX2_readInto_33 : decode cX2_readInto 33 = .ok (.getfield 21, 3) := by decide +kernel
theorem dX2_readInto_36 : decode cX2_readInto 36 = .ok (.iconst (-1), 1) := by decide +kernel
theorem dX2_readInto_37 : decode cX2_readInto 37 = .ok (.if_icmp .ne 26, 3) := by decide +kernel
theorem dX2_readInto_40 : decode cX2_readInto 40 = .ok (.aload_n 0, 1) := by decide +kernel
theorem dX2_readInto_41 : decode cX2_readInto 41 = .ok (.getfield 11, 3) := by decide +kernel
theorem dX2_readInto_44 : decode cX2_readInto 44 = .ok (.iconst 3, 1) := by decide +kernel
theorem dX2_readInto_45 : decode cX2_readInto 45 = .ok (.if_icmp .ne 18, 3) := by decide +kernel
theorem dX2_readInto_48 : decode cX2_readInto 48 = .ok (.aload_n 0, 1) := by decide +kernel
theorem dX2_readInto_49 : decode cX2_readInto 49 = .ok (.invokevirtual 33, 3) := by decide +kernel
theorem dX2_readInto_52 : decode cX2_readInto 52 = .ok (.aload_n 0, 1) := by decide +kernel
theorem dX2_readInto_53 : decode cX2_readInto 53 = .ok (.aload_n 1, 1) := by decide +kernel
theorem dX2_readInto_54 : decode cX2_readInto 54 = .ok (.invokevirtual 36, 3) := by decide +kernel
theorem dX2_readInto_57 : decode cX2_readInto 57 = .ok (.iinc 2 1, 3) := by decide +kernel
theorem dX2_readInto_60 : decode cX2_readInto 60 = .ok (.goto (-35), 3) := by decide +kernel
theorem dX2_readInto_63 : decode cX2_readInto 63 = .ok (.aload_n 0, 1) := by decide +kernel
theorem dX2_readInto_64 : decode cX2_readInto 64 = .ok (.getfield 11, 3) := by decide +kernel
theorem dX2_readInto_67 : decode cX2_readInto 67 = .ok (.ifCond .eq 7, 3) := by decide +kernel
theorem dX2_readInto_70 : decode cX2_readInto 70 = .ok (.aload_n 0, 1) := by decide +kernel
theorem dX2_readInto_71 : decode cX2_readInto 71 = .ok (.invokevirtual 40, 3) := by decide +kernel
theorem dX2_readInto_74 : decode cX2_readInto 74 = .ok (.aload_n 0, 1) := by decide +kernel
theorem dX2_readInto_75 : decode cX2_readInto 75 = .ok (.getfield 21, 3) := by decide +kernel
theorem dX2_readInto_78 : decode cX2_readInto 78 = .ok (.ireturn, 1) := by decide +kernel
def lp_X2_readInto_25 (j63 : gz_M → Option (Int32 × gz_M)) (fu : Nat) (a0 : Nat) (a1 : Nat) : Nat → Int32 → gz_M → Option (Int32 × gz_M)
  | 0, _, _ => none
  | n25 + 1, x6, M7 =>
    if (250 : Int32) ≤ x6 then
      j63 M7
    else
      (gz_gI M7 2 4 a0).bind fun x8 =>
      if x8 = (-1 : Int32) then
        (gz_gI M7 2 1 a0).bind fun x9 =>
        if x9 = (3 : Int32) then
          (f_X2_next fu M7 a0).bind fun M10 =>
          (f_X2_readStatement fu M10 a0 a1).bind fun M11 =>
          lp_X2_readInto_25 j63 fu a0 a1 n25 (x6 + (1 : Int32)) M11
        else
          j63 M7
      else
        j63 M7
def f_X2_readInto (fu : Nat) (M : gz_M) (a0 : Nat) (a1 : Nat) : Option (Int32 × gz_M) :=
  gz_gd M 2 a0 <|
  (f_X7_becomeEmpty fu M a1).bind fun M1 =>
  (gz_pI M1 2 4 a0 (-1 : Int32)).bind fun M2 =>
  (gz_pI M2 2 3 a0 (0 : Int32)).bind fun M3 =>
  (f_X2_next fu M3 a0).bind fun M4 =>
  (f_X2_readStatement fu M4 a0 a1).bind fun M5 =>
  lp_X2_readInto_25 (fun (M12 : gz_M) => (gz_gI M12 2 1 a0).bind fun x13 =>
    gz_jn (fun (M15 : gz_M) =>
    (gz_gI M15 2 4 a0).bind fun x16 =>
      some (x16, M15)) fun j74 =>
    if x13 = 0 then
      j74 M12
    else
      (f_X2_fail fu M12 a0).bind fun M14 =>
      j74 M14) fu a0 a1 fu (0 : Int32) M5
set_option maxHeartbeats 4000000 in
theorem w_X2_readInto_25 {C : gz_C} {y : Int32 × gz_M} {fu : Nat} {a0 : Nat} {a1 : Nat} {j63 : gz_M → Option (Int32 × gz_M)} (hC : gz_ok C cX2_readInto RX2 3) (hX : gz_cx C 7 153 0 0 (some .int) (some (.int y.1)) y.2 "readInto") (hj63 : ∀ (M12 : gz_M), j63 M12 = some y → gz_go C 0 0 M12 [(0, .ref a0)] 63 []) : ∀ (n : Nat) (x6 : Int32) (M7 : gz_M), lp_X2_readInto_25 j63 fu a0 a1 n x6 M7 = some y → gz_go C 0 0 M7 [(0, .ref a0), (1, .ref a1), (2, .int x6)] 25 [] := by
  intro n
  induction n with
  | zero => intro x6 M7 hF; exact nomatch (show (none : Option (Int32 × gz_M)) = some y from hF)
  | succ n25 ih25 =>
    intro x6 M7 hF
    rw [lp_X2_readInto_25.eq_2] at hF
    refine gz_iload_n 25 hC 2 dX2_readInto_25 rfl rfl ?_
    refine gz_sipush 26 hC (250 : Int32) dX2_readInto_26 gz_s250 ?_
    refine gz_icmp_ge 29 63 hC dX2_readInto_29 (by decide) hF (fun hF => ?_) (fun hF => ?_)
    · skip
      refine gz_sub [0] [(0, .ref a0)] rfl ?_
      exact hj63 _ hF
    · skip
      refine gz_aload_n 32 hC 0 dX2_readInto_32 rfl rfl ?_
      refine gz_getI 33 hC fl_X2_21 fk_2_4 dX2_readInto_33 hF (fun x8 hF => ?_)
      refine gz_iconst 36 hC (-1 : Int32) dX2_readInto_36 gz_km1 ?_
      refine gz_icmp_ne 37 63 hC dX2_readInto_37 (by decide) hF (fun hF => ?_) (fun hF => ?_)
      · skip
        refine gz_sub [0] [(0, .ref a0)] rfl ?_
        exact hj63 _ hF
      · skip
        refine gz_aload_n 40 hC 0 dX2_readInto_40 rfl rfl ?_
        refine gz_getI 41 hC fl_X2_11 fk_2_1 dX2_readInto_41 hF (fun x9 hF => ?_)
        refine gz_iconst 44 hC (3 : Int32) dX2_readInto_44 gz_k3 ?_
        refine gz_icmp_ne 45 63 hC dX2_readInto_45 (by decide) hF (fun hF => ?_) (fun hF => ?_)
        · skip
          refine gz_sub [0] [(0, .ref a0)] rfl ?_
          exact hj63 _ hF
        · skip
          refine gz_aload_n 48 hC 0 dX2_readInto_48 rfl rfl ?_
          refine gz_cvV (st := []) 49 hC hX [] yl_X2_next yv_X2_next q_583 ⟨Nat.le_of_ble_eq_true rfl, Nat.le_of_ble_eq_true rfl⟩ ⟨_, rfl⟩ (fun r h => ct_X2_next _ _ fu M7 a0 r h) rfl rfl (Nat.le_of_ble_eq_true rfl) dX2_readInto_49 gz_00 hF (fun M10 hF => ?_)
          refine gz_aload_n 52 hC 0 dX2_readInto_52 rfl rfl ?_
          refine gz_aload_n 53 hC 1 dX2_readInto_53 rfl rfl ?_
          refine gz_cvV (st := []) 54 hC hX [.ref a1] yl_X2_readStatement yv_X2_readStatement q_594 ⟨Nat.le_of_ble_eq_true rfl, Nat.le_of_ble_eq_true rfl⟩ ⟨_, rfl⟩ (fun r h => ct_X2_readStatement _ _ fu M10 a0 a1 r h) rfl rfl (Nat.le_of_ble_eq_true rfl) dX2_readInto_54 gz_00 hF (fun M11 hF => ?_)
          refine gz_iinc 57 hC (x6 + (1 : Int32)) 2 [(2, .int (x6 + (1 : Int32))), (0, .ref a0), (1, .ref a1)] dX2_readInto_57 rfl rfl (by decide) rfl ?_
          refine gz_goto 60 25 hC dX2_readInto_60 (by decide) ?_
          refine gz_sub [1, 2, 0] [(0, .ref a0), (1, .ref a1), (2, .int (x6 + (1 : Int32)))] rfl ?_
          exact ih25 _ _ hF
set_option maxHeartbeats 4000000 in
theorem ct_X2_readInto (l : Launch) (G : gz_G) (fu : Nat) (M : gz_M) (a0 : Nat) (a1 : Nat) (y : Int32 × gz_M) (hF : f_X2_readInto fu M a0 a1 = some y) : gz_ct l yX2_readInto cX2_readInto 3 (some .int) 7 153 0 0 G [.ref a0, .ref a1] M (some (.int y.1)) y.2 := by
  refine gz_ct.of (by decide) (Nat.le_of_ble_eq_true rfl) (fun C hC hX => ?_)
  unfold f_X2_readInto at hF
  obtain ⟨-, hF⟩ := gz_gd_some hF
  show gz_go C 0 0 M [(0, .ref a0), (1, .ref a1)] 0 []
  refine gz_aload_n 0 hC 1 dX2_readInto_0 rfl rfl ?_
  refine gz_cvV (st := []) 1 hC hX [] yl_X7_becomeEmpty yv_X7_becomeEmpty q_576 ⟨Nat.le_of_ble_eq_true rfl, Nat.le_of_ble_eq_true rfl⟩ ⟨_, rfl⟩ (fun r h => ct_X7_becomeEmpty _ _ fu M a1 r h) rfl rfl (Nat.le_of_ble_eq_true rfl) dX2_readInto_1 gz_00 hF (fun M1 hF => ?_)
  refine gz_aload_n 4 hC 0 dX2_readInto_4 rfl rfl ?_
  refine gz_iconst 5 hC (-1 : Int32) dX2_readInto_5 gz_km1 ?_
  refine gz_putI 6 hC fl_X2_21 fk_2_4 dX2_readInto_6 hF (fun M2 hF => ?_)
  refine gz_aload_n 9 hC 0 dX2_readInto_9 rfl rfl ?_
  refine gz_iconst 10 hC (0 : Int32) dX2_readInto_10 gz_k0 ?_
  refine gz_putI 11 hC fl_X2_18 fk_2_3 dX2_readInto_11 hF (fun M3 hF => ?_)
  refine gz_aload_n 14 hC 0 dX2_readInto_14 rfl rfl ?_
  refine gz_cvV (st := []) 15 hC hX [] yl_X2_next yv_X2_next q_583 ⟨Nat.le_of_ble_eq_true rfl, Nat.le_of_ble_eq_true rfl⟩ ⟨_, rfl⟩ (fun r h => ct_X2_next _ _ fu M3 a0 r h) rfl rfl (Nat.le_of_ble_eq_true rfl) dX2_readInto_15 gz_00 hF (fun M4 hF => ?_)
  refine gz_aload_n 18 hC 0 dX2_readInto_18 rfl rfl ?_
  refine gz_aload_n 19 hC 1 dX2_readInto_19 rfl rfl ?_
  refine gz_cvV (st := []) 20 hC hX [.ref a1] yl_X2_readStatement yv_X2_readStatement q_594 ⟨Nat.le_of_ble_eq_true rfl, Nat.le_of_ble_eq_true rfl⟩ ⟨_, rfl⟩ (fun r h => ct_X2_readStatement _ _ fu M4 a0 a1 r h) rfl rfl (Nat.le_of_ble_eq_true rfl) dX2_readInto_20 gz_00 hF (fun M5 hF => ?_)
  refine gz_iconst 23 hC (0 : Int32) dX2_readInto_23 gz_k0 ?_
  refine gz_istore_n 24 hC [(2, .int (0 : Int32)), (0, .ref a0), (1, .ref a1)] dX2_readInto_24 rfl (by decide) rfl ?_
  refine gz_sub [1, 2, 0] [(0, .ref a0), (1, .ref a1), (2, .int (0 : Int32))] rfl ?_
  refine w_X2_readInto_25 hC hX ?_ _ _ _ hF
  intro M12 hF
  refine gz_aload_n 63 hC 0 dX2_readInto_63 rfl rfl ?_
  refine gz_getI 64 hC fl_X2_11 fk_2_1 dX2_readInto_64 hF (fun x13 hF => ?_)
  refine gz_join (fun (j : gz_M → Option (Int32 × gz_M)) => ∀ (M15 : gz_M), j M15 = some y → gz_go C 0 0 M15 [(0, .ref a0)] 74 []) hF (fun M15 hF => ?_) (fun j74 hj74 hF => ?_)
  · skip
    refine gz_aload_n 74 hC 0 dX2_readInto_74 rfl rfl ?_
    refine gz_getI 75 hC fl_X2_21 fk_2_4 dX2_readInto_75 hF (fun x16 hF => ?_)
    exact gz_iretM 78 hC hX dX2_readInto_78 hF
  refine gz_if_eq 67 74 hC dX2_readInto_67 (by decide) hF (fun hF => ?_) (fun hF => ?_)
  · skip
    exact hj74 _ hF
  · skip
    refine gz_aload_n 70 hC 0 dX2_readInto_70 rfl rfl ?_
    refine gz_cvV (st := []) 71 hC hX [] yl_X2_fail yv_X2_fail q_655 ⟨Nat.le_of_ble_eq_true rfl, Nat.le_of_ble_eq_true rfl⟩ ⟨_, rfl⟩ (fun r h => ct_X2_fail _ _ fu M12 a0 r h) rfl rfl (Nat.le_of_ble_eq_true rfl) dX2_readInto_71 gz_00 hF (fun M14 hF => ?_)
    exact hj74 _ hF

theorem dJ7_rangeCheck_23922_0 : decode cJ7_rangeCheck_23922 0 = .ok (.iload_n 1, 1) := by decide +kernel
theorem dJ7_rangeCheck_23922_1 : decode cJ7_rangeCheck_23922 1 = .ok (.iload_n 2, 1) := by decide +kernel
theorem dJ7_rangeCheck_23922_2 : decode cJ7_rangeCheck_23922 2 = .ok (.if_icmp .le 44, 3) := by decide +kernel
theorem dJ7_rangeCheck_23922_5 : decode cJ7_rangeCheck_23922 5 = .ok (.new 43, 3) := by decide +kernel
theorem dJ7_rangeCheck_23922_8 : decode cJ7_rangeCheck_23922 8 = .ok (.dup, 1) := by decide +kernel
theorem dJ7_rangeCheck_23922_9 : decode cJ7_rangeCheck_23922 9 = .ok (.new 45, 3) := by decide +kernel
theorem dJ7_rangeCheck_23922_12 : decode cJ7_rangeCheck_23922 12 = .ok (.dup, 1) := by decide +kernel
theorem dJ7_rangeCheck_23922_13 : decode cJ7_rangeCheck_23922 13 = .ok (.invokespecial 47, 3) := by decide +kernel
theorem dJ7_rangeCheck_23922_16 : decode cJ7_rangeCheck_23922 16 = .ok (.ldc 48, 2) := by decide +kernel
theorem dJ7_rangeCheck_23922_18 : decode cJ7_rangeCheck_23922 18 = .ok (.invokevirtual 50, 3) := by decide +kernel
theorem dJ7_rangeCheck_23922_21 : decode cJ7_rangeCheck_23922 21 = .ok (.iload_n 1, 1) := by decide +kernel
theorem dJ7_rangeCheck_23922_22 : decode cJ7_rangeCheck_23922 22 = .ok (.invokevirtual 54, 3) := by decide +kernel
theorem dJ7_rangeCheck_23922_25 : decode cJ7_rangeCheck_23922 25 = .ok (.ldc 57, 2) := by decide +kernel
theorem dJ7_rangeCheck_23922_27 : decode cJ7_rangeCheck_23922 27 = .ok (.invokevirtual 50, 3) := by decide +kernel
theorem dJ7_rangeCheck_23922_30 : decode cJ7_rangeCheck_23922 30 = .ok (.iload_n 2, 1) := by decide +kernel
theorem dJ7_rangeCheck_23922_31 : decode cJ7_rangeCheck_23922 31 = .ok (.invokevirtual 54, 3) := by decide +kernel
theorem dJ7_rangeCheck_23922_34 : decode cJ7_rangeCheck_23922 34 = .ok (.ldc 59, 2) := by decide +kernel
theorem dJ7_rangeCheck_23922_36 : decode cJ7_rangeCheck_23922 36 = .ok (.invokevirtual 50, 3) := by decide +kernel
theorem dJ7_rangeCheck_23922_39 : decode cJ7_rangeCheck_23922 39 = .ok (.invokevirtual 61, 3) := by decide +kernel
theorem dJ7_rangeCheck_23922_42 : decode cJ7_rangeCheck_23922 42 = .ok (.invokespecial 65, 3) := by decide +kernel
theorem dJ7_rangeCheck_23922_45 : decode cJ7_rangeCheck_23922 45 = .ok (.athrow, 1) := by decide +kernel
theorem dJ7_rangeCheck_23922_46 : decode cJ7_rangeCheck_23922 46 = .ok (.iload_n 1, 1) := by decide +kernel
theorem dJ7_rangeCheck_23922_47 : decode cJ7_rangeCheck_23922 47 = .ok (.ifCond .ge 12, 3) := by decide +kernel
theorem dJ7_rangeCheck_23922_50 : decode cJ7_rangeCheck_23922 50 = .ok (.new 68, 3) := by decide +kernel
theorem dJ7_rangeCheck_23922_53 : decode cJ7_rangeCheck_23922 53 = .ok (.dup, 1) := by decide +kernel
theorem dJ7_rangeCheck_23922_54 : decode cJ7_rangeCheck_23922 54 = .ok (.iload_n 1, 1) := by decide +kernel
theorem dJ7_rangeCheck_23922_55 : decode cJ7_rangeCheck_23922 55 = .ok (.invokespecial 70, 3) := by decide +kernel
theorem dJ7_rangeCheck_23922_58 : decode cJ7_rangeCheck_23922 58 = .ok (.athrow, 1) := by decide +kernel
theorem dJ7_rangeCheck_23922_59 : decode cJ7_rangeCheck_23922 59 = .ok (.iload_n 2, 1) := by decide +kernel
theorem dJ7_rangeCheck_23922_60 : decode cJ7_rangeCheck_23922 60 = .ok (.iload_n 0, 1) := by decide +kernel
theorem dJ7_rangeCheck_23922_61 : decode cJ7_rangeCheck_23922 61 = .ok (.if_icmp .le 12, 3) := by decide +kernel
theorem dJ7_rangeCheck_23922_64 : decode cJ7_rangeCheck_23922 64 = .ok (.new 68, 3) := by decide +kernel
theorem dJ7_rangeCheck_23922_67 : decode cJ7_rangeCheck_23922 67 = .ok (.dup, 1) := by decide +kernel
theorem dJ7_rangeCheck_23922_68 : decode cJ7_rangeCheck_23922 68 = .ok (.iload_n 2, 1) := by decide +kernel
theorem dJ7_rangeCheck_23922_69 : decode cJ7_rangeCheck_23922 69 = .ok (.invokespecial 70, 3) := by decide +kernel
theorem dJ7_rangeCheck_23922_72 : decode cJ7_rangeCheck_23922 72 = .ok (.athrow, 1) := by decide +kernel
theorem dJ7_rangeCheck_23922_73 : decode cJ7_rangeCheck_23922 73 = .ok (.return_, 1) := by decide +kernel

def f_J7_rangeCheck_23922 (fu : Nat) (M : gz_M) (a0 : Int32) (a1 : Int32) (a2 : Int32) : Option (Unit) :=
  if a1 ≤ a2 then
    if 0 ≤ a1 then
      if a2 ≤ a0 then
        some ()
      else
        none
    else
      none
  else
    none

set_option maxHeartbeats 4000000 in
theorem ct_J7_rangeCheck_23922 (l : Launch) (G : gz_G) (fu : Nat) (M : gz_M) (a0 : Int32) (a1 : Int32) (a2 : Int32) (y : Unit) (hF : f_J7_rangeCheck_23922 fu M a0 a1 a2 = some y) : gz_ct l yJ7_rangeCheck_23922 cJ7_rangeCheck_23922 3 none 0 0 0 0 G [.int a0, .int a1, .int a2] M none M := by
  refine gz_ct.of (by decide) (Nat.le_of_ble_eq_true rfl) (fun C hC hX => ?_)
  unfold f_J7_rangeCheck_23922 at hF
  show gz_go C 0 0 M [(0, .int a0), (1, .int a1), (2, .int a2)] 0 []
  refine gz_iload_n 0 hC 1 dJ7_rangeCheck_23922_0 rfl rfl ?_
  refine gz_iload_n 1 hC 2 dJ7_rangeCheck_23922_1 rfl rfl ?_
  refine gz_icmp_le 2 46 hC dJ7_rangeCheck_23922_2 (by decide) hF (fun hF => ?_) (fun hF => ?_)
  · skip
    refine gz_iload_n 46 hC 1 dJ7_rangeCheck_23922_46 rfl rfl ?_
    refine gz_if_ge 47 59 hC dJ7_rangeCheck_23922_47 (by decide) hF (fun hF => ?_) (fun hF => ?_)
    · skip
      refine gz_iload_n 59 hC 2 dJ7_rangeCheck_23922_59 rfl rfl ?_
      refine gz_iload_n 60 hC 0 dJ7_rangeCheck_23922_60 rfl rfl ?_
      refine gz_icmp_le 61 73 hC dJ7_rangeCheck_23922_61 (by decide) hF (fun hF => ?_) (fun hF => ?_)
      · skip
        exact gz_vretU 73 hC hX dJ7_rangeCheck_23922_73 hF
      · skip
        exact nomatch hF
    · skip
      exact nomatch hF
  · skip
    exact nomatch hF

theorem dJ7_fill_fda19_0 : decode cJ7_fill_fda19 0 = .ok (.aload_n 0, 1) := by decide +kernel
theorem dJ7_fill_fda19_1 : decode cJ7_fill_fda19 1 = .ok (.arraylength, 1) := by decide +kernel
theorem dJ7_fill_fda19_2 : decode cJ7_fill_fda19 2 = .ok (.iload_n 1, 1) := by decide +kernel
theorem dJ7_fill_fda19_3 : decode cJ7_fill_fda19 3 = .ok (.iload_n 2, 1) := by decide +kernel
theorem dJ7_fill_fda19_4 : decode cJ7_fill_fda19 4 = .ok (.invokestatic 13, 3) := by decide +kernel
theorem dJ7_fill_fda19_7 : decode cJ7_fill_fda19 7 = .ok (.iload_n 1, 1) := by decide +kernel
theorem dJ7_fill_fda19_8 : decode cJ7_fill_fda19 8 = .ok (.istore 4, 2) := by decide +kernel
theorem dJ7_fill_fda19_10 : decode cJ7_fill_fda19 10 = .ok (.iload 4, 2) := by decide +kernel
theorem dJ7_fill_fda19_12 : decode cJ7_fill_fda19 12 = .ok (.iload_n 2, 1) := by decide +kernel
theorem dJ7_fill_fda19_13 : decode cJ7_fill_fda19 13 = .ok (.if_icmp .ge 14, 3) := by decide +kernel
theorem dJ7_fill_fda19_16 : decode cJ7_fill_fda19 16 = .ok (.aload_n 0, 1) := by decide +kernel
theorem dJ7_fill_fda19_17 : decode cJ7_fill_fda19 17 = .ok (.iload 4, 2) := by decide +kernel
theorem dJ7_fill_fda19_19 : decode cJ7_fill_fda19 19 = .ok (.iload_n 3, 1) := by decide +kernel
theorem dJ7_fill_fda19_20 : decode cJ7_fill_fda19 20 = .ok (.iastore, 1) := by decide +kernel
theorem dJ7_fill_fda19_21 : decode cJ7_fill_fda19 21 = .ok (.iinc 4 1, 3) := by decide +kernel
theorem dJ7_fill_fda19_24 : decode cJ7_fill_fda19 24 = .ok (.goto (-14), 3) := by decide +kernel
theorem dJ7_fill_fda19_27 : decode cJ7_fill_fda19 27 = .ok (.return_, 1) := by decide +kernel
def lp_J7_fill_fda19_10 (j27 : gz_M → Option (gz_M)) (a0 : Nat) (a2 : Int32) (a3 : Int32) : Nat → Int32 → gz_M → Option (gz_M)
  | 0, _, _ => none
  | n10 + 1, x2, M3 =>
    if a2 ≤ x2 then
      j27 M3
    else
      (gz_tI M3 a0 x2 a3).bind fun M4 =>
      lp_J7_fill_fda19_10 j27 a0 a2 a3 n10 (x2 + (1 : Int32)) M4
def f_J7_fill_fda19 (fu : Nat) (M : gz_M) (a0 : Nat) (a1 : Int32) (a2 : Int32) (a3 : Int32) : Option (gz_M) :=
  (gz_ln M a0).bind fun x1 =>
  (f_J7_rangeCheck_23922 fu M x1 a1 a2).bind fun _ =>
  lp_J7_fill_fda19_10 (fun (M5 : gz_M) => some M5) a0 a2 a3 fu a1 M
set_option maxHeartbeats 4000000 in
theorem w_J7_fill_fda19_10 {C : gz_C} {y : gz_M} {a0 : Nat} {a2 : Int32} {a3 : Int32} {j27 : gz_M → Option (gz_M)} (hC : gz_ok C cJ7_fill_fda19 RJ7 5) (hX : gz_cx C 1 22 0 0 none none y "fill") (hj27 : ∀ (M5 : gz_M), j27 M5 = some y → gz_go C 0 0 M5 [] 27 []) : ∀ (n : Nat) (x2 : Int32) (M3 : gz_M), lp_J7_fill_fda19_10 j27 a0 a2 a3 n x2 M3 = some y → gz_go C 0 0 M3 [(0, .ref a0), (2, .int a2), (3, .int a3), (4, .int x2)] 10 [] := by
  intro n
  induction n with
  | zero => intro x2 M3 hF; exact nomatch (show (none : Option (gz_M)) = some y from hF)
  | succ n10 ih10 =>
    intro x2 M3 hF
    rw [lp_J7_fill_fda19_10.eq_2] at hF
    refine gz_iload 10 hC 3 dJ7_fill_fda19_10 rfl ?_
    refine gz_iload_n 12 hC 1 dJ7_fill_fda19_12 rfl rfl ?_
    refine gz_icmp_ge 13 27 hC dJ7_fill_fda19_13 (by decide) hF (fun hF => ?_) (fun hF => ?_)
    · skip
      refine gz_sub [] [] rfl ?_
      exact hj27 _ hF
    · skip
      refine gz_aload_n 16 hC 0 dJ7_fill_fda19_16 rfl rfl ?_
      refine gz_iload 17 hC 3 dJ7_fill_fda19_17 rfl ?_
      refine gz_iload_n 19 hC 2 dJ7_fill_fda19_19 rfl rfl ?_
      refine gz_iast 20 hC dJ7_fill_fda19_20 hF (fun M4 hF => ?_)
      refine gz_iinc 21 hC (x2 + (1 : Int32)) 3 [(4, .int (x2 + (1 : Int32))), (0, .ref a0), (2, .int a2), (3, .int a3)] dJ7_fill_fda19_21 rfl rfl (by decide) rfl ?_
      refine gz_goto 24 10 hC dJ7_fill_fda19_24 (by decide) ?_
      refine gz_sub [1, 2, 3, 0] [(0, .ref a0), (2, .int a2), (3, .int a3), (4, .int (x2 + (1 : Int32)))] rfl ?_
      exact ih10 _ _ hF
set_option maxHeartbeats 4000000 in
theorem ct_J7_fill_fda19 (l : Launch) (G : gz_G) (fu : Nat) (M : gz_M) (a0 : Nat) (a1 : Int32) (a2 : Int32) (a3 : Int32) (y : gz_M) (hF : f_J7_fill_fda19 fu M a0 a1 a2 a3 = some y) : gz_ct l yJ7_fill_fda19 cJ7_fill_fda19 5 none 1 22 0 0 G [.ref a0, .int a1, .int a2, .int a3] M none y := by
  refine gz_ct.of (by decide) (Nat.le_of_ble_eq_true rfl) (fun C hC hX => ?_)
  unfold f_J7_fill_fda19 at hF
  show gz_go C 0 0 M [(0, .ref a0), (1, .int a1), (2, .int a2), (3, .int a3)] 0 []
  refine gz_aload_n 0 hC 0 dJ7_fill_fda19_0 rfl rfl ?_
  refine gz_alen 1 hC dJ7_fill_fda19_1 hF (fun x1 hF => ?_)
  refine gz_iload_n 2 hC 1 dJ7_fill_fda19_2 rfl rfl ?_
  refine gz_iload_n 3 hC 2 dJ7_fill_fda19_3 rfl rfl ?_
  refine gz_csU (st := []) 4 hC hX [.int x1, .int a1, .int a2] yl_J7_rangeCheck_23922 yv_J7_rangeCheck_23922 q_831 ⟨Nat.le_of_ble_eq_true rfl, Nat.le_of_ble_eq_true rfl⟩ (fun r h => ct_J7_rangeCheck_23922 _ _ fu M x1 a1 a2 r h) rfl rfl (Nat.le_of_ble_eq_true rfl) dJ7_fill_fda19_4 gz_00 hF (fun _ hF => ?_)
  refine gz_iload_n 7 hC 1 dJ7_fill_fda19_7 rfl rfl ?_
  refine gz_istore 8 hC [(4, .int a1), (0, .ref a0), (1, .int a1), (2, .int a2), (3, .int a3)] dJ7_fill_fda19_8 (by decide) rfl ?_
  refine gz_sub [1, 3, 4, 0] [(0, .ref a0), (2, .int a2), (3, .int a3), (4, .int a1)] rfl ?_
  refine w_J7_fill_fda19_10 hC hX ?_ _ _ _ hF
  intro M5 hF
  exact gz_vretM 27 hC hX dJ7_fill_fda19_27 hF

theorem dX7_lastPart_0 : decode cX7_lastPart 0 = .ok (.aload_n 0, 1) := by decide +kernel
theorem dX7_lastPart_1 : decode cX7_lastPart 1 = .ok (.getfield 15, 3) := by decide +kernel
theorem dX7_lastPart_4 : decode cX7_lastPart 4 = .ok (.iload_n 1, 1) := by decide +kernel
theorem dX7_lastPart_5 : decode cX7_lastPart 5 = .ok (.iconst 4, 1) := by decide +kernel
theorem dX7_lastPart_6 : decode cX7_lastPart 6 = .ok (.imul, 1) := by decide +kernel
theorem dX7_lastPart_7 : decode cX7_lastPart 7 = .ok (.iload_n 2, 1) := by decide +kernel
theorem dX7_lastPart_8 : decode cX7_lastPart 8 = .ok (.iadd, 1) := by decide +kernel
theorem dX7_lastPart_9 : decode cX7_lastPart 9 = .ok (.iaload, 1) := by decide +kernel
theorem dX7_lastPart_10 : decode cX7_lastPart 10 = .ok (.ireturn, 1) := by decide +kernel

def f_X7_lastPart (fu : Nat) (M : gz_M) (a0 : Nat) (a1 : Int32) (a2 : Int32) : Option (Int32) :=
  gz_gd M 7 a0 <|
  (gz_gR M 7 1 a0).bind fun x1 =>
  (gz_aI M x1 ((a1 * (4 : Int32)) + a2)).bind fun x2 =>
  some x2

set_option maxHeartbeats 4000000 in
theorem ct_X7_lastPart (l : Launch) (G : gz_G) (fu : Nat) (M : gz_M) (a0 : Nat) (a1 : Int32) (a2 : Int32) (y : Int32) (hF : f_X7_lastPart fu M a0 a1 a2 = some y) : gz_ct l yX7_lastPart cX7_lastPart 3 (some .int) 0 0 0 0 G [.ref a0, .int a1, .int a2] M (some (.int y)) M := by
  refine gz_ct.of (by decide) (Nat.le_of_ble_eq_true rfl) (fun C hC hX => ?_)
  unfold f_X7_lastPart at hF
  obtain ⟨-, hF⟩ := gz_gd_some hF
  show gz_go C 0 0 M [(0, .ref a0), (1, .int a1), (2, .int a2)] 0 []
  refine gz_aload_n 0 hC 0 dX7_lastPart_0 rfl rfl ?_
  refine gz_getR 1 hC fl_X7_15 fk_7_1 dX7_lastPart_1 hF (fun x1 hF => ?_)
  refine gz_iload_n 4 hC 1 dX7_lastPart_4 rfl rfl ?_
  refine gz_iconst 5 hC (4 : Int32) dX7_lastPart_5 gz_k4 ?_
  refine gz_imul 6 hC dX7_lastPart_6 ?_
  refine gz_iload_n 7 hC 2 dX7_lastPart_7 rfl rfl ?_
  refine gz_iadd 8 hC dX7_lastPart_8 ?_
  refine gz_iald 9 hC dX7_lastPart_9 hF (fun x2 hF => ?_)
  exact gz_iretP 10 hC hX dX7_lastPart_10 hF

theorem dX3_startWithPrices_0 : decode cX3_startWithPrices 0 = .ok (.aload_n 0, 1) := by decide +kernel
theorem dX3_startWithPrices_1 : decode cX3_startWithPrices 1 = .ok (.getfield 15, 3) := by decide +kernel
theorem dX3_startWithPrices_4 : decode cX3_startWithPrices 4 = .ok (.iconst 0, 1) := by decide +kernel
theorem dX3_startWithPrices_5 : decode cX3_startWithPrices 5 = .ok (.aload_n 0, 1) := by decide +kernel
theorem dX3_startWithPrices_6 : decode cX3_startWithPrices 6 = .ok (.getfield 24, 3) := by decide +kernel
theorem dX3_startWithPrices_9 : decode cX3_startWithPrices 9 = .ok (.iconst 0, 1) := by decide +kernel
theorem dX3_startWithPrices_10 : decode cX3_startWithPrices 10 = .ok (.invokestatic 47, 3) := by decide +kernel
theorem dX3_startWithPrices_13 : decode cX3_startWithPrices 13 = .ok (.aload_n 0, 1) := by decide +kernel
theorem dX3_startWithPrices_14 : decode cX3_startWithPrices 14 = .ok (.getfield 18, 3) := by decide +kernel
theorem dX3_startWithPrices_17 : decode cX3_startWithPrices 17 = .ok (.iconst 0, 1) := by decide +kernel
theorem dX3_startWithPrices_18 : decode cX3_startWithPrices 18 = .ok (.aload_n 0, 1) := by decide +kernel
theorem dX3_startWithPrices_19 : decode cX3_startWithPrices 19 = .ok (.getfield 24, 3) := by decide +kernel
theorem dX3_startWithPrices_22 : decode cX3_startWithPrices 22 = .ok (.iconst 0, 1) := by decide +kernel
theorem dX3_startWithPrices_23 : decode cX3_startWithPrices 23 = .ok (.invokestatic 47, 3) := by decide +kernel
theorem dX3_startWithPrices_26 : decode cX3_startWithPrices 26 = .ok (.aload_n 0, 1) := by decide +kernel
theorem dX3_startWithPrices_27 : decode cX3_startWithPrices 27 = .ok (.getfield 9, 3) := by decide +kernel
theorem dX3_startWithPrices_30 : decode cX3_startWithPrices 30 = .ok (.iconst 0, 1) := by decide +kernel
theorem dX3_startWithPrices_31 : decode cX3_startWithPrices 31 = .ok (.iconst 0, 1) := by decide +kernel
theorem dX3_startWithPrices_32 : decode cX3_startWithPrices 32 = .ok (.iastore, 1) := by decide +kernel
theorem dX3_startWithPrices_33 : decode cX3_startWithPrices 33 = .ok (.iconst 0, 1) := by decide +kernel
theorem dX3_startWithPrices_34 : decode cX3_startWithPrices 34 = .ok (.istore_n 2, 1) := by decide +kernel
theorem dX3_startWithPrices_35 : decode cX3_startWithPrices 35 = .ok (.iload_n 2, 1) := by decide +kernel
theorem dX3_startWithPrices_36 : decode cX3_startWithPrices 36 = .ok (.aload_n 1, 1) := by decide +kernel
theorem dX3_startWithPrices_37 : decode cX3_startWithPrices 37 = .ok (.getfield 28, 3) := by decide +kernel
theorem dX3_startWithPrices_40 : decode cX3_startWithPrices 40 = .ok (.if_icmp .ge 55, 3) := by decide +kernel
theorem dX3_startWithPrices_43 : decode cX3_startWithPrices 43 = .ok (.iconst 1, 1) := by decide +kernel
theorem dX3_startWithPrices_44 : decode cX3_startWithPrices 44 = .ok (.iload_n 2, 1) := by decide +kernel
theorem dX3_startWithPrices_45 : decode cX3_startWithPrices 45 = .ok (.ishl, 1) := by decide +kernel
theorem dX3_startWithPrices_46 : decode cX3_startWithPrices 46 = .ok (.istore_n 3, 1) := by decide +kernel
theorem dX3_startWithPrices_47 : decode cX3_startWithPrices 47 = .ok (.aload_n 1, 1) := by decide +kernel
theorem dX3_startWithPrices_48 : decode cX3_startWithPrices 48 = .ok (.iload_n 2, 1) := by decide +kernel
theorem dX3_startWithPrices_49 : decode cX3_startWithPrices 49 = .ok (.iconst 3, 1) := by decide +kernel
theorem dX3_startWithPrices_50 : decode cX3_startWithPrices 50 = .ok (.invokevirtual 53, 3) := by decide +kernel
theorem dX3_startWithPrices_53 : decode cX3_startWithPrices 53 = .ok (.istore 4, 2) := by decide +kernel
theorem dX3_startWithPrices_55 : decode cX3_startWithPrices 55 = .ok (.iconst 0, 1) := by decide +kernel
theorem dX3_startWithPrices_56 : decode cX3_startWithPrices 56 = .ok (.istore 5, 2) := by decide +kernel
theorem dX3_startWithPrices_58 : decode cX3_startWithPrices 58 = .ok (.iload 5, 2) := by decide +kernel
theorem dX3_startWithPrices_60 : decode cX3_startWithPrices 60 = .ok (.iload_n 3, 1) := by decide +kernel
theorem dX3_startWithPrices_61 : decode cX3_startWithPrices 61 = .ok (.if_icmp .ge 28, 3) := by decide +kernel
theorem dX3_startWithPrices_64 : decode cX3_startWithPrices 64 = .ok (.aload_n 0, 1) := by decide +kernel
theorem dX3_startWithPrices_65 : decode cX3_startWithPrices 65 = .ok (.getfield 9, 3) := by decide +kernel
theorem dX3_startWithPrices_68 : decode cX3_startWithPrices 68 = .ok (.iload_n 3, 1) := by decide +kernel
theorem dX3_startWithPrices_69 : decode cX3_startWithPrices 69 = .ok (.iload 5, 2) := by decide +kernel
theorem dX3_startWithPrices_71 : decode cX3_startWithPrices 71 = .ok (.iadd, 1) := by decide +kernel
theorem dX3_startWithPrices_72 : decode cX3_startWithPrices 72 = .ok (.aload_n 0, 1) := by decide +kernel
theorem dX3_startWithPrices_73 : decode cX3_startWithPrices 73 = .ok (.getfield 9, 3) := by decide +kernel
theorem dX3_startWithPrices_76 : decode cX3_startWithPrices 76 = .ok (.iload 5, 2) := by decide +kernel
theorem dX3_startWithPrices_78 : decode cX3_startWithPrices 78 = .ok (.iaload, 1) := by decide +kernel
theorem dX3_startWithPrices_79 : decode cX3_startWithPrices 79 = .ok (.iload 4, 2) := by decide +kernel
theorem dX3_startWithPrices_81 : decode cX3_startWithPrices 81 = .ok (.iadd, 1) := by decide +kernel
theorem dX3_startWithPrices_82 : decode cX3_startWithPrices 82 = .ok (.iastore, 1) := by decide +kernel
theorem dX3_startWithPrices_83 : decode cX3_startWithPrices 83 = .ok (.iinc 5 1, 3) := by decide +kernel
theorem dX3_startWithPrices_86 : decode cX3_startWithPrices 86 = .ok (.goto (-28), 3) := by decide +kernel
theorem dX3_startWithPrices_89 : decode cX3_startWithPrices 89 = .ok (.iinc 2 1, 3) := by decide +kernel
theorem dX3_startWithPrices_92 : decode cX3_startWithPrices 92 = .ok (.goto (-57), 3) := by decide +kernel
theorem dX3_startWithPrices_95 : decode cX3_startWithPrices 95 = .ok (.return_, 1) := by decide +kernel
def lp_X3_startWithPrices_58 (j89 : gz_M → Option (gz_M)) (a0 : Nat) (x9 : Int32) (x12 : Int32) : Nat → Int32 → gz_M → Option (gz_M)
  | 0, _, _ => none
  | n58 + 1, x13, M14 =>
    if ((1 : Int32) <<< (x9 &&& 31)) ≤ x13 then
      j89 M14
    else
      (gz_gR M14 3 0 a0).bind fun x15 =>
      (gz_gR M14 3 0 a0).bind fun x16 =>
      (gz_aI M14 x16 x13).bind fun x17 =>
      (gz_tI M14 x15 (((1 : Int32) <<< (x9 &&& 31)) + x13) (x17 + x12)).bind fun M18 =>
      lp_X3_startWithPrices_58 j89 a0 x9 x12 n58 (x13 + (1 : Int32)) M18
def lp_X3_startWithPrices_35 (j95 : gz_M → Option (gz_M)) (fu : Nat) (a0 : Nat) (a1 : Nat) : Nat → Int32 → gz_M → Option (gz_M)
  | 0, _, _ => none
  | n35 + 1, x9, M10 =>
    (gz_gI M10 7 5 a1).bind fun x11 =>
    if x11 ≤ x9 then
      j95 M10
    else
      (f_X7_lastPart fu M10 a1 x9 (3 : Int32)).bind fun x12 =>
      lp_X3_startWithPrices_58 (fun (M19 : gz_M) => lp_X3_startWithPrices_35 j95 fu a0 a1 n35 (x9 + (1 : Int32)) M19) a0 x9 x12 fu (0 : Int32) M10
def f_X3_startWithPrices (fu : Nat) (M : gz_M) (a0 : Nat) (a1 : Nat) : Option (gz_M) :=
  gz_gd M 3 a0 <|
  (gz_gR M 3 1 a0).bind fun x1 =>
  (gz_gI M 3 4 a0).bind fun x2 =>
  (f_J7_fill_fda19 fu M x1 (0 : Int32) x2 (0 : Int32)).bind fun M3 =>
  (gz_gR M3 3 2 a0).bind fun x4 =>
  (gz_gI M3 3 4 a0).bind fun x5 =>
  (f_J7_fill_fda19 fu M3 x4 (0 : Int32) x5 (0 : Int32)).bind fun M6 =>
  (gz_gR M6 3 0 a0).bind fun x7 =>
  (gz_tI M6 x7 (0 : Int32) (0 : Int32)).bind fun M8 =>
  lp_X3_startWithPrices_35 (fun (M20 : gz_M) => some M20) fu a0 a1 fu (0 : Int32) M8
set_option maxHeartbeats 4000000 in
theorem w_X3_startWithPrices_58 {C : gz_C} {y : gz_M} {a0 : Nat} {x9 : Int32} {x12 : Int32} {a1 : Nat} {j89 : gz_M → Option (gz_M)} (hC : gz_ok C cX3_startWithPrices RX3 6) (hX : gz_cx C 2 46 0 0 none none y "startWithPrices") (hj89 : ∀ (M19 : gz_M), j89 M19 = some y → gz_go C 0 0 M19 [(0, .ref a0), (1, .ref a1), (2, .int x9)] 89 []) : ∀ (n : Nat) (x13 : Int32) (M14 : gz_M), lp_X3_startWithPrices_58 j89 a0 x9 x12 n x13 M14 = some y → gz_go C 0 0 M14 [(0, .ref a0), (1, .ref a1), (2, .int x9), (3, .int ((1 : Int32) <<< (x9 &&& 31))), (4, .int x12), (5, .int x13)] 58 [] := by
  intro n
  induction n with
  | zero => intro x13 M14 hF; exact nomatch (show (none : Option (gz_M)) = some y from hF)
  | succ n58 ih58 =>
    intro x13 M14 hF
    rw [lp_X3_startWithPrices_58.eq_2] at hF
    refine gz_iload 58 hC 5 dX3_startWithPrices_58 rfl ?_
    refine gz_iload_n 60 hC 3 dX3_startWithPrices_60 rfl rfl ?_
    refine gz_icmp_ge 61 89 hC dX3_startWithPrices_61 (by decide) hF (fun hF => ?_) (fun hF => ?_)
    · skip
      refine gz_sub [0, 1, 2] [(0, .ref a0), (1, .ref a1), (2, .int x9)] rfl ?_
      exact hj89 _ hF
    · skip
      refine gz_aload_n 64 hC 0 dX3_startWithPrices_64 rfl rfl ?_
      refine gz_getR 65 hC fl_X3_9 fk_3_0 dX3_startWithPrices_65 hF (fun x15 hF => ?_)
      refine gz_iload_n 68 hC 3 dX3_startWithPrices_68 rfl rfl ?_
      refine gz_iload 69 hC 5 dX3_startWithPrices_69 rfl ?_
      refine gz_iadd 71 hC dX3_startWithPrices_71 ?_
      refine gz_aload_n 72 hC 0 dX3_startWithPrices_72 rfl rfl ?_
      refine gz_getR 73 hC fl_X3_9 fk_3_0 dX3_startWithPrices_73 hF (fun x16 hF => ?_)
      refine gz_iload 76 hC 5 dX3_startWithPrices_76 rfl ?_
      refine gz_iald 78 hC dX3_startWithPrices_78 hF (fun x17 hF => ?_)
      refine gz_iload 79 hC 4 dX3_startWithPrices_79 rfl ?_
      refine gz_iadd 81 hC dX3_startWithPrices_81 ?_
      refine gz_iast 82 hC dX3_startWithPrices_82 hF (fun M18 hF => ?_)
      refine gz_iinc 83 hC (x13 + (1 : Int32)) 5 [(5, .int (x13 + (1 : Int32))), (0, .ref a0), (1, .ref a1), (2, .int x9), (3, .int ((1 : Int32) <<< (x9 &&& 31))), (4, .int x12)] dX3_startWithPrices_83 rfl rfl (by decide) rfl ?_
      refine gz_goto 86 58 hC dX3_startWithPrices_86 (by decide) ?_
      refine gz_sub [1, 2, 3, 4, 5, 0] [(0, .ref a0), (1, .ref a1), (2, .int x9), (3, .int ((1 : Int32) <<< (x9 &&& 31))), (4, .int x12), (5, .int (x13 + (1 : Int32)))] rfl ?_
      exact ih58 _ _ hF
set_option maxHeartbeats 4000000 in
theorem w_X3_startWithPrices_35 {C : gz_C} {y : gz_M} {fu : Nat} {a0 : Nat} {a1 : Nat} {j95 : gz_M → Option (gz_M)} (hC : gz_ok C cX3_startWithPrices RX3 6) (hX : gz_cx C 2 46 0 0 none none y "startWithPrices") (hj95 : ∀ (M20 : gz_M), j95 M20 = some y → gz_go C 0 0 M20 [] 95 []) : ∀ (n : Nat) (x9 : Int32) (M10 : gz_M), lp_X3_startWithPrices_35 j95 fu a0 a1 n x9 M10 = some y → gz_go C 0 0 M10 [(0, .ref a0), (1, .ref a1), (2, .int x9)] 35 [] := by
  intro n
  induction n with
  | zero => intro x9 M10 hF; exact nomatch (show (none : Option (gz_M)) = some y from hF)
  | succ n35 ih35 =>
    intro x9 M10 hF
    rw [lp_X3_startWithPrices_35.eq_2] at hF
    refine gz_iload_n 35 hC 2 dX3_startWithPrices_35 rfl rfl ?_
    refine gz_aload_n 36 hC 1 dX3_startWithPrices_36 rfl rfl ?_
    refine gz_getI 37 hC fl_X3_28 fk_7_5 dX3_startWithPrices_37 hF (fun x11 hF => ?_)
    refine gz_icmp_ge 40 95 hC dX3_startWithPrices_40 (by decide) hF (fun hF => ?_) (fun hF => ?_)
    · skip
      refine gz_sub [] [] rfl ?_
      exact hj95 _ hF
    · skip
      refine gz_iconst 43 hC (1 : Int32) dX3_startWithPrices_43 gz_k1 ?_
      refine gz_iload_n 44 hC 2 dX3_startWithPrices_44 rfl rfl ?_
      refine gz_ishl 45 hC dX3_startWithPrices_45 ?_
      refine gz_istore_n 46 hC [(3, .int ((1 : Int32) <<< (x9 &&& 31))), (0, .ref a0), (1, .ref a1), (2, .int x9)] dX3_startWithPrices_46 rfl (by decide) rfl ?_
      refine gz_aload_n 47 hC 2 dX3_startWithPrices_47 rfl rfl ?_
      refine gz_iload_n 48 hC 3 dX3_startWithPrices_48 rfl rfl ?_
      refine gz_iconst 49 hC (3 : Int32) dX3_startWithPrices_49 gz_k3 ?_
      refine gz_cvP (st := []) 50 hC hX [.int x9, .int (3 : Int32)] Value.int yl_X7_lastPart yv_X7_lastPart q_834 ⟨Nat.le_of_ble_eq_true rfl, Nat.le_of_ble_eq_true rfl⟩ ⟨_, rfl⟩ (fun r h => ct_X7_lastPart _ _ fu M10 a1 x9 (3 : Int32) r h) rfl rfl (Nat.le_of_ble_eq_true rfl) dX3_startWithPrices_50 gz_00 hF (fun x12 hF => ?_)
      refine gz_istore 53 hC [(4, .int x12), (3, .int ((1 : Int32) <<< (x9 &&& 31))), (0, .ref a0), (1, .ref a1), (2, .int x9)] dX3_startWithPrices_53 (by decide) rfl ?_
      refine gz_iconst 55 hC (0 : Int32) dX3_startWithPrices_55 gz_k0 ?_
      refine gz_istore 56 hC [(5, .int (0 : Int32)), (4, .int x12), (3, .int ((1 : Int32) <<< (x9 &&& 31))), (0, .ref a0), (1, .ref a1), (2, .int x9)] dX3_startWithPrices_56 (by decide) rfl ?_
      refine gz_sub [3, 4, 5, 2, 1, 0] [(0, .ref a0), (1, .ref a1), (2, .int x9), (3, .int ((1 : Int32) <<< (x9 &&& 31))), (4, .int x12), (5, .int (0 : Int32))] rfl ?_
      refine w_X3_startWithPrices_58 hC hX ?_ _ _ _ hF
      intro M19 hF
      refine gz_iinc 89 hC (x9 + (1 : Int32)) 2 [(2, .int (x9 + (1 : Int32))), (0, .ref a0), (1, .ref a1)] dX3_startWithPrices_89 rfl rfl (by decide) rfl ?_
      refine gz_goto 92 35 hC dX3_startWithPrices_92 (by decide) ?_
      refine gz_sub [1, 2, 0] [(0, .ref a0), (1, .ref a1), (2, .int (x9 + (1 : Int32)))] rfl ?_
      exact ih35 _ _ hF
set_option maxHeartbeats 4000000 in
theorem ct_X3_startWithPrices (l : Launch) (G : gz_G) (fu : Nat) (M : gz_M) (a0 : Nat) (a1 : Nat) (y : gz_M) (hF : f_X3_startWithPrices fu M a0 a1 = some y) : gz_ct l yX3_startWithPrices cX3_startWithPrices 6 none 2 46 0 0 G [.ref a0, .ref a1] M none y := by
  refine gz_ct.of (by decide) (Nat.le_of_ble_eq_true rfl) (fun C hC hX => ?_)
  unfold f_X3_startWithPrices at hF
  obtain ⟨-, hF⟩ := gz_gd_some hF
  show gz_go C 0 0 M [(0, .ref a0), (1, .ref a1)] 0 []
  refine gz_aload_n 0 hC 0 dX3_startWithPrices_0 rfl rfl ?_
  refine gz_getR 1 hC fl_X3_15 fk_3_1 dX3_startWithPrices_1 hF (fun x1 hF => ?_)
  refine gz_iconst 4 hC (0 : Int32) dX3_startWithPrices_4 gz_k0 ?_
  refine gz_aload_n 5 hC 0 dX3_startWithPrices_5 rfl rfl ?_
  refine gz_getI 6 hC fl_X3_24 fk_3_4 dX3_startWithPrices_6 hF (fun x2 hF => ?_)
  refine gz_iconst 9 hC (0 : Int32) dX3_startWithPrices_9 gz_k0 ?_
  refine gz_csV (st := []) 10 hC hX [.ref x1, .int (0 : Int32), .int x2, .int (0 : Int32)] yl_J7_fill_fda19 yv_J7_fill_fda19 q_828 ⟨Nat.le_of_ble_eq_true rfl, Nat.le_of_ble_eq_true rfl⟩ (fun r h => ct_J7_fill_fda19 _ _ fu M x1 (0 : Int32) x2 (0 : Int32) r h) rfl rfl (Nat.le_of_ble_eq_true rfl) dX3_startWithPrices_10 gz_00 hF (fun M3 hF => ?_)
  refine gz_aload_n 13 hC 0 dX3_startWithPrices_13 rfl rfl ?_
  refine gz_getR 14 hC fl_X3_18 fk_3_2 dX3_startWithPrices_14 hF (fun x4 hF => ?_)
  refine gz_iconst 17 hC (0 : Int32) dX3_startWithPrices_17 gz_k0 ?_
  refine gz_aload_n 18 hC 0 dX3_startWithPrices_18 rfl rfl ?_
  refine gz_getI 19 hC fl_X3_24 fk_3_4 dX3_startWithPrices_19 hF (fun x5 hF => ?_)
  refine gz_iconst 22 hC (0 : Int32) dX3_startWithPrices_22 gz_k0 ?_
  refine gz_csV (st := []) 23 hC hX [.ref x4, .int (0 : Int32), .int x5, .int (0 : Int32)] yl_J7_fill_fda19 yv_J7_fill_fda19 q_828 ⟨Nat.le_of_ble_eq_true rfl, Nat.le_of_ble_eq_true rfl⟩ (fun r h => ct_J7_fill_fda19 _ _ fu M3 x4 (0 : Int32) x5 (0 : Int32) r h) rfl rfl (Nat.le_of_ble_eq_true rfl) dX3_startWithPrices_23 gz_00 hF (fun M6 hF => ?_)
  refine gz_aload_n 26 hC 0 dX3_startWithPrices_26 rfl rfl ?_
  refine gz_getR 27 hC fl_X3_9 fk_3_0 dX3_startWithPrices_27 hF (fun x7 hF => ?_)
  refine gz_iconst 30 hC (0 : Int32) dX3_startWithPrices_30 gz_k0 ?_
  refine gz_iconst 31 hC (0 : Int32) dX3_startWithPrices_31 gz_k0 ?_
  refine gz_iast 32 hC dX3_startWithPrices_32 hF (fun M8 hF => ?_)
  refine gz_iconst 33 hC (0 : Int32) dX3_startWithPrices_33 gz_k0 ?_
  refine gz_istore_n 34 hC [(2, .int (0 : Int32)), (0, .ref a0), (1, .ref a1)] dX3_startWithPrices_34 rfl (by decide) rfl ?_
  refine gz_sub [1, 2, 0] [(0, .ref a0), (1, .ref a1), (2, .int (0 : Int32))] rfl ?_
  refine w_X3_startWithPrices_35 hC hX ?_ _ _ _ hF
  intro M20 hF
  exact gz_vretM 95 hC hX dX3_startWithPrices_95 hF

theorem dX7_badness_0 : decode cX7_badness 0 = .ok (.aload_n 0, 1) := by decide +kernel
theorem dX7_badness_1 : decode cX7_badness 1 = .ok (.iload 4, 2) := by decide +kernel
theorem dX7_badness_3 : decode cX7_badness 3 = .ok (.iconst 0, 1) := by decide +kernel
theorem dX7_badness_4 : decode cX7_badness 4 = .ok (.iload 5, 2) := by decide +kernel
theorem dX7_badness_6 : decode cX7_badness 6 = .ok (.aload_n 1, 1) := by decide +kernel
theorem dX7_badness_7 : decode cX7_badness 7 = .ok (.iload_n 2, 1) := by decide +kernel
theorem dX7_badness_8 : decode cX7_badness 8 = .ok (.iconst 0, 1) := by decide +kernel
theorem dX7_badness_9 : decode cX7_badness 9 = .ok (.invokevirtual 60, 3) := by decide +kernel
theorem dX7_badness_12 : decode cX7_badness 12 = .ok (.iload_n 3, 1) := by decide +kernel
theorem dX7_badness_13 : decode cX7_badness 13 = .ok (.iadd, 1) := by decide +kernel
theorem dX7_badness_14 : decode cX7_badness 14 = .ok (.invokevirtual 63, 3) := by decide +kernel
theorem dX7_badness_17 : decode cX7_badness 17 = .ok (.istore 7, 2) := by decide +kernel
theorem dX7_badness_19 : decode cX7_badness 19 = .ok (.aload_n 0, 1) := by decide +kernel
theorem dX7_badness_20 : decode cX7_badness 20 = .ok (.iload 4, 2) := by decide +kernel
theorem dX7_badness_22 : decode cX7_badness 22 = .ok (.iconst 1, 1) := by decide +kernel
theorem dX7_badness_23 : decode cX7_badness 23 = .ok (.iload 6, 2) := by decide +kernel
theorem dX7_badness_25 : decode cX7_badness 25 = .ok (.aload_n 1, 1) := by decide +kernel
theorem dX7_badness_26 : decode cX7_badness 26 = .ok (.iload_n 2, 1) := by decide +kernel
theorem dX7_badness_27 : decode cX7_badness 27 = .ok (.iconst 1, 1) := by decide +kernel
theorem dX7_badness_28 : decode cX7_badness 28 = .ok (.invokevirtual 60, 3) := by decide +kernel
theorem dX7_badness_31 : decode cX7_badness 31 = .ok (.iload_n 3, 1) := by decide +kernel
theorem dX7_badness_32 : decode cX7_badness 32 = .ok (.iadd, 1) := by decide +kernel
theorem dX7_badness_33 : decode cX7_badness 33 = .ok (.invokevirtual 63, 3) := by decide +kernel
theorem dX7_badness_36 : decode cX7_badness 36 = .ok (.istore 8, 2) := by decide +kernel
theorem dX7_badness_38 : decode cX7_badness 38 = .ok (.aload_n 0, 1) := by decide +kernel
theorem dX7_badness_39 : decode cX7_badness 39 = .ok (.iload 4, 2) := by decide +kernel
theorem dX7_badness_41 : decode cX7_badness 41 = .ok (.iconst 2, 1) := by decide +kernel
theorem dX7_badness_42 : decode cX7_badness 42 = .ok (.iconst 0, 1) := by decide +kernel
theorem dX7_badness_43 : decode cX7_badness 43 = .ok (.aload_n 1, 1) := by decide +kernel
theorem dX7_badness_44 : decode cX7_badness 44 = .ok (.iload_n 2, 1) := by decide +kernel
theorem dX7_badness_45 : decode cX7_badness 45 = .ok (.iconst 2, 1) := by decide +kernel
theorem dX7_badness_46 : decode cX7_badness 46 = .ok (.invokevirtual 60, 3) := by decide +kernel
theorem dX7_badness_49 : decode cX7_badness 49 = .ok (.iload_n 3, 1) := by decide +kernel
theorem dX7_badness_50 : decode cX7_badness 50 = .ok (.iadd, 1) := by decide +kernel
theorem dX7_badness_51 : decode cX7_badness 51 = .ok (.invokevirtual 63, 3) := by decide +kernel
theorem dX7_badness_54 : decode cX7_badness 54 = .ok (.istore 9, 2) := by decide +kernel
theorem dX7_badness_56 : decode cX7_badness 56 = .ok (.iload 7, 2) := by decide +kernel
theorem dX7_badness_58 : decode cX7_badness 58 = .ok (.iconst (-1), 1) := by decide +kernel
theorem dX7_badness_59 : decode cX7_badness 59 = .ok (.if_icmp .eq 15, 3) := by decide +kernel
theorem dX7_badness_62 : decode cX7_badness 62 = .ok (.iload 8, 2) := by decide +kernel
theorem dX7_badness_64 : decode cX7_badness 64 = .ok (.iconst (-1), 1) := by decide +kernel
theorem dX7_badness_65 : decode cX7_badness 65 = .ok (.if_icmp .eq 9, 3) := by decide +kernel
theorem dX7_badness_68 : decode cX7_badness 68 = .ok (.iload 9, 2) := by decide +kernel
theorem dX7_badness_70 : decode cX7_badness 70 = .ok (.iconst (-1), 1) := by decide +kernel
theorem dX7_badness_71 : decode cX7_badness 71 = .ok (.if_icmp .ne 7, 3) := by decide +kernel
theorem dX7_badness_74 : decode cX7_badness 74 = .ok (.iconst (-1), 1) := by decide +kernel
theorem dX7_badness_75 : decode cX7_badness 75 = .ok (.goto 11, 3) := by decide +kernel
theorem dX7_badness_78 : decode cX7_badness 78 = .ok (.iload 7, 2) := by decide +kernel
theorem dX7_badness_80 : decode cX7_badness 80 = .ok (.iload 8, 2) := by decide +kernel
theorem dX7_badness_82 : decode cX7_badness 82 = .ok (.iadd, 1) := by decide +kernel
theorem dX7_badness_83 : decode cX7_badness 83 = .ok (.iload 9, 2) := by decide +kernel
theorem dX7_badness_85 : decode cX7_badness 85 = .ok (.iadd, 1) := by decide +kernel
theorem dX7_badness_86 : decode cX7_badness 86 = .ok (.ireturn, 1) := by decide +kernel

def f_X7_badness (fu : Nat) (M : gz_M) (a0 : Nat) (a1 : Nat) (a2 : Int32) (a3 : Int32) (a4 : Int32) (a5 : Int32) (a6 : Int32) : Option (Int32) :=
  gz_gd M 7 a0 <|
  (f_X7_lastPart fu M a1 a2 (0 : Int32)).bind fun x1 =>
  (f_X7_share fu M a0 a4 (0 : Int32) a5 (x1 + a3)).bind fun x2 =>
  (f_X7_lastPart fu M a1 a2 (1 : Int32)).bind fun x3 =>
  (f_X7_share fu M a0 a4 (1 : Int32) a6 (x3 + a3)).bind fun x4 =>
  (f_X7_lastPart fu M a1 a2 (2 : Int32)).bind fun x5 =>
  (f_X7_share fu M a0 a4 (2 : Int32) (0 : Int32) (x5 + a3)).bind fun x6 =>
  gz_jn (fun (x7 : Int32) =>
  some x7) fun j86 =>
  gz_jn (j86 (-1 : Int32)) fun j74 =>
  if x2 = (-1 : Int32) then
    j74
  else
    if x4 = (-1 : Int32) then
      j74
    else
      if x6 = (-1 : Int32) then
        j74
      else
        j86 ((x2 + x4) + x6)

set_option maxHeartbeats 4000000 in
theorem ct_X7_badness (l : Launch) (G : gz_G) (fu : Nat) (M : gz_M) (a0 : Nat) (a1 : Nat) (a2 : Int32) (a3 : Int32) (a4 : Int32) (a5 : Int32) (a6 : Int32) (y : Int32) (hF : f_X7_badness fu M a0 a1 a2 a3 a4 a5 a6 = some y) : gz_ct l yX7_badness cX7_badness 10 (some .int) 2 47 0 0 G [.ref a0, .ref a1, .int a2, .int a3, .int a4, .int a5, .int a6] M (some (.int y)) M := by
  refine gz_ct.of (by decide) (Nat.le_of_ble_eq_true rfl) (fun C hC hX => ?_)
  unfold f_X7_badness at hF
  obtain ⟨-, hF⟩ := gz_gd_some hF
  show gz_go C 0 0 M [(0, .ref a0), (1, .ref a1), (2, .int a2), (3, .int a3), (4, .int a4), (5, .int a5), (6, .int a6)] 0 []
  refine gz_aload_n 0 hC 0 dX7_badness_0 rfl rfl ?_
  refine gz_iload 1 hC 4 dX7_badness_1 rfl ?_
  refine gz_iconst 3 hC (0 : Int32) dX7_badness_3 gz_k0 ?_
  refine gz_iload 4 hC 5 dX7_badness_4 rfl ?_
  refine gz_aload_n 6 hC 1 dX7_badness_6 rfl rfl ?_
  refine gz_iload_n 7 hC 2 dX7_badness_7 rfl rfl ?_
  refine gz_iconst 8 hC (0 : Int32) dX7_badness_8 gz_k0 ?_
  refine gz_cvP (st := [.int a5, .int (0 : Int32), .int a4, .ref a0]) 9 hC hX [.int a2, .int (0 : Int32)] Value.int yl_X7_lastPart yv_X7_lastPart q_529 ⟨Nat.le_of_ble_eq_true rfl, Nat.le_of_ble_eq_true rfl⟩ ⟨_, rfl⟩ (fun r h => ct_X7_lastPart _ _ fu M a1 a2 (0 : Int32) r h) rfl rfl (Nat.le_of_ble_eq_true rfl) dX7_badness_9 gz_00 hF (fun x1 hF => ?_)
  refine gz_iload_n 12 hC 3 dX7_badness_12 rfl rfl ?_
  refine gz_iadd 13 hC dX7_badness_13 ?_
  refine gz_cvP (st := []) 14 hC hX [.int a4, .int (0 : Int32), .int a5, .int (x1 + a3)] Value.int yl_X7_share yv_X7_share q_533 ⟨Nat.le_of_ble_eq_true rfl, Nat.le_of_ble_eq_true rfl⟩ ⟨_, rfl⟩ (fun r h => ct_X7_share _ _ fu M a0 a4 (0 : Int32) a5 (x1 + a3) r h) rfl rfl (Nat.le_of_ble_eq_true rfl) dX7_badness_14 gz_00 hF (fun x2 hF => ?_)
  refine gz_istore 17 hC [(7, .int x2), (0, .ref a0), (1, .ref a1), (2, .int a2), (3, .int a3), (4, .int a4), (5, .int a5), (6, .int a6)] dX7_badness_17 (by decide) rfl ?_
  refine gz_aload_n 19 hC 1 dX7_badness_19 rfl rfl ?_
  refine gz_iload 20 hC 5 dX7_badness_20 rfl ?_
  refine gz_iconst 22 hC (1 : Int32) dX7_badness_22 gz_k1 ?_
  refine gz_iload 23 hC 7 dX7_badness_23 rfl ?_
  refine gz_aload_n 25 hC 2 dX7_badness_25 rfl rfl ?_
  refine gz_iload_n 26 hC 3 dX7_badness_26 rfl rfl ?_
  refine gz_iconst 27 hC (1 : Int32) dX7_badness_27 gz_k1 ?_
  refine gz_cvP (st := [.int a6, .int (1 : Int32), .int a4, .ref a0]) 28 hC hX [.int a2, .int (1 : Int32)] Value.int yl_X7_lastPart yv_X7_lastPart q_529 ⟨Nat.le_of_ble_eq_true rfl, Nat.le_of_ble_eq_true rfl⟩ ⟨_, rfl⟩ (fun r h => ct_X7_lastPart _ _ fu M a1 a2 (1 : Int32) r h) rfl rfl (Nat.le_of_ble_eq_true rfl) dX7_badness_28 gz_00 hF (fun x3 hF => ?_)
  refine gz_iload_n 31 hC 4 dX7_badness_31 rfl rfl ?_
  refine gz_iadd 32 hC dX7_badness_32 ?_
  refine gz_cvP (st := []) 33 hC hX [.int a4, .int (1 : Int32), .int a6, .int (x3 + a3)] Value.int yl_X7_share yv_X7_share q_533 ⟨Nat.le_of_ble_eq_true rfl, Nat.le_of_ble_eq_true rfl⟩ ⟨_, rfl⟩ (fun r h => ct_X7_share _ _ fu M a0 a4 (1 : Int32) a6 (x3 + a3) r h) rfl rfl (Nat.le_of_ble_eq_true rfl) dX7_badness_33 gz_00 hF (fun x4 hF => ?_)
  refine gz_istore 36 hC [(8, .int x4), (7, .int x2), (0, .ref a0), (1, .ref a1), (2, .int a2), (3, .int a3), (4, .int a4), (5, .int a5), (6, .int a6)] dX7_badness_36 (by decide) rfl ?_
  refine gz_aload_n 38 hC 2 dX7_badness_38 rfl rfl ?_
  refine gz_iload 39 hC 6 dX7_badness_39 rfl ?_
  refine gz_iconst 41 hC (2 : Int32) dX7_badness_41 gz_k2 ?_
  refine gz_iconst 42 hC (0 : Int32) dX7_badness_42 gz_k0 ?_
  refine gz_aload_n 43 hC 3 dX7_badness_43 rfl rfl ?_
  refine gz_iload_n 44 hC 4 dX7_badness_44 rfl rfl ?_
  refine gz_iconst 45 hC (2 : Int32) dX7_badness_45 gz_k2 ?_
  refine gz_cvP (st := [.int (0 : Int32), .int (2 : Int32), .int a4, .ref a0]) 46 hC hX [.int a2, .int (2 : Int32)] Value.int yl_X7_lastPart yv_X7_lastPart q_529 ⟨Nat.le_of_ble_eq_true rfl, Nat.le_of_ble_eq_true rfl⟩ ⟨_, rfl⟩ (fun r h => ct_X7_lastPart _ _ fu M a1 a2 (2 : Int32) r h) rfl rfl (Nat.le_of_ble_eq_true rfl) dX7_badness_46 gz_00 hF (fun x5 hF => ?_)
  refine gz_iload_n 49 hC 5 dX7_badness_49 rfl rfl ?_
  refine gz_iadd 50 hC dX7_badness_50 ?_
  refine gz_cvP (st := []) 51 hC hX [.int a4, .int (2 : Int32), .int (0 : Int32), .int (x5 + a3)] Value.int yl_X7_share yv_X7_share q_533 ⟨Nat.le_of_ble_eq_true rfl, Nat.le_of_ble_eq_true rfl⟩ ⟨_, rfl⟩ (fun r h => ct_X7_share _ _ fu M a0 a4 (2 : Int32) (0 : Int32) (x5 + a3) r h) rfl rfl (Nat.le_of_ble_eq_true rfl) dX7_badness_51 gz_00 hF (fun x6 hF => ?_)
  refine gz_istore 54 hC [(9, .int x6), (8, .int x4), (7, .int x2), (0, .ref a0), (1, .ref a1), (2, .int a2), (3, .int a3), (4, .int a4), (5, .int a5), (6, .int a6)] dX7_badness_54 (by decide) rfl ?_
  refine gz_iload 56 hC 2 dX7_badness_56 rfl ?_
  refine gz_iconst 58 hC (-1 : Int32) dX7_badness_58 gz_km1 ?_
  refine gz_join (fun (j : Int32 → Option (Int32)) => ∀ (x7 : Int32), j x7 = some y → gz_go C 0 0 M [] 86 [.int x7]) hF (fun x7 hF => ?_) (fun j86 hj86 hF => ?_)
  · skip
    exact gz_iretP 86 hC hX dX7_badness_86 hF
  refine gz_join (fun (j : Option (Int32)) => j = some y → gz_go C 0 0 M [] 74 []) hF (fun hF => ?_) (fun j74 hj74 hF => ?_)
  · skip
    refine gz_iconst 74 hC (-1 : Int32) dX7_badness_74 gz_km1 ?_
    refine gz_goto 75 86 hC dX7_badness_75 (by decide) ?_
    exact hj86 _ hF
  refine gz_icmp_eq 59 74 hC dX7_badness_59 (by decide) hF (fun hF => ?_) (fun hF => ?_)
  · skip
    refine gz_sub [] [] rfl ?_
    exact hj74 hF
  · skip
    refine gz_iload 62 hC 1 dX7_badness_62 rfl ?_
    refine gz_iconst 64 hC (-1 : Int32) dX7_badness_64 gz_km1 ?_
    refine gz_icmp_eq 65 74 hC dX7_badness_65 (by decide) hF (fun hF => ?_) (fun hF => ?_)
    · skip
      refine gz_sub [] [] rfl ?_
      exact hj74 hF
    · skip
      refine gz_iload 68 hC 0 dX7_badness_68 rfl ?_
      refine gz_iconst 70 hC (-1 : Int32) dX7_badness_70 gz_km1 ?_
      refine gz_icmp_ne 71 78 hC dX7_badness_71 (by decide) hF (fun hF => ?_) (fun hF => ?_)
      · skip
        refine gz_iload 78 hC 2 dX7_badness_78 rfl ?_
        refine gz_iload 80 hC 1 dX7_badness_80 rfl ?_
        refine gz_iadd 82 hC dX7_badness_82 ?_
        refine gz_iload 83 hC 0 dX7_badness_83 rfl ?_
        refine gz_iadd 85 hC dX7_badness_85 ?_
        refine gz_sub [] [] rfl ?_
        exact hj86 _ hF
      · skip
        refine gz_sub [] [] rfl ?_
        exact hj74 hF

theorem dX7_badnessOf_0 : decode cX7_badnessOf 0 = .ok (.aload_n 0, 1) := by decide +kernel
theorem dX7_badnessOf_1 : decode cX7_badnessOf 1 = .ok (.aload_n 0, 1) := by decide +kernel
theorem dX7_badnessOf_2 : decode cX7_badnessOf 2 = .ok (.iload_n 1, 1) := by decide +kernel
theorem dX7_badnessOf_3 : decode cX7_badnessOf 3 = .ok (.iconst 0, 1) := by decide +kernel
theorem dX7_badnessOf_4 : decode cX7_badnessOf 4 = .ok (.iload_n 2, 1) := by decide +kernel
theorem dX7_badnessOf_5 : decode cX7_badnessOf 5 = .ok (.iconst 0, 1) := by decide +kernel
theorem dX7_badnessOf_6 : decode cX7_badnessOf 6 = .ok (.iconst 0, 1) := by decide +kernel
theorem dX7_badnessOf_7 : decode cX7_badnessOf 7 = .ok (.invokevirtual 67, 3) := by decide +kernel
theorem dX7_badnessOf_10 : decode cX7_badnessOf 10 = .ok (.ireturn, 1) := by decide +kernel

def f_X7_badnessOf (fu : Nat) (M : gz_M) (a0 : Nat) (a1 : Int32) (a2 : Int32) : Option (Int32) :=
  gz_gd M 7 a0 <|
  (f_X7_badness fu M a0 a0 a1 (0 : Int32) a2 (0 : Int32) (0 : Int32)).bind fun x1 =>
  some x1

set_option maxHeartbeats 4000000 in
theorem ct_X7_badnessOf (l : Launch) (G : gz_G) (fu : Nat) (M : gz_M) (a0 : Nat) (a1 : Int32) (a2 : Int32) (y : Int32) (hF : f_X7_badnessOf fu M a0 a1 a2 = some y) : gz_ct l yX7_badnessOf cX7_badnessOf 3 (some .int) 3 76 0 0 G [.ref a0, .int a1, .int a2] M (some (.int y)) M := by
  refine gz_ct.of (by decide) (Nat.le_of_ble_eq_true rfl) (fun C hC hX => ?_)
  unfold f_X7_badnessOf at hF
  obtain ⟨-, hF⟩ := gz_gd_some hF
  show gz_go C 0 0 M [(0, .ref a0), (1, .int a1), (2, .int a2)] 0 []
  refine gz_aload_n 0 hC 0 dX7_badnessOf_0 rfl rfl ?_
  refine gz_aload_n 1 hC 0 dX7_badnessOf_1 rfl rfl ?_
  refine gz_iload_n 2 hC 1 dX7_badnessOf_2 rfl rfl ?_
  refine gz_iconst 3 hC (0 : Int32) dX7_badnessOf_3 gz_k0 ?_
  refine gz_iload_n 4 hC 2 dX7_badnessOf_4 rfl rfl ?_
  refine gz_iconst 5 hC (0 : Int32) dX7_badnessOf_5 gz_k0 ?_
  refine gz_iconst 6 hC (0 : Int32) dX7_badnessOf_6 gz_k0 ?_
  refine gz_cvP (st := []) 7 hC hX [.ref a0, .int a1, .int (0 : Int32), .int a2, .int (0 : Int32), .int (0 : Int32)] Value.int yl_X7_badness yv_X7_badness q_551 ⟨Nat.le_of_ble_eq_true rfl, Nat.le_of_ble_eq_true rfl⟩ ⟨_, rfl⟩ (fun r h => ct_X7_badness _ _ fu M a0 a0 a1 (0 : Int32) a2 (0 : Int32) (0 : Int32) r h) rfl rfl (Nat.le_of_ble_eq_true rfl) dX7_badnessOf_7 gz_00 hF (fun x1 hF => ?_)
  exact gz_iretP 10 hC hX dX7_badnessOf_10 hF
