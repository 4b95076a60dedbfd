/-! build -/
def sp_min (x y : Nat) : Nat := if x < y then x else y
theorem bl_31 (fu : Nat) {mo k : Nat} {V : pv_V} {M : gz_M} (h : vy_m mo k V M) {l a n : Nat} (hl : l < pv_nl V) (ha : a ≤ 9) (j R : Option (Int32 × gz_M)) (hR : (gz_b2 (f_X10_refuse fu M mo (-5 : Int32)) fun x5 M6 => some (x5, M6)) = R) : lp_X10_build_31 j fu M mo (nI k) (nI l) (nI a) (n + 1 + 1 + 1 + 1) (0 : Int32) = if pv_L V (4 * l) + a ≤ 40 ∧ pv_L V (4 * l + 1) + a ≤ 40 ∧ pv_L V (4 * l + 2) + a ≤ 40 then j else R := by
  obtain ⟨l1, l2⟩ := (vm_ok h).2.2.2.2.2.2 l hl
  have m0 : pv_L V (4 * l) ≤ 40 := l1 0 (by omega)
  have m1 := l1 1 (by omega)
  have m2 := l1 2 (by omega)
  have st : ∀ n m, m < 3 → lp_X10_build_31 j fu M mo (nI k) (nI l) (nI a) (n + 1) (nI m) = if pv_L V (4 * l + m) + a ≤ 40 then lp_X10_build_31 j fu M mo (nI k) (nI l) (nI a) n (nI (m + 1)) else R := fun n m hm => by
    have := l1 m hm
    rw [lp_X10_build_31, if_neg (show ¬ (3 : Int32) ≤ nI m from pn_nle (n := 3) hm (by omega)), vm_lp fu h hl (by omega), Option.bind_some, nI_add, hR, pn_1]
    by_cases c : pv_L V (4 * l + m) + a ≤ 40
    · rw [if_pos (show nI (pv_L V (4 * l + m) + a) ≤ (40 : Int32) from nI_le (b := 40) c (by omega)), if_pos c]
    · rw [if_neg (show ¬ nI (pv_L V (4 * l + m) + a) ≤ (40 : Int32) from nI_ge (a := 40) (by omega) (by omega)), if_neg c]
  rw [show (0 : Int32) = nI 0 from rfl, st _ 0 (by omega), st _ 1 (by omega), st _ 2 (by omega), lp_X10_build_31, if_pos (show (3 : Int32) ≤ nI (2 + 1) from nI_le (a := 3) (by omega) (by omega))]
  simp only [Nat.add_zero]
  by_cases c0 : pv_L V (4 * l) + a ≤ 40 <;> by_cases c1 : pv_L V (4 * l + 1) + a ≤ 40 <;> by_cases c2 : pv_L V (4 * l + 2) + a ≤ 40 <;> simp [c0, c1, c2]
theorem op_build (b : Nat) {fu : Nat} (hfu : 5000 ≤ fu) : gz_op_build (pi_I b) fu b (b + 110) := by
  intro M v l a hI
  rcases pg_val hI v with ⟨k, V, rfl, hv⟩ | hz
  · have hok := hv.ok
    have o1 := hok.1
    have o2 := hok.2.1
    have op2 : 2 ^ pv_nl V ≤ 2 ^ 10 := Nat.pow_le_pow_right (by omega) o2
    by_cases hc : (0 ≤ l ∧ l ≤ nI (pv_nl V) - 1) ∧ (1 ≤ a ∧ a ≤ 9)
    · obtain ⟨c1, c2⟩ := hc
      obtain ⟨l, hl, rfl⟩ := (pn_lt (by omega)).mp c1
      obtain ⟨a, ha, rfl⟩ := pu_num (n := 9) (by decide) ⟨Int32.le_trans (by decide) c2.1, c2.2⟩
      have ha1 : 1 ≤ a := (nI_leI (a := 1) (by decide) (by omega)).mp c2.1
      have hc := hv.c
      have hk := hv.2.2.1
      obtain ⟨l1, l2⟩ := hok.2.2.2.2.2.2 l hl
      have m0 : pv_L V (4 * l) ≤ 40 := l1 0 (by omega)
      have m1 := l1 1 (by omega)
      have m2 := l1 2 (by omega)
      have e0 : f_X7_lastPart fu M (b + 13 + 5 * k) (nI l) (0 : Int32) = some (nI (pv_L V (4 * l))) := vc_lp fu hc hl (m := 0) (by omega)
      have e1 : f_X7_lastPart fu M (b + 13 + 5 * k) (nI l) (1 : Int32) = some (nI (pv_L V (4 * l + 1))) := vc_lp fu hc hl (m := 1) (by omega)
      have e2 : f_X7_lastPart fu M (b + 13 + 5 * k) (nI l) (2 : Int32) = some (nI (pv_L V (4 * l + 2))) := vc_lp fu hc hl (m := 2) (by omega)
      have eC : ∀ R : Option (Int32 × gz_M), (gz_b2 (f_X9_refuse fu M b (-5 : Int32)) fun x5 M6 => some (x5, M6)) = R → f_X9_build fu M b (nI k) (nI l) (nI a) = if pv_L V (4 * l) + a ≤ 40 ∧ pv_L V (4 * l + 1) + a ≤ 40 ∧ pv_L V (4 * l + 2) + a ≤ 40 then (if pv_nl V < 10 then (f_X7_addLast fu M (b + 13 + 5 * k) (nI (pv_L V (4 * l) + a)) (nI (pv_L V (4 * l + 1) + a)) (nI (pv_L V (4 * l + 2) + a))).bind fun M12 => (gz_gI M12 7 5 (b + 13 + 5 * k)).bind fun x13 => (f_X7_lastPart fu M12 (b + 13 + 5 * k) (nI l) (3 : Int32)).bind fun x14 => (f_X7_putLastPart fu M12 (b + 13 + 5 * k) (x13 - (1 : Int32)) (3 : Int32) (if (x14 + nI a) < (99 : Int32) then (x14 + nI a) else (99 : Int32))).bind fun M15 => (gz_gI M15 7 5 (b + 13 + 5 * k)).bind fun x16 => some ((x16 - (1 : Int32)), M15) else gz_b2 (f_X9_refuse fu M b (-6 : Int32)) fun x10 M11 => some (x10, M11)) else R := by
        intro R hR
        simp only [f_X9_build, gz_jn, hv.gC, hv.lC fu, pu_within, Option.bind_some, pu_ii, pu_10, if_pos c1, if_pos c2, hv.p1, hv.p2, hv.p3, e0, e1, e2, nI_add, vc_nl hc, hR]
        by_cases d0 : pv_L V (4 * l) + a ≤ 40
        · rw [if_neg (show ¬ (40 : Int32) < nI (pv_L V (4 * l) + a) from nI_nlt (a := 40) d0 (by omega))]
          by_cases d1 : pv_L V (4 * l + 1) + a ≤ 40
          · rw [if_neg (show ¬ (40 : Int32) < nI (pv_L V (4 * l + 1) + a) from nI_nlt (a := 40) d1 (by omega))]
            by_cases d2 : pv_L V (4 * l + 2) + a ≤ 40
            · have dd : pv_L V (4 * l) + a ≤ 40 ∧ pv_L V (4 * l + 1) + a ≤ 40 ∧ pv_L V (4 * l + 2) + a ≤ 40 := ⟨d0, d1, d2⟩
              rw [if_pos (show nI (pv_L V (4 * l + 2) + a) ≤ (40 : Int32) from nI_le (b := 40) d2 (by omega)), if_pos dd]
              by_cases d3 : pv_nl V < 10
              · rw [if_pos (show nI (pv_nl V) < (10 : Int32) from nI_lt (b := 10) d3 (by omega)), if_pos d3]
              · rw [if_neg (show ¬ nI (pv_nl V) < (10 : Int32) from nI_nlt (b := 10) (by omega) (by omega)), if_neg d3]
            · rw [if_neg (show ¬ nI (pv_L V (4 * l + 2) + a) ≤ (40 : Int32) from nI_ge (a := 40) (by omega) (by omega)), if_neg (fun q => d2 q.2.2)]
          · rw [if_pos (show (40 : Int32) < nI (pv_L V (4 * l + 1) + a) from nI_lt (a := 40) (by omega) (by omega)), if_neg (fun q => d1 q.2.1)]
        · rw [if_pos (show (40 : Int32) < nI (pv_L V (4 * l) + a) from nI_lt (a := 40) (by omega) (by omega)), if_neg (fun q => d0 q.1)]
      obtain ⟨fz, rfl⟩ : ∃ fz, fu = fz + 1 + 1 + 1 + 1 := ⟨fu - 4, by omega⟩
      by_cases d : pv_L V (4 * l) + a ≤ 40 ∧ pv_L V (4 * l + 1) + a ≤ 40 ∧ pv_L V (4 * l + 2) + a ≤ 40
      · by_cases d3 : pv_nl V < 10
        · obtain ⟨R1, R2, r1, -, -, -⟩ := pu_rfw (fz + 1 + 1 + 1 + 1) hI 3 (by decide) (-5) pu_k5
          obtain ⟨M12, a1, a2, a3, a4⟩ := vl_al (fz + 1 + 1 + 1 + 1) hc.l hv.2.2.2.2.1 d3 (pv_L V (4 * l) + a) (pv_L V (4 * l + 1) + a) (pv_L V (4 * l + 2) + a)
          have hl12 : vl_c (b + 13 + 5 * k) M12 := hc.l.same a2.2.1 a2.2.2.2.1
          have ok12 : pv_ok (pv_dL V (pt (pv_L V (4 * l) + a) (pv_L V (4 * l + 1) + a) (pv_L V (4 * l + 2) + a) 0 0)) := pv_dL_ok hok d3 ⟨fun m hm => by
            have : m = 0 ∨ m = 1 ∨ m = 2 := by omega
            rcases this with rfl | rfl | rfl
            · exact d.1
            · exact d.2.1
            · exact d.2.2, by show 0 ≤ 99; omega⟩
          have b1 : gz_gI M12 7 5 (b + 13 + 5 * k) = some (nI (pv_nl V + 1)) := vc_nl (hl12.y ok12 a3)
          have b2 : f_X7_lastPart (fz + 1 + 1 + 1 + 1) M12 (b + 13 + 5 * k) (nI l) (3 : Int32) = some (nI (pv_L V (4 * l + 3))) := by
            have := vc_lp (fz + 1 + 1 + 1 + 1) (hl12.y ok12 a3) (l := l) (m := 3) (by show l < pv_nl V + 1; omega) (by omega)
            rw [show pv_L (pv_dL V (pt (pv_L V (4 * l) + a) (pv_L V (4 * l + 1) + a) (pv_L V (4 * l + 2) + a) 0 0)) (4 * l + 3) = pv_L V (4 * l + 3) from if_neg (show ¬ (4 * pv_nl V ≤ 4 * l + 3 ∧ 4 * l + 3 < 4 * pv_nl V + 4) by omega)] at this
            exact this
          have hpr : (if nI (pv_L V (4 * l + 3)) + nI a < (99 : Int32) then nI (pv_L V (4 * l + 3)) + nI a else (99 : Int32)) = nI (sp_min (pv_L V (4 * l + 3) + a) 99) := by
            rw [nI_add]
            unfold sp_min
            by_cases q : pv_L V (4 * l + 3) + a < 99
            · rw [if_pos (show nI (pv_L V (4 * l + 3) + a) < (99 : Int32) from nI_lt (b := 99) q (by omega)), if_pos q]
            · rw [if_neg (show ¬ nI (pv_L V (4 * l + 3) + a) < (99 : Int32) from nI_nlt (b := 99) (by omega) (by omega)), if_neg q]; rfl
          have hmn : sp_min (pv_L V (4 * l + 3) + a) 99 ≤ 99 := by unfold sp_min; split <;> omega
          have b3 : f_X7_putLastPart (fz + 1 + 1 + 1 + 1) M12 (b + 13 + 5 * k) (nI (pv_nl V + 1) - 1) (3 : Int32) (nI (sp_min (pv_L V (4 * l + 3) + a) 99)) = some (gz_sI M12 (b + 13 + 5 * k + 2) (4 * pv_nl V + 3) (nI (sp_min (pv_L V (4 * l + 3) + a) 99))) := by
            rw [nI_pred]
            exact vl_pl (fz + 1 + 1 + 1 + 1) hl12 (l := pv_nl V) (m := 3) (by omega) _
          generalize hM1 : gz_sI M12 (b + 13 + 5 * k + 2) (4 * pv_nl V + 3) (nI (sp_min (pv_L V (4 * l + 3) + a) 99)) = M1 at b3
          have w12 : pf_f (pc_C b k) M M12 := ⟨a2.1, a2.2.1, a2.2.2.1, a2.2.2.2.1, fun c q => a2.2.2.2.2 c (fun p => q (by unfold pc_C; omega))⟩
          have w1 : pf_f (pc_C b k) M M1 := by rw [← hM1]; exact w12.two (by unfold pc_C; omega)
          have I1 : ∀ c j, M1.2.2.1 c j = if c = b + 13 + 5 * k ∧ j = 5 then nI (pv_nl V + 1) else if c = b + 13 + 5 * k + 2 ∧ 4 * pv_nl V ≤ j ∧ j < 4 * pv_nl V + 4 then nI (pt (pv_L V (4 * l) + a) (pv_L V (4 * l + 1) + a) (pv_L V (4 * l + 2) + a) (sp_min (pv_L V (4 * l + 3) + a) 99) 0 (j - 4 * pv_nl V)) else M.2.2.1 c j := by
            intro c j
            rw [← hM1, pu_sI_at]
            by_cases q : c = b + 13 + 5 * k + 2 ∧ j = 4 * pv_nl V + 3
            · obtain ⟨rfl, rfl⟩ := q
              rw [if_pos ⟨rfl, rfl⟩, if_neg (by omega), if_pos (by omega), Nat.add_sub_cancel_left]; rfl
            · rw [if_neg q, a4 c j]
              by_cases q2 : c = b + 13 + 5 * k ∧ j = 5
              · rw [if_pos q2, if_pos q2]
              · rw [if_neg q2, if_neg q2]
                by_cases q3 : c = b + 13 + 5 * k + 2 ∧ 4 * pv_nl V ≤ j ∧ j < 4 * pv_nl V + 4
                · rw [if_pos q3, if_pos q3]
                  have : j - 4 * pv_nl V = 0 ∨ j - 4 * pv_nl V = 1 ∨ j - 4 * pv_nl V = 2 := by omega
                  rcases this with z | z | z <;> rw [z] <;> rfl
                · rw [if_neg q3, if_neg q3]
          have c1' := pvc_aL hv.2.2.2.2.1 I1
          have ok1 : pv_ok (pv_dL V (pt (pv_L V (4 * l) + a) (pv_L V (4 * l + 1) + a) (pv_L V (4 * l + 2) + a) (sp_min (pv_L V (4 * l + 3) + a) 99) 0)) := pv_dL_ok hok d3 ⟨fun m hm => by
            have : m = 0 ∨ m = 1 ∨ m = 2 := by omega
            rcases this with rfl | rfl | rfl
            · exact d.1
            · exact d.2.1
            · exact d.2.2, hmn⟩
          have b4 : gz_gI M1 7 5 (b + 13 + 5 * k) = some (nI (pv_nl V + 1)) := vc_nl ((hc.l.same w1.2.1 w1.2.2.2.1).y ok1 c1')
          obtain ⟨g1, g2, g3, g4, g5⟩ := hv.cm2 (V' := V) w1
          obtain ⟨M17, f1, f2⟩ := pl_up (fun fuel i st => lp_X10_build_94 (fun (M17 : gz_M) => (gz_gR M17 10 14 (b + 110)).bind fun x18 => (gz_aR M17 x18 (nI k)).bind fun x19 => (gz_gR M17 10 14 (b + 110)).bind fun x20 => (gz_aR M17 x20 (nI k)).bind fun x21 => (gz_aI M17 x21 (((4 : Int32) * nI (pv_nl V)) + (3 : Int32))).bind fun x22 => if x22 ≤ (99 : Int32) then (gz_gR M17 10 14 (b + 110)).bind fun x23 => (gz_aR M17 x23 (nI k)).bind fun x24 => (gz_aI M17 x24 (((4 : Int32) * nI (pv_nl V)) + (3 : Int32))).bind fun x25 => (gz_tI M17 x19 (((4 : Int32) * nI (pv_nl V)) + (3 : Int32)) x25).bind fun M27 => (gz_gR M27 10 12 (b + 110)).bind fun x28 => (gz_aR M27 x28 (nI k)).bind fun x29 => (gz_aI M27 x29 (1 : Int32)).bind fun x30 => (gz_tI M27 x29 (1 : Int32) (x30 + (1 : Int32))).bind fun M31 => (f_X10_lastsOf (fz + 1 + 1 + 1 + 1) M31 (b + 110) (nI k)).bind fun x32 => some ((x32 - (1 : Int32)), M31) else (gz_tI M17 x19 (((4 : Int32) * nI (pv_nl V)) + (3 : Int32)) (99 : Int32)).bind fun M27 => (gz_gR M27 10 12 (b + 110)).bind fun x28 => (gz_aR M27 x28 (nI k)).bind fun x29 => (gz_aI M27 x29 (1 : Int32)).bind fun x30 => (gz_tI M27 x29 (1 : Int32) (x30 + (1 : Int32))).bind fun M31 => (f_X10_lastsOf (fz + 1 + 1 + 1 + 1) M31 (b + 110) (nI k)).bind fun x32 => some ((x32 - (1 : Int32)), M31)) (fz + 1 + 1 + 1 + 1) (b + 110) (nI k) (nI l) (nI a) (nI (pv_nl V)) fuel i st) _ (pIo (b + 110 + 32 + k) (4 * pv_nl V) (fun m => nI (pv_L V (4 * l + m) + a)) M1) 4 (fun fuel m st hm hp => ⟨gz_sI st (b + 110 + 32 + k) (4 * pv_nl V + m) (nI (pv_L V (4 * l + m) + a)), hp.step, by
            have hl' : vl_m (b + 110) k st := g2.l.same hp.2.1 hp.2.2.2.1
            have hm' : pv_m (b + 110) k V st := by
              obtain ⟨u1, u2, u3, u4, u5, u6, u7, u8⟩ := g2.2.2.2
              have p5 := hp.2.2.2.2.1
              refine ⟨by rw [p5 _ (by omega)]; exact u1, by rw [p5 _ (by omega)]; exact u2, by rw [p5 _ (by omega)]; exact u3, by rw [p5 _ (by omega)]; exact u4, fun m hm => by rw [p5 _ (by omega)]; exact u5 m hm, fun m hm => by rw [p5 _ (by omega)]; exact u6 m hm, fun j hj => by rw [p5 _ (by omega)]; exact u7 j hj, fun j hj => ?_⟩
              rw [hp.2.2.2.2.2 j, if_neg (by omega)]; exact u8 j hj
            have ei : (4 : Int32) * nI (pv_nl V) + nI m = nI (4 * pv_nl V + m) := by rw [show (4 : Int32) = nI 4 from rfl, pk_mul, nI_add]
            rw [lp_X10_build_94, if_neg (show ¬ (4 : Int32) ≤ nI m from pn_nle (n := 4) hm (by omega)), (vl_l hl').1, Option.bind_some, (vl_l hl').2.1, Option.bind_some, vm_lp _ (hl'.y hok hm') hl hm, Option.bind_some, ei, nI_add, pu_tI _ (vl_l hl').2.2 (by omega) (by omega), Option.bind_some, pn_1]⟩) (fun fuel st hp => by
            rw [lp_X10_build_94, if_pos (show (4 : Int32) ≤ nI 4 from pn_le (n := 4) (Nat.le_refl _) (by omega))]) 4 0 M1 (fz + 1 + 1 + 1 + 1) (by omega) (by omega) pIo.zero
          have hl17 : vl_m (b + 110) k M17 := g2.l.same f1.2.1 f1.2.2.2.1
          have ei : (4 : Int32) * nI (pv_nl V) + 3 = nI (4 * pv_nl V + 3) := by rw [show (4 : Int32) = nI 4 from rfl, show (3 : Int32) = nI 3 from rfl, pk_mul, nI_add]
          have x22 : gz_aI M17 (b + 110 + 32 + k) (nI (4 * pv_nl V + 3)) = some (nI (pv_L V (4 * l + 3) + a)) := by
            rw [pu_aI (vl_l hl17).2.2 (by omega) (by omega), f1.2.2.2.2.2, if_pos (by omega), Nat.add_sub_cancel_left]
          generalize hM2 : gz_sI (gz_sI M17 (b + 110 + 32 + k) (4 * pv_nl V + 3) (nI (sp_min (pv_L V (4 * l + 3) + a) 99))) (b + 110 + 20 + k) 1 (nI (pv_nl V + 1)) = M2
          have w2 : pf_f (pc_M b k) M1 M2 := by
            rw [← hM2]
            exact ((f1.f (P := pc_M b k) (by unfold pc_M; omega)).two (by unfold pc_M; omega)).two (by unfold pc_M; omega)
          have I2 : ∀ c j, M2.2.2.1 c j = if c = b + 110 + 20 + k ∧ j = 1 then nI (pv_nl V + 1) else if c = b + 110 + 32 + k ∧ 4 * pv_nl V ≤ j ∧ j < 4 * pv_nl V + 4 then nI (pt (pv_L V (4 * l) + a) (pv_L V (4 * l + 1) + a) (pv_L V (4 * l + 2) + a) (sp_min (pv_L V (4 * l + 3) + a) 99) 0 (j - 4 * pv_nl V)) else M1.2.2.1 c j := by
            intro c j
            rw [← hM2, pu_sI_at]
            by_cases q : c = b + 110 + 20 + k ∧ j = 1
            · rw [if_pos q, if_pos q]
            · rw [if_neg q, if_neg q, pu_sI_at]
              by_cases q2 : c = b + 110 + 32 + k ∧ j = 4 * pv_nl V + 3
              · obtain ⟨rfl, rfl⟩ := q2
                rw [if_pos ⟨rfl, rfl⟩, if_pos (by omega), Nat.add_sub_cancel_left]; rfl
              · rw [if_neg q2]
                by_cases q3 : c = b + 110 + 32 + k
                · subst q3
                  rw [f1.2.2.2.2.2 j]
                  by_cases q4 : 4 * pv_nl V ≤ j ∧ j < 4 * pv_nl V + 4
                  · rw [if_pos q4, if_pos ⟨rfl, q4⟩]
                    have : j - 4 * pv_nl V = 0 ∨ j - 4 * pv_nl V = 1 ∨ j - 4 * pv_nl V = 2 := by omega
                    rcases this with z | z | z <;> rw [z] <;> rfl
                  · rw [if_neg q4, if_neg (fun q => q4 q.2)]
                · rw [if_neg (fun q => q3 q.1), f1.2.2.2.2.1 c q3]
          have m1' := pvm_aL (by omega) g2.2.2.2 I2
          refine ⟨nI (pv_nl V), M1, M2, ?_, ?_, ?_⟩
          · rw [eC _ rfl, if_pos d, if_pos d3, a1, Option.bind_some, b1, Option.bind_some, b2, Option.bind_some, hpr, b3, Option.bind_some, b4, Option.bind_some, nI_pred]
          · have hl27 : ∀ y, vl_m (b + 110) k (gz_sI M17 (b + 110 + 32 + k) (4 * pv_nl V + 3) y) := fun y => hl17.same rfl rfl
            have fin : ∀ y, y = nI (sp_min (pv_L V (4 * l + 3) + a) 99) → ((gz_tI M17 (b + 110 + 32 + k) (nI (4 * pv_nl V + 3)) y).bind fun M27 => (gz_gR M27 10 12 (b + 110)).bind fun x28 => (gz_aR M27 x28 (nI k)).bind fun x29 => (gz_aI M27 x29 (1 : Int32)).bind fun x30 => (gz_tI M27 x29 (1 : Int32) (x30 + (1 : Int32))).bind fun M31 => (f_X10_lastsOf (fz + 1 + 1 + 1 + 1) M31 (b + 110) (nI k)).bind fun x32 => some ((x32 - (1 : Int32)), M31)) = some (nI (pv_nl V), M2) := by
              rintro y rfl
              have hy := hl27 (nI (sp_min (pv_L V (4 * l + 3) + a) 99))
              have x30 : gz_aI (gz_sI M17 (b + 110 + 32 + k) (4 * pv_nl V + 3) (nI (sp_min (pv_L V (4 * l + 3) + a) 99))) (b + 110 + 20 + k) (1 : Int32) = some (nI (pv_nl V)) := by
                refine (pu_aI (i := 1) (vl_v hy).2.2 (by omega) (by omega)).trans ?_
                rw [pu_sI_at, if_neg (by omega), f1.2.2.2.2.1 _ (by omega), g2.2.2.2.2.1]
              have x31 : gz_tI (gz_sI M17 (b + 110 + 32 + k) (4 * pv_nl V + 3) (nI (sp_min (pv_L V (4 * l + 3) + a) 99))) (b + 110 + 20 + k) (1 : Int32) (nI (pv_nl V + 1)) = some M2 := by
                rw [← hM2]
                exact pu_tI (i := 1) _ (vl_v hy).2.2 (by omega) (by omega)
              rw [pu_tI _ (vl_l hl17).2.2 (by omega) (by omega), Option.bind_some, (vl_v hy).1, Option.bind_some, (vl_v hy).2.1, Option.bind_some, x30, Option.bind_some, pn_1, x31, Option.bind_some, vm_nl _ ((g2.l.same w2.2.1 w2.2.2.2.1).y ok1 m1'), Option.bind_some]
              show some (nI (pv_nl V + 1) - 1, M2) = _
              rw [nI_pred]
            simp only [f_X10_build, gz_jn, g1.g, g5, pn_1_9, Option.bind_some, pu_ii, pu_10, if_pos c1, if_pos c2, vm_nl (fz + 1 + 1 + 1 + 1) g2]
            rw [bl_31 _ g2 hl ha _ _ rfl, if_pos d, if_neg (show ¬ nI (pv_nl V) = (10 : Int32) from fun q => by have := (nI_eq (b := 10) (by omega) (by omega)).mp q; omega)]
            refine f2.trans ?_
            rw [(vl_l hl17).1, Option.bind_some, (vl_l hl17).2.1, Option.bind_some, Option.bind_some, (vl_l hl17).2.1, Option.bind_some, ei, x22, Option.bind_some]
            by_cases q : pv_L V (4 * l + 3) + a ≤ 99
            · rw [if_pos (show nI (pv_L V (4 * l + 3) + a) ≤ (99 : Int32) from nI_le (b := 99) q (by omega)), Option.bind_some, (vl_l hl17).2.1, Option.bind_some, x22, Option.bind_some]
              refine fin _ ?_
              unfold sp_min
              by_cases q2 : pv_L V (4 * l + 3) + a < 99
              · rw [if_pos q2]
              · rw [if_neg q2, show pv_L V (4 * l + 3) + a = 99 by omega]
            · rw [if_neg (show ¬ nI (pv_L V (4 * l + 3) + a) ≤ (99 : Int32) from nI_ge (a := 99) (by omega) (by omega))]
              refine fin _ ?_
              unfold sp_min
              rw [if_neg (by omega)]
              rfl
          · exact hI.val hv (w1.trans w2 (fun c q => Or.inl q) (fun c q => Or.inr q)) ok1 (pf_mc hk w2 c1') m1'
        · obtain ⟨M1, M2, r1, r2, r3, hw⟩ := pu_rfw (fz + 1 + 1 + 1 + 1) hI 4 (by decide) (-6) pu_k6
          have hv' := hv.same hw
          refine ⟨-6, M1, M2, ?_, ?_, r3⟩
          · rw [eC _ rfl, if_pos d, if_neg d3, r1]
            rfl
          · simp only [f_X10_build, gz_jn, hv'.gM, hv'.lM (fz + 1 + 1 + 1 + 1), pn_1_9, Option.bind_some, pu_ii, pu_10, if_pos c1, if_pos c2, vm_nl (fz + 1 + 1 + 1 + 1) hv'.m, r2, gz_b2]
            rw [bl_31 _ hv'.m hl ha _ _ rfl, if_pos d, if_pos (show nI (pv_nl V) = (10 : Int32) by rw [show pv_nl V = 10 by omega]; rfl)]
      · obtain ⟨M1, M2, r1, r2, r3, hw⟩ := pu_rfw (fz + 1 + 1 + 1 + 1) hI 3 (by decide) (-5) pu_k5
        have hv' := hv.same hw
        refine ⟨-5, M1, M2, ?_, ?_, r3⟩
        · rw [eC _ rfl, if_neg d, r1]
          rfl
        · simp only [f_X10_build, gz_jn, hv'.gM, hv'.lM (fz + 1 + 1 + 1 + 1), pn_1_9, Option.bind_some, pu_ii, pu_10, if_pos c1, if_pos c2]
          rw [bl_31 _ hv'.m hl ha _ _ rfl, if_neg d, r2]
          rfl
    · obtain ⟨M1, M2, r1, r2, r3, hw⟩ := pu_rfw fu hI 0 (by decide) (-2) pu_k2
      refine ⟨-2, M1, M2, ?_, ?_, r3⟩
      · simp only [f_X9_build, gz_jn, hv.gC, hv.vC fu, hv.fC fu, hv.lC fu, hv.sC fu, pu_within, pu_shelf, pu_count, Option.bind_some, pu_ii, pu_10, if_true, gz_b2, r1, pu_n2 hc]
      · have hv' := hv.same hw
        simp only [f_X10_build, gz_jn, hv'.gM, hv'.vM fu, hv'.fM fu, hv'.lM fu, hv'.sM fu, hv'.nM fu, pn_0_1, pn_0_2, pn_0_3, pn_0_4, pn_0_5, pn_0_7, pn_0_10, pn_0_40, pn_1_4, pn_1_6, pn_1_9, Option.bind_some, pu_ii, pu_10, if_true, gz_b2, r2, pu_n2 hc]
  · obtain ⟨M1, M2, r1, r2, r3, hw⟩ := pu_rfw fu hI 0 (by decide) (-2) pu_k2
    refine ⟨-2, M1, M2, ?_, ?_, r3⟩
    · simp only [f_X9_build, gz_jn, hz.gC, hz.vC fu, hz.fC fu, hz.lC fu, hz.sC fu, pu_within, pu_shelf, pu_count, Option.bind_some, pu_ii, pu_10, if_true, gz_b2, r1]
    · have hv' := hz.same hw
      simp only [f_X10_build, gz_jn, hv'.gM, hv'.vM fu, hv'.fM fu, hv'.lM fu, hv'.sM fu, hv'.nM fu, pn_0_1, pn_0_2, pn_0_3, pn_0_4, pn_0_5, pn_0_7, pn_0_10, pn_0_40, pn_1_4, pn_1_6, pn_1_9, Option.bind_some, pu_ii, pu_10, if_true, gz_b2, r2]
