/-! year -/
def Vy (V : pv_V) (i : Nat) : pv_V := (V.1, V.2.1, V.2.2.1, V.2.2.2.1, V.2.2.2.2.1, V.2.2.2.2.2.1, (fun j => if j % 5 = 0 ∧ j / 5 < i then sp_gw V (j / 5) 1 else V.2.2.2.2.2.2.1 j), V.2.2.2.2.2.2.2)
theorem Vy_F (V : pv_V) (i j : Nat) : pv_F (Vy V i) j = if j % 5 = 0 ∧ j / 5 < i then sp_gw V (j / 5) 1 else pv_F V j := rfl
theorem Vy_nf (V : pv_V) (i : Nat) : pv_nf (Vy V i) = pv_nf V := rfl
theorem Vy_ok {V : pv_V} (h : pv_ok V) {i : Nat} (hi : i ≤ pv_nf V) : pv_ok (Vy V i) := by
  obtain ⟨h1, h2, h3, h4, h5, h6, h7⟩ := id h
  refine ⟨h1, h2, h3, h4, h5, fun f hf => ?_, h7⟩
  obtain ⟨q1, q2, q3, q4⟩ := h6 f hf
  refine ⟨fun m hm => ?_, ?_, ?_, ?_⟩
  · rw [Vy_F]
    split
    · rename_i e
      exact (sp_gw_le h (show (5 * f + m) / 5 < pv_nf V by omega)).2
    · exact q1 m hm
  · rw [Vy_F, if_neg (by omega)]; exact q2
  · rw [Vy_F, if_neg (by omega)]; exact q3
  · rw [Vy_F, if_neg (by omega)]; exact q4
theorem Vy_0 (V : pv_V) (i : Nat) : pv_F (Vy V i) (5 * i) = pv_F V (5 * i) := by rw [Vy_F, if_neg (by omega)]
theorem Vy_gw (V : pv_V) (i : Nat) : sp_gw (Vy V i) i 1 = sp_gw V i 1 := by unfold sp_gw; rw [Vy_0]; rfl
theorem Vy_s (V : pv_V) (i j : Nat) : pv_F (Vy V (i + 1)) j = if j = 5 * i then sp_gw V i 1 else pv_F (Vy V i) j := by
  rw [Vy_F, Vy_F]
  by_cases e : j = 5 * i
  · subst e
    rw [if_pos (by omega), if_pos rfl, show 5 * i / 5 = i by omega]
  · rw [if_neg e]
    by_cases q : j % 5 = 0 ∧ j / 5 < i
    · rw [if_pos q, if_pos (by omega)]
    · rw [if_neg q, if_neg (by omega)]
theorem pvc_y {a i : Nat} {V : pv_V} {M M' : gz_M} (h : pv_c a (Vy V i) M) (hI : ∀ c j, M'.2.2.1 c j = if c = a + 1 ∧ j = 5 * i then nI (sp_gw V i 1) else M.2.2.1 c j) : pv_c a (Vy V (i + 1)) M' := by
  obtain ⟨h1, h2, h3, h4, h5, h6, h7, h8⟩ := h
  refine ⟨?_, ?_, ?_, ?_, fun m hm => ?_, fun m hm => ?_, fun j hj => ?_, fun j hj => ?_⟩
  all_goals rw [hI]
  · rw [if_neg (by omega)]; exact h1
  · rw [if_neg (by omega)]; exact h2
  · rw [if_neg (by omega)]; exact h3
  · rw [if_neg (by omega)]; exact h4
  · rw [if_neg (by omega)]; exact h5 m hm
  · rw [if_neg (by omega)]; exact h6 m hm
  · rw [Vy_s]
    by_cases e : j = 5 * i
    · rw [if_pos ⟨rfl, e⟩, if_pos e]
    · rw [if_neg (fun q => e q.2), if_neg e]; exact h7 j hj
  · rw [if_neg (by omega)]; exact h8 j hj
theorem pvm_y {mo k i : Nat} {V : pv_V} {M M' : gz_M} (hk : k < 5) (h : pv_m mo k (Vy V i) M) (hI : ∀ c j, M'.2.2.1 c j = if c = mo + 26 + k ∧ j = 5 * i then nI (sp_gw V i 1) else M.2.2.1 c j) : pv_m mo k (Vy V (i + 1)) M' := by
  obtain ⟨h1, h2, h3, h4, h5, h6, h7, h8⟩ := h
  refine ⟨?_, ?_, ?_, ?_, fun m hm => ?_, fun m hm => ?_, fun j hj => ?_, fun j hj => ?_⟩
  all_goals rw [hI]
  · rw [if_neg (by omega)]; exact h1
  · rw [if_neg (by omega)]; exact h2
  · rw [if_neg (by omega)]; exact h3
  · rw [if_neg (by omega)]; exact h4
  · rw [if_neg (by omega)]; exact h5 m hm
  · rw [if_neg (by omega)]; exact h6 m hm
  · rw [Vy_s]
    by_cases e : j = 5 * i
    · rw [if_pos ⟨rfl, e⟩, if_pos e]
    · rw [if_neg (fun q => e q.2), if_neg e]; exact h7 j hj
  · rw [if_neg (by omega)]; exact h8 j hj
def sp_yr (V : pv_V) : Nat → Nat := fb_sm (fun f => if sp_gw V f 1 = pv_F V (5 * f) then 0 else 1)
theorem vc_yr {b k : Nat} {V : pv_V} {M : gz_M} {fu : Nat} (hfu : 5000 ≤ fu) (hv : vb b k V M) : ∃ M1, lp_X9_year_30 (fun x16 M17 => some (x16, M17)) fu (b + 13 + 5 * k) fu (0 : Int32) (0 : Int32) M = some (nI (sp_yr V (pv_nf V)), M1) ∧ pf_f (pc_C b k) M M1 ∧ pv_c (b + 13 + 5 * k) (Vy V (pv_nf V)) M1 := by
  have hok := hv.ok
  have o1 := hok.1
  have hc := hv.c
  have h00 : pv_c (b + 13 + 5 * k) (Vy V 0) M := by
    have h := hv.2.2.2.2.1
    obtain ⟨h1, h2, h3, h4, h5, h6, h7, h8⟩ := h
    exact ⟨h1, h2, h3, h4, h5, h6, fun j hj => by rw [Vy_F, if_neg (by omega)]; exact h7 j hj, h8⟩
  obtain ⟨s, ⟨e1, e2, e3⟩, h2⟩ := pl_up (σ := Int32 × gz_M) (fun fuel i s => lp_X9_year_30 (fun x16 M17 => some (x16, M17)) fu (b + 13 + 5 * k) fuel s.1 i s.2) (fun s => some (s.1, s.2)) (fun i s => s.1 = nI (sp_yr V i) ∧ pf_f (pc_C b k) M s.2 ∧ pv_c (b + 13 + 5 * k) (Vy V i) s.2) (pv_nf V) (fun fuel i s hi hp => by
    obtain ⟨x, N⟩ := s
    obtain ⟨rfl, w, hp⟩ := hp
    have hl : vl_c (b + 13 + 5 * k) N := hc.l.same w.2.1 w.2.2.2.1
    have hy : vy_c (b + 13 + 5 * k) (Vy V i) N := hl.y (Vy_ok hok (by omega)) hp
    have hle := sp_gw_le (V := V) (f := i) (y := 1) hok hi
    have g := vc_gw fu hy (f := i) (y := 1) hi (by omega)
    rw [Vy_gw, Vy_0] at g
    have g' : f_X7_growthIn fu N (b + 13 + 5 * k) (nI i) (1 : Int32) = some (nI (sp_gw V i 1 - pv_F V (5 * i))) := g
    have f0 : f_X7_footPart fu N (b + 13 + 5 * k) (nI i) (0 : Int32) = some (nI (pv_F V (5 * i))) := by
      have q : f_X7_footPart fu N (b + 13 + 5 * k) (nI i) (0 : Int32) = some (nI (pv_F (Vy V i) (5 * i))) := vc_fp fu hy (f := i) (m := 0) hi (by omega)
      rw [Vy_0] at q
      exact q
    dsimp only
    rw [lp_X9_year_30, vc_nf hy, Vy_nf, Option.bind_some, if_neg (pn_nle (n := pv_nf V) hi (by omega)), g', Option.bind_some]
    simp only [gz_jn, pn_1]
    by_cases c : sp_gw V i 1 = pv_F V (5 * i)
    · refine ⟨(nI (sp_yr V i), N), ⟨?_, w, pvc_y hp (fun c' j => ?_)⟩, ?_⟩
      · show _ = nI (sp_yr V i + (if sp_gw V i 1 = pv_F V (5 * i) then 0 else 1))
        rw [if_pos c]; rfl
      · by_cases q : c' = b + 13 + 5 * k + 1 ∧ j = 5 * i
        · rw [if_pos q, q.1, q.2, hp.2.2.2.2.2.2.1 (5 * i) (by show 5 * i < 5 * pv_nf V; omega), Vy_0, c]
        · rw [if_neg q]
      · rw [c, Nat.sub_self, if_pos (show nI 0 ≤ 0 by decide)]
    · have p := vl_pf fu hl (f := i) (m := 0) (by omega) (nI (sp_gw V i 1))
      have p' : f_X7_putFootPart fu N (b + 13 + 5 * k) (nI i) (0 : Int32) (nI (sp_gw V i 1)) = some (gz_sI N (b + 13 + 5 * k + 1) (5 * i) (nI (sp_gw V i 1))) := p
      refine ⟨(nI (sp_yr V i + 1), gz_sI N (b + 13 + 5 * k + 1) (5 * i) (nI (sp_gw V i 1))), ⟨?_, w.two (by unfold pc_C; omega), pvc_y hp (fun c' j => pu_sI_at)⟩, ?_⟩
      · show _ = nI (sp_yr V i + (if sp_gw V i 1 = pv_F V (5 * i) then 0 else 1))
        rw [if_neg c]
      · rw [if_neg (nI_nle (by omega) (by omega)), f0, Option.bind_some, nI_add, show pv_F V (5 * i) + (sp_gw V i 1 - pv_F V (5 * i)) = sp_gw V i 1 by omega, p', Option.bind_some]) (fun fuel s hp => by
    obtain ⟨x, N⟩ := s
    obtain ⟨rfl, w, hp⟩ := hp
    have hl : vl_c (b + 13 + 5 * k) N := hc.l.same w.2.1 w.2.2.2.1
    dsimp only
    rw [lp_X9_year_30, vc_nf (hl.y (Vy_ok hok (Nat.le_refl _)) hp), Vy_nf, Option.bind_some, if_pos (pn_le (n := pv_nf V) (Nat.le_refl _) (by omega))]) (pv_nf V) 0 (0, M) fu (by omega) (by omega) ⟨rfl, pf_f.refl, h00⟩
  refine ⟨s.2, ?_, e2, e3⟩
  rw [← e1]
  exact h2
theorem vm_yr {b k : Nat} {V : pv_V} {M : gz_M} {fu : Nat} (hfu : 5000 ≤ fu) (hk : k < 5) (hy0 : vy_m (b + 110) k V M) : ∃ M1, lp_X10_year_19 (fun x16 M17 => some (x16, M17)) fu (b + 110) (nI k) fu (0 : Int32) (0 : Int32) M = some (nI (sp_yr V (pv_nf V)), M1) ∧ pf_f (pc_M b k) M M1 ∧ pv_m (b + 110) k (Vy V (pv_nf V)) M1 := by
  have hok := vm_ok hy0
  have o1 := hok.1
  have h00 : pv_m (b + 110) k (Vy V 0) M := by
    have h := hy0.2.2.2
    obtain ⟨h1, h2, h3, h4, h5, h6, h7, h8⟩ := h
    exact ⟨h1, h2, h3, h4, h5, h6, fun j hj => by rw [Vy_F, if_neg (by omega)]; exact h7 j hj, h8⟩
  obtain ⟨s, ⟨e1, e2, e3⟩, h2⟩ := pl_up (σ := Int32 × gz_M) (fun fuel i s => lp_X10_year_19 (fun x16 M17 => some (x16, M17)) fu (b + 110) (nI k) fuel s.1 i s.2) (fun s => some (s.1, s.2)) (fun i s => s.1 = nI (sp_yr V i) ∧ pf_f (pc_M b k) M s.2 ∧ pv_m (b + 110) k (Vy V i) s.2) (pv_nf V) (fun fuel i s hi hp => by
    obtain ⟨x, N⟩ := s
    obtain ⟨rfl, w, hp⟩ := hp
    have hl : vl_m (b + 110) k N := hy0.l.same w.2.1 w.2.2.2.1
    have hy : vy_m (b + 110) k (Vy V i) N := hl.y (Vy_ok hok (by omega)) hp
    have hle := sp_gw_le (V := V) (f := i) (y := 1) hok hi
    have g := vm_gw fu hy (f := i) (y := 1) hi (by omega)
    rw [Vy_gw] at g
    have g' : f_X10_grown fu N (b + 110) (nI k) (nI i) (1 : Int32) = some (nI (sp_gw V i 1)) := g
    have f0 : f_X10_of fu N (b + 110) (nI k) (nI i) (0 : Int32) = some (nI (pv_F V (5 * i))) := by
      have q : f_X10_of fu N (b + 110) (nI k) (nI i) (0 : Int32) = some (nI (pv_F (Vy V i) (5 * i))) := vm_fp fu hy (f := i) (m := 0) hi (by omega)
      rw [Vy_0] at q
      exact q
    have e5 : (5 : Int32) * nI i = nI (5 * i) := pk_mul 5 i
    refine ⟨(nI (sp_yr V (i + 1)), gz_sI N (b + 110 + 26 + k) (5 * i) (nI (sp_gw V i 1))), ⟨rfl, w.two (by unfold pc_M; omega), pvm_y hk hp (fun c' j => pu_sI_at)⟩, ?_⟩
    dsimp only
    rw [lp_X10_year_19, vm_nf fu hy, Vy_nf, Option.bind_some, if_neg (pn_nle (n := pv_nf V) hi (by omega)), g', Option.bind_some, f0, Option.bind_some]
    simp only [gz_jn, pn_1, (vl_f hl).1, (vl_f hl).2.1, Option.bind_some, e5, pu_tI (nI (sp_gw V i 1)) (vl_f hl).2.2 (show 5 * i < 60 by omega) (by omega)]
    show _ = lp_X10_year_19 _ _ _ _ _ (nI (sp_yr V i + (if sp_gw V i 1 = pv_F V (5 * i) then 0 else 1))) _ _
    by_cases c : sp_gw V i 1 = pv_F V (5 * i)
    · rw [c, if_pos rfl, if_pos rfl, Int32.add_zero]; rfl
    · rw [if_neg (fun q => c ((nI_eq (by omega) (by omega)).mp q)), if_neg c]) (fun fuel s hp => by
    obtain ⟨x, N⟩ := s
    obtain ⟨rfl, w, hp⟩ := hp
    have hl : vl_m (b + 110) k N := hy0.l.same w.2.1 w.2.2.2.1
    dsimp only
    rw [lp_X10_year_19, vm_nf fu (hl.y (Vy_ok hok (Nat.le_refl _)) hp), Vy_nf, Option.bind_some, if_pos (pn_le (n := pv_nf V) (Nat.le_refl _) (by omega))]) (pv_nf V) 0 (0, M) fu (by omega) (by omega) ⟨rfl, pf_f.refl, h00⟩
  refine ⟨s.2, ?_, e2, e3⟩
  rw [← e1]
  exact h2
theorem op_year (b : Nat) {fu : Nat} (hfu : 5000 ≤ fu) : gz_op_year (pi_I b) fu b (b + 110) := by
  intro M v  hI
  rcases pg_val hI v with ⟨k, V, rfl, hv⟩ | hz
  · have hok := hv.ok
    have o1 := hok.1
    have o2 := hok.2.1
    have op2 : 2 ^ pv_nl V ≤ 2 ^ 10 := Nat.pow_le_pow_right (by omega) o2
    have hk := hv.2.2.1
    obtain ⟨M1, q1, w1, q3⟩ := vc_yr hfu hv
    obtain ⟨g1, g2, g3, g4, g5⟩ := hv.cm2 (V' := V) w1
    obtain ⟨M2, t1, w2, t3⟩ := vm_yr (b := b) hfu (by omega) g2
    refine ⟨nI (sp_yr V (pv_nf V)), M1, M2, ?_, ?_, ?_⟩
    · simp only [f_X9_year, gz_jn, hv.gC, hv.vC fu, hv.fC fu, hv.lC fu, hv.sC fu, pu_within, pu_shelf, pu_count, Option.bind_some, pu_ii, pu_10, if_true, gz_b2, hv.p1, hv.p2, hv.p3, q1]
    · simp only [f_X10_year, gz_jn, g1.g, g3, Option.bind_some, pu_10, t1]
    · exact hI.val hv (w1.trans w2 (fun c q => Or.inl q) (fun c q => Or.inr q)) (Vy_ok hok (Nat.le_refl _)) (pf_mc hk w2 q3) t3
  · obtain ⟨M1, M2, r1, r2, r3, hw⟩ := pu_rfw fu hI 0 (by decide) (-2) pu_k2
    refine ⟨-2, M1, M2, ?_, ?_, r3⟩
    · simp only [f_X9_year, gz_jn, hz.gC, hz.vC fu, hz.fC fu, hz.lC fu, hz.sC fu, pu_within, pu_shelf, pu_count, Option.bind_some, pu_ii, pu_10, if_true, gz_b2, r1]
    · have hv' := hz.same hw
      simp only [f_X10_year, gz_jn, hv'.gM, hv'.vM fu, hv'.fM fu, hv'.lM fu, hv'.sM fu, hv'.nM fu, pn_0_1, pn_0_2, pn_0_3, pn_0_4, pn_0_5, pn_0_7, pn_0_10, pn_0_40, pn_1_4, pn_1_6, pn_1_9, Option.bind_some, pu_ii, pu_10, if_true, gz_b2, r2]
