/-! doubt -/
theorem sp_tl_x {V : pv_V} {s f n : Nat} (hf : f < n) : sp_tl V s (some f) n + sp_cost V f s = sp_tl V s none n := by
  have h := fb_sm_upd (fun g => sp_cost V g s) 0 hf
  have e1 : fb_sm (fun g => if some f = some g then 0 else sp_cost V g s) n = fb_sm (fun k => if k = f then 0 else sp_cost V k s) n := fb_sm_cong (fun k _ => by
    by_cases c : k = f
    · rw [if_pos c, if_pos (by rw [c])]
    · rw [if_neg c, if_neg (fun q => c (by cases q; rfl))])
  have e2 : fb_sm (fun g => if (none : Option Nat) = some g then 0 else sp_cost V g s) n = fb_sm (fun g => sp_cost V g s) n := fb_sm_cong (fun k _ => if_neg (by simp))
  unfold sp_tl
  rw [e1, e2]
  omega
theorem sp_own_e {V W : pv_V} {f : Nat} : ∀ n, sp_own V W f 0 n = none
  | 0 => rfl
  | n + 1 => by rw [sp_own, Nat.zero_testBit, sp_own_e n]; rfl
theorem sp_cost_e (V : pv_V) (f : Nat) : sp_cost V f 0 = sp_ct V f none := by unfold sp_cost; rw [sp_own_e]
theorem tq.lw {T a : Nat} {V : pv_V} {M : gz_M} {fu : Nat} (hfu : 5000 ≤ fu) (h : tq T V M) (hv : vy_c a V M) {f n : Nat} (hf : f < pv_nf V) (hl : ∀ s, s < 2 ^ pv_nl V → M.2.2.1 (T + 4) s = pc_n (sp_own V V f s (pv_nl V))) (hn : n ≤ 11) : f_X3_leastTotalWithout fu M T a (nI f) (nI n) = some (nI (sp_B V (some f) n)) := by
  have hok := h.2.1
  have hp := tp_le hok.2.1
  have h1 := Nat.one_le_two_pow (n := pv_nl V)
  have e3 : f_X7_footPart fu M a (nI f) (3 : Int32) = some (nI (pv_F V (5 * f + 3))) := vc_fp fu hv hf (m := 3) (by omega)
  have ec : f_X7_costAt fu M a (nI f) (2147483647 : Int32) = some (nI (sp_ct V f none)) := vc_ct fu hv hf (o := none) (fun i x e => by cases e)
  have hx : ∀ s, sp_tl V s (some f) (pv_nf V) + sp_cost V f s = sp_tot V s := fun s => sp_tl_x hf
  have t0 : gz_aI M (T + 1) (0 : Int32) = some (nI (sp_tot V 0)) := h.tot (s := 0) (by omega)
  have hx0 := hx 0
  rw [sp_cost_e] at hx0
  unfold f_X3_leastTotalWithout
  rw [h.1.gd, e3, Option.bind_some, ec, Option.bind_some, h.1.r0, Option.bind_some, t0, Option.bind_some, pk_sub (by omega), show sp_tot V 0 - sp_ct V f none = sp_tl V 0 (some f) (pv_nf V) by omega]
  have key := pl_nf (fun fuel i s => lp_X3_leastTotalWithout_34 (fun x19 => some x19) fu M T (nI n) (nI (pv_F V (5 * f + 3))) (nI (sp_ct V f none)) fuel s.1 s.2 (nI i)) (fun s => some s.1) (fun k => (nI (sp_bst V (some f) n k), nI (sp_tl V (sp_bst V (some f) n k) (some f) (pv_nf V)))) (2 ^ pv_nl V) ?_ ?_ (i := 1) (fuel := fu) h1 (by omega)
  · simp only [sp_bst_1] at key
    exact key
  · intro fuel i hi
    have hb := sp_bst_le' (V := V) (x := some f) (n := n) i
    have t1 := sp_tl_le (set := i) (x := some f) hok (Nat.le_refl _)
    have t2 := sp_tl_le (set := sp_bst V (some f) n i) (x := some f) hok (Nat.le_refl _)
    have b1 := bc_le i
    have hxi := hx i
    have hold := sp_own_ok (V := V) (W := V) (f := f) (set := i) hok (pv_nl V)
    have e4 : gz_aI M (T + 4) (nI i) = some (pc_n (sp_own V V f i (pv_nl V))) := by rw [h.1.a3 (by omega), hl i hi]
    have es : (if pc_n (sp_own V V f i (pv_nl V)) = 2147483647 then nI (sp_ct V f none) else nI (pv_F V (5 * f + 3)) * pc_n (sp_own V V f i (pv_nl V))) = nI (sp_cost V f i) := by
      unfold sp_cost
      cases e : sp_own V V f i (pv_nl V) with
      | none => rw [if_pos pc_n0]
      | some p =>
        obtain ⟨l, y⟩ := p
        obtain ⟨a1, a2, a3⟩ := hold l y e
        rw [pc_n1, if_neg (pn_mx (n := y) (by omega)).1, pk_mul]
        rfl
    have key2 : ∀ (z : Int32), z = nI (sp_cost V f i) → (if nI (sp_tl V (sp_bst V (some f) n i) (some f) (pv_nf V)) ≤ (nI (sp_tot V i) - z) then lp_X3_leastTotalWithout_34 (fun x19 => some x19) fu M T (nI n) (nI (pv_F V (5 * f + 3))) (nI (sp_ct V f none)) fuel (nI (sp_bst V (some f) n i)) (nI (sp_tl V (sp_bst V (some f) n i) (some f) (pv_nf V))) (nI (i + 1)) else if nI n < nI (sp_bc i) then lp_X3_leastTotalWithout_34 (fun x19 => some x19) fu M T (nI n) (nI (pv_F V (5 * f + 3))) (nI (sp_ct V f none)) fuel (nI (sp_bst V (some f) n i)) (nI (sp_tl V (sp_bst V (some f) n i) (some f) (pv_nf V))) (nI (i + 1)) else lp_X3_leastTotalWithout_34 (fun x19 => some x19) fu M T (nI n) (nI (pv_F V (5 * f + 3))) (nI (sp_ct V f none)) fuel (nI i) (nI (sp_tot V i) - z) (nI (i + 1))) = lp_X3_leastTotalWithout_34 (fun x19 => some x19) fu M T (nI n) (nI (pv_F V (5 * f + 3))) (nI (sp_ct V f none)) fuel (nI (sp_bst V (some f) n (i + 1))) (nI (sp_tl V (sp_bst V (some f) n (i + 1)) (some f) (pv_nf V))) (nI (i + 1)) := by
      rintro z rfl
      rw [pk_sub (by omega), show sp_tot V i - sp_cost V f i = sp_tl V i (some f) (pv_nf V) by omega, sp_bst]
      by_cases c1 : sp_tl V i (some f) (pv_nf V) < sp_tl V (sp_bst V (some f) n i) (some f) (pv_nf V)
      · rw [if_neg (nI_ge c1 (by omega))]
        by_cases c2 : sp_bc i ≤ n
        · rw [if_neg (nI_nlt c2 (by omega)), if_pos ⟨c2, c1⟩]
        · rw [if_pos (nI_lt (by omega) (by omega)), if_neg (fun q => c2 q.1)]
      · rw [if_pos (nI_le (by omega) (by omega)), if_neg (fun q => c1 q.2)]
    try dsimp only
    rw [lp_X3_leastTotalWithout_34]
    simp only [h.sets, Option.bind_some, if_neg (pn_nle hi (show 2 ^ pv_nl V < 2 ^ 31 by omega)), h.1.r0, h.1.r3, h.tot hi, e4, gz_jn, pn_1, bc_C fu M (show i < 1024 by omega)]
    by_cases d : pc_n (sp_own V V f i (pv_nl V)) = 2147483647
    · rw [if_pos d] at es ⊢
      exact key2 _ es
    · rw [if_neg d] at es ⊢
      exact key2 _ es
  · intro fuel
    try dsimp only
    rw [lp_X3_leastTotalWithout_34, h.sets, Option.bind_some, if_pos (pn_le (Nat.le_refl _) (by omega))]
def sp_dd (V : pv_V) (n f : Nat) : Int32 := nI (sp_cost V f (sp_B V (some f) n)) - nI (sp_cost V f (sp_B V none n))
def sp_db (V : pv_V) (n : Nat) : Nat → Int32
  | 0 => 0
  | f + 1 => sp_db V n f + (if 0 < sp_dd V n f then sp_dd V n f else 0)
theorem tq.db {T a : Nat} {V : pv_V} {M : gz_M} {fu : Nat} (hfu : 5000 ≤ fu) (h : tq T V M) (hv : vy_c a V M) (hd : a + 5 ≤ T ∨ T + 5 ≤ a) {n : Nat} (hn : n ≤ 11) : ∃ M', f_X3_doubtIn fu M T a (nI n) = some (sp_db V n (pv_nf V), M') ∧ pf_f (fun c => c = T + 4) M M' := by
  have hok := h.2.1
  have o1 := hok.1
  have hp := tp_le hok.2.1
  unfold f_X3_doubtIn
  rw [h.1.gd, h.lt hfu hn, Option.bind_some]
  obtain ⟨s, ⟨g1, g2⟩, g4⟩ := pl_up (σ := Int32 × gz_M) (fun fuel i s => lp_X3_doubtIn_12 (fun x14 M15 => some (x14, M15)) fu T a (nI n) (nI (sp_B V none n)) fuel s.1 i s.2) (fun s => some (s.1, s.2)) (fun i s => s.1 = sp_db V n i ∧ pf_f (fun c => c = T + 4) M s.2) (pv_nf V) (fun fuel i s hi hq => by
    obtain ⟨x, N⟩ := s
    obtain ⟨rfl, w⟩ := hq
    have ls : t_l T N := h.1.same w.2.1 w.2.2.2.1
    have vs := hv.fr w (fun c c1 c2 => by omega)
    obtain ⟨N1, n1, n2, n3⟩ := vc_fl hfu ls vs hd hi
    have w1 : pf_f (fun c => c = T + 4) M N1 := w.trans n2 (fun _ q => q) (fun _ q => q)
    have l1 : t_l T N1 := h.1.same w1.2.1 w1.2.2.2.1
    have t1 : tq T V N1 := ⟨l1, hok, by rw [w1.2.2.2.2 _ (by omega)]; exact h.2.2.1, fun s hs => by rw [w1.2.2.2.2 _ (by omega), w1.2.2.2.2 _ (by omega), w1.2.2.2.2 _ (by omega)]; exact h.2.2.2 s hs⟩
    have v1 := hv.fr w1 (fun c c1 c2 => by omega)
    have b1 := sp_B_lt V (some i) n
    have b2 := sp_B_lt V none n
    have c1 : f_X7_costAt fu N1 a (nI i) (pc_n (sp_own V V i (sp_B V (some i) n) (pv_nl V))) = some (nI (sp_cost V i (sp_B V (some i) n))) := vc_ct fu v1 hi (fun j x e => (sp_own_ok hok _ j x e).2.1)
    have c2 : f_X7_costAt fu N1 a (nI i) (pc_n (sp_own V V i (sp_B V none n) (pv_nl V))) = some (nI (sp_cost V i (sp_B V none n))) := vc_ct fu v1 hi (fun j x e => (sp_own_ok hok _ j x e).2.1)
    refine ⟨(sp_db V n (i + 1), N1), ⟨rfl, w1⟩, ?_⟩
    try dsimp only
    rw [lp_X3_doubtIn_12, vc_nf vs, Option.bind_some, if_neg (pn_nle hi (by omega)), n1, Option.bind_some, t1.lw hfu v1 hi n3 hn, Option.bind_some, l1.r3, Option.bind_some, l1.a3 (by omega), n3 _ b1, Option.bind_some, c1, Option.bind_some, Option.bind_some, l1.a3 (by omega), n3 _ b2, Option.bind_some, c2, Option.bind_some, pn_1]
    rfl) (fun fuel s hq => by
    obtain ⟨x, N⟩ := s
    obtain ⟨rfl, w⟩ := hq
    have vs := hv.fr w (fun c c1 c2 => by omega)
    try dsimp only
    rw [lp_X3_doubtIn_12, vc_nf vs, Option.bind_some, if_pos (pn_le (Nat.le_refl _) (by omega))]) (pv_nf V) 0 (0, M) fu (by omega) (by omega) ⟨rfl, pf_f.refl⟩
  refine ⟨s.2, ?_, g2⟩
  rw [← g1]
  exact g4
theorem vm_db {mo k : Nat} {V : pv_V} {M : gz_M} {fu : Nat} (hfu : 5000 ≤ fu) (h : vy_m mo k V M) {n : Nat} (hn : n ≤ 11) (j : Int32 → Option (Int32 × gz_M)) : lp_X10_doubt_32 j fu M mo (nI k) (nI n) (nI (sp_B V none n)) fu (0 : Int32) (0 : Int32) = j (sp_db V n (pv_nf V)) := by
  have hok := vm_ok h
  have o1 := hok.1
  have hp := tp_le hok.2.1
  refine pl_fn (fun fuel i s => lp_X10_doubt_32 j fu M mo (nI k) (nI n) (nI (sp_B V none n)) fuel s i) j (sp_db V n) (pv_nf V) ?_ ?_ (fuel := fu) (by omega)
  · intro fuel i hi
    have b1 := sp_B_lt V (some i) n
    have b2 := sp_B_lt V none n
    have e : f_X10_bestOf fu M mo (nI k) (nI n) (nI i) = some (nI (sp_B V (some i) n)) := vm_bo hfu h hn (x := some i) (fun y e => by cases e; omega)
    rw [lp_X10_doubt_32, vm_nf fu h, Option.bind_some, if_neg (pn_nle hi (by omega)), e, Option.bind_some, vm_ct hfu h hi (by omega), Option.bind_some, vm_ct hfu h hi (by omega), Option.bind_some]
    simp only [gz_jn, pn_1]
    show (if sp_dd V n i ≤ 0 then _ else _) = lp_X10_doubt_32 _ _ _ _ _ _ _ _ (sp_db V n i + (if 0 < sp_dd V n i then sp_dd V n i else 0)) _
    by_cases c : sp_dd V n i ≤ 0
    · rw [if_pos c, if_neg (Int32.not_lt.mpr c)]
    · rw [if_neg c, if_pos (Int32.not_le.mp c)]
      rfl
  · intro fuel
    rw [lp_X10_doubt_32, vm_nf fu h, Option.bind_some, if_pos (pn_le (Nat.le_refl _) (by omega))]
theorem op_doubt (b : Nat) {fu : Nat} (hfu : 5000 ≤ fu) : gz_op_doubt (pi_I b) fu b (b + 110) := by
  intro M v n hI
  rcases pg_val hI v with ⟨k, V, rfl, hv⟩ | hz
  · have hok := hv.ok
    have o1 := hok.1
    have o2 := hok.2.1
    have op2 : 2 ^ pv_nl V ≤ 2 ^ 10 := Nat.pow_le_pow_right (by omega) o2
    by_cases hc : (0 ≤ n ∧ n ≤ 10)
    · have c1 := hc
      obtain ⟨n, hn, rfl⟩ := pu_num (n := 10) (by decide) c1
      obtain ⟨M7, q1, v7, i7, t7⟩ := hv.fill hfu hI
      have hk := hv.2.2.1
      obtain ⟨M8, d1, w8⟩ := t7.db hfu v7.c (by omega) (show n ≤ 11 by omega)
      have w9 : pf_w b M7 M8 := ⟨w8.1, w8.2.1, w8.2.2.1, w8.2.2.2.1, fun c z1 z2 => w8.2.2.2.2 c (by omega)⟩
      have v8 := v7.same w9
      refine ⟨sp_db V n (pv_nf V), M8, M8, ?_, ?_, i7.scratch w9 (w8.2.2.2.2 _ (by omega))⟩
      · simp only [f_X9_doubt, gz_jn, hv.gC, hv.vC fu, hv.fC fu, hv.lC fu, hv.sC fu, pu_within, pu_shelf, pu_count, Option.bind_some, pu_ii, pu_10, if_true, gz_b2, if_pos c1, hv.p1, hv.p2, hv.p3, hv.p7, v7.p1, v7.p2, v7.p3, v7.p7, q1, d1]
      · simp only [f_X10_doubt, gz_jn, v8.gM, v8.vM fu, v8.fM fu, v8.lM fu, v8.sM fu, v8.nM fu, pn_0_1, pn_0_2, pn_0_3, pn_0_4, pn_0_5, pn_0_7, pn_0_10, pn_0_40, pn_1_4, pn_1_6, pn_1_9, Option.bind_some, pu_ii, pu_10, if_true, gz_b2, if_pos c1, vm_b0 hfu v8.m (show n ≤ 11 by omega), vm_db hfu v8.m (show n ≤ 11 by omega)]
    · obtain ⟨M1, M2, r1, r2, r3, hw⟩ := pu_rfw fu hI 0 (by decide) (-2) pu_k2
      refine ⟨-2, M1, M2, ?_, ?_, r3⟩
      · simp only [f_X9_doubt, gz_jn, hv.gC, hv.vC fu, hv.fC fu, hv.lC fu, hv.sC fu, pu_within, pu_shelf, pu_count, Option.bind_some, pu_ii, pu_10, if_true, gz_b2, r1, if_neg hc]
      · have hv' := hv.same hw
        simp only [f_X10_doubt, gz_jn, hv'.gM, hv'.vM fu, hv'.fM fu, hv'.lM fu, hv'.sM fu, hv'.nM fu, pn_0_1, pn_0_2, pn_0_3, pn_0_4, pn_0_5, pn_0_7, pn_0_10, pn_0_40, pn_1_4, pn_1_6, pn_1_9, Option.bind_some, pu_ii, pu_10, if_true, gz_b2, r2, if_neg hc]
  · obtain ⟨M1, M2, r1, r2, r3, hw⟩ := pu_rfw fu hI 0 (by decide) (-2) pu_k2
    refine ⟨-2, M1, M2, ?_, ?_, r3⟩
    · simp only [f_X9_doubt, gz_jn, hz.gC, hz.vC fu, hz.fC fu, hz.lC fu, hz.sC fu, pu_within, pu_shelf, pu_count, Option.bind_some, pu_ii, pu_10, if_true, gz_b2, r1]
    · have hv' := hz.same hw
      simp only [f_X10_doubt, gz_jn, hv'.gM, hv'.vM fu, hv'.fM fu, hv'.lM fu, hv'.sM fu, hv'.nM fu, pn_0_1, pn_0_2, pn_0_3, pn_0_4, pn_0_5, pn_0_7, pn_0_10, pn_0_40, pn_1_4, pn_1_6, pn_1_9, Option.bind_some, pu_ii, pu_10, if_true, gz_b2, r2]
