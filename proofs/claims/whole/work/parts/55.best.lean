/-! how many lasts a set has; the best set -/
def sp_bc (s : Nat) : Nat := fb_sm (fun k => (s.testBit k).toNat) 12
theorem bc_key : ∀ s, s < 1024 → f_J6_bitCount_0f7a4 0 (0, fun _ => (0, 0), fun _ _ => 0, fun _ _ => 0, fun _ _ => none) (nI s) = some (nI (sp_bc s)) := by decide +kernel
theorem bc_C (fu : Nat) (M : gz_M) {s : Nat} (hs : s < 1024) : f_J6_bitCount_0f7a4 fu M (nI s) = some (nI (sp_bc s)) := bc_key s hs
theorem bc_le (s : Nat) : sp_bc s ≤ 12 := by
  have h : sp_bc s ≤ 12 * 1 := fb_sm_bound (fun k _ => by cases s.testBit k <;> decide)
  omega
theorem bc_M {fu : Nat} (hfu : 5000 ≤ fu) (M : gz_M) {s : Nat} (hs : s < 2 ^ 20) : f_X10_bits fu M (nI s) = some (nI (sp_bc s)) := by
  unfold f_X10_bits
  refine pl_fn (fun fuel i x => lp_X10_bits_4 (fun x3 => some x3) (nI s) fuel x i) (fun x => some x) (fun k => nI (fb_sm (fun k => (s.testBit k).toNat) k)) 12 ?_ ?_ (fuel := fu) (by omega)
  · intro fuel i hi
    rw [lp_X10_bits_4, if_neg (show ¬ (12 : Int32) ≤ nI i from pn_nle (n := 12) hi (by omega)), pn_bv (by omega) (by omega), nI_add, pn_1]
    rfl
  · intro fuel
    rw [lp_X10_bits_4, if_pos (show (12 : Int32) ≤ nI 12 by decide)]
/-- the best of n of the first k sets, by the totals without the foot x -/
def sp_bst (V : pv_V) (x : Option Nat) (n : Nat) : Nat → Nat
  | 0 => 0
  | k + 1 => if sp_bc k ≤ n ∧ sp_tl V k x (pv_nf V) < sp_tl V (sp_bst V x n k) x (pv_nf V) then k else sp_bst V x n k
theorem sp_bst_1 (V : pv_V) (x : Option Nat) (n : Nat) : sp_bst V x n 1 = 0 := by
  unfold sp_bst sp_bst
  split <;> rfl
theorem sp_bst_le {V : pv_V} {x : Option Nat} {n : Nat} : ∀ k, sp_bst V x n (k + 1) ≤ k
  | 0 => by rw [sp_bst_1]; exact Nat.le_refl _
  | k + 1 => by
    have := sp_bst_le (V := V) (x := x) (n := n) k
    rw [sp_bst]
    split <;> omega
theorem sp_bst_le' {V : pv_V} {x : Option Nat} {n : Nat} : ∀ k, sp_bst V x n k ≤ k
  | 0 => Nat.le_refl _
  | k + 1 => by have := sp_bst_le (V := V) (x := x) (n := n) k; omega
/-- BEST of n -/
def sp_B (V : pv_V) (x : Option Nat) (n : Nat) : Nat := sp_bst V x n (2 ^ pv_nl V)
theorem sp_B_lt (V : pv_V) (x : Option Nat) (n : Nat) : sp_B V x n < 2 ^ pv_nl V := by
  have h := Nat.one_le_two_pow (n := pv_nl V)
  have := sp_bst_le (V := V) (x := x) (n := n) (2 ^ pv_nl V - 1)
  rw [show 2 ^ pv_nl V - 1 + 1 = 2 ^ pv_nl V by omega] at this
  unfold sp_B
  omega
section TQ
variable {T : Nat} {V : pv_V} {M : gz_M} {fu : Nat}
/-- the table is V's -/
def tq (T : Nat) (V : pv_V) (M : gz_M) : Prop := t_l T M ∧ pv_ok V ∧ tb T V (pv_nf V) M
theorem tq.tot (h : tq T V M) {s : Nat} (hs : s < 2 ^ pv_nl V) : gz_aI M (T + 1) (nI s) = some (nI (sp_tot V s)) := by
  have := tp_le h.2.1.2.1
  rw [h.1.a0 (by omega), (h.2.2.2 s hs).1]
  rfl
theorem tq.sets (h : tq T V M) : gz_gI M 3 4 T = some (nI (2 ^ pv_nl V)) := by rw [h.1.g4, h.2.2.1]
theorem tq.lt (hfu : 5000 ≤ fu) (h : tq T V M) {n : Nat} (hn : n ≤ 11) : f_X3_leastTotal fu M T (nI n) = some (nI (sp_B V none n)) := by
  have hp := tp_le h.2.1.2.1
  have h1 := Nat.one_le_two_pow (n := pv_nl V)
  unfold f_X3_leastTotal
  rw [h.1.gd]
  have key := pl_nf (fun fuel i s => lp_X3_leastTotal_4 (fun x10 => some x10) fu M T (nI n) fuel s (nI i)) (fun s => some s) (fun k => nI (sp_bst V none n k)) (2 ^ pv_nl V) ?_ ?_ (i := 1) (fuel := fu) h1 (by omega)
  · simp only [sp_bst_1] at key
    exact key
  · intro fuel i hi
    have hb := sp_bst_le' (V := V) (x := none) (n := n) i
    have t1 := sp_tot_lt (set := i) h.2.1
    have t2 := sp_tot_lt (set := sp_bst V none n i) h.2.1
    have b1 := bc_le i
    try dsimp only
    rw [lp_X3_leastTotal_4]
    simp only [h.sets, Option.bind_some, if_neg (pn_nle hi (show 2 ^ pv_nl V < 2 ^ 31 by omega)), h.1.r0, h.tot hi, h.tot (show sp_bst V none n i < 2 ^ pv_nl V by omega), gz_jn, pn_1, bc_C fu M (show i < 1024 by omega)]
    rw [sp_bst]
    change _ = lp_X3_leastTotal_4 _ _ _ _ _ _ (nI (if sp_bc i ≤ n ∧ sp_tot V i < sp_tot V (sp_bst V none n i) then i else sp_bst V none n i)) _
    by_cases c1 : sp_tot V i < sp_tot V (sp_bst V none n i)
    · rw [if_neg (nI_ge c1 (by omega))]
      by_cases c2 : sp_bc i ≤ n
      · rw [if_neg (nI_nlt c2 (by omega)), if_pos ⟨c2, c1⟩]
      · rw [if_pos (nI_lt (by omega) (by omega)), if_neg (fun q => c2 q.1)]
    · rw [if_pos (nI_le (by omega) (by omega)), if_neg (fun q => c1 q.2)]
  · intro fuel
    try dsimp only
    rw [lp_X3_leastTotal_4, h.sets, Option.bind_some, if_pos (pn_le (Nat.le_refl _) (by omega))]
end TQ
/-- the reference's best -/
theorem vm_bo {mo k : Nat} {V : pv_V} {M : gz_M} {fu : Nat} (hfu : 5000 ≤ fu) (h : vy_m mo k V M) {n : Nat} (hn : n ≤ 11) {x : Option Nat} (hx : ∀ y, x = some y → y < 2 ^ 20) : f_X10_bestOf fu M mo (nI k) (nI n) (pc_o x) = some (nI (sp_B V x n)) := by
  have hok := vm_ok h
  have hp := tp_le hok.2.1
  have h1 := Nat.one_le_two_pow (n := pv_nl V)
  unfold f_X10_bestOf
  rw [vm_gd h]
  let S : Nat → Int32 × Int32 := fun i => match i with
    | 0 => (-1, 0)
    | i + 1 => (nI (sp_bst V x n (i + 1)), nI (sp_tl V (sp_bst V x n (i + 1)) x (pv_nf V)))
  have key := pl_nf (fun fuel i s => lp_X10_bestOf_9 (fun x9 => some x9) fu M mo (nI k) (nI n) (pc_o x) fuel s.1 s.2 (nI i)) (fun s => some s.1) S (2 ^ pv_nl V) ?_ ?_ (i := 0) (fuel := fu) (Nat.zero_le _) (by omega)
  · refine key.trans ?_
    obtain ⟨p, hp2⟩ : ∃ p, 2 ^ pv_nl V = p + 1 := ⟨2 ^ pv_nl V - 1, by omega⟩
    unfold sp_B
    rw [hp2]
  · intro fuel i hi
    have b1 := bc_le i
    have t1 := sp_tl_le (set := i) (x := x) hok (Nat.le_refl _)
    try dsimp only
    rw [lp_X10_bestOf_9]
    simp only [vm_all fu h, pn_pow, Option.bind_some, if_neg (nI_nlt (show i ≤ 2 ^ pv_nl V - 1 by omega) (show 2 ^ pv_nl V - 1 < 2 ^ 31 by omega)), bc_M hfu M (show i < 2 ^ 20 by omega), vm_tl hfu h (show i < 2 ^ 20 by omega) hx, gz_jn, pn_1]
    cases i with
    | zero =>
      have e0 : sp_bc 0 = 0 := by decide
      rw [e0, if_neg (nI_nlt (Nat.zero_le n) (by omega))]
      show (if (-1 : Int32) = -1 then _ else _) = lp_X10_bestOf_9 _ _ _ _ _ _ _ _ (nI (sp_bst V x n 1)) (nI (sp_tl V (sp_bst V x n 1) x (pv_nf V))) _
      rw [if_pos rfl, sp_bst_1]
    | succ j =>
      have hb := sp_bst_le (V := V) (x := x) (n := n) j
      have t2 := sp_tl_le (set := sp_bst V x n (j + 1)) (x := x) hok (Nat.le_refl _)
      show _ = lp_X10_bestOf_9 _ _ _ _ _ _ _ _ (nI (sp_bst V x n (j + 1 + 1))) (nI (sp_tl V (sp_bst V x n (j + 1 + 1)) x (pv_nf V))) _
      show (if _ then lp_X10_bestOf_9 _ _ _ _ _ _ _ _ (nI (sp_bst V x n (j + 1))) (nI (sp_tl V (sp_bst V x n (j + 1)) x (pv_nf V))) _ else if nI (sp_bst V x n (j + 1)) = -1 then _ else if nI (sp_tl V (sp_bst V x n (j + 1)) x (pv_nf V)) ≤ _ then lp_X10_bestOf_9 _ _ _ _ _ _ _ _ (nI (sp_bst V x n (j + 1))) (nI (sp_tl V (sp_bst V x n (j + 1)) x (pv_nf V))) _ else _) = _
      rw [if_neg (pn_neg (n := sp_bst V x n (j + 1)) (by omega)), show sp_bst V x n (j + 1 + 1) = if sp_bc (j + 1) ≤ n ∧ sp_tl V (j + 1) x (pv_nf V) < sp_tl V (sp_bst V x n (j + 1)) x (pv_nf V) then j + 1 else sp_bst V x n (j + 1) from rfl]
      by_cases c2 : sp_bc (j + 1) ≤ n
      · rw [if_neg (nI_nlt c2 (by omega))]
        by_cases c1 : sp_tl V (j + 1) x (pv_nf V) < sp_tl V (sp_bst V x n (j + 1)) x (pv_nf V)
        · rw [if_neg (nI_ge c1 (by omega)), if_pos ⟨c2, c1⟩]
        · rw [if_pos (nI_le (by omega) (by omega)), if_neg (fun q => c1 q.2)]
      · rw [if_pos (nI_lt (by omega) (by omega)), if_neg (fun q => c2 q.1)]
  · intro fuel
    try dsimp only
    rw [lp_X10_bestOf_9, vm_all fu h, pn_pow, Option.bind_some, if_pos (nI_lt (show 2 ^ pv_nl V - 1 < 2 ^ pv_nl V by omega) (by omega))]
theorem vm_b0 {mo k : Nat} {V : pv_V} {M : gz_M} {fu : Nat} (hfu : 5000 ≤ fu) (h : vy_m mo k V M) {n : Nat} (hn : n ≤ 11) : f_X10_bestOf fu M mo (nI k) (nI n) (-1 : Int32) = some (nI (sp_B V none n)) := vm_bo hfu h hn (x := none) (fun y e => by cases e)
theorem vm_lo {mo k : Nat} {V : pv_V} {M : gz_M} {fu : Nat} (hfu : 5000 ≤ fu) (h : vy_m mo k V M) {n : Nat} (hn : n ≤ 11) : f_X10_leastOf fu M mo (nI k) (nI n) = some (nI (sp_tot V (sp_B V none n))) := by
  have hp := tp_le (vm_ok h).2.1
  have := sp_B_lt V none n
  unfold f_X10_leastOf
  rw [vm_gd h, vm_b0 hfu h hn, Option.bind_some, vm_tot hfu h (show sp_B V none n < 2 ^ 20 by omega), Option.bind_some]
/-! the ops see a filled table -/
theorem pf_tw {b : Nat} {M M' : gz_M} (w : pf_f (t_P (b + 62)) M M') : pf_w b M M' := ⟨w.1, w.2.1, w.2.2.1, w.2.2.2.1, fun c q1 q2 => w.2.2.2.2 c (by unfold t_P; omega)⟩
theorem vb.p7 {b k : Nat} {V : pv_V} {M : gz_M} (h : vb b k V M) : gz_gR M 9 7 b = some (b + 62) := lc_R h.1 7 62 (by decide)
theorem vb.fill {b k fu : Nat} {V : pv_V} {M : gz_M} (hfu : 5000 ≤ fu) (hI : pi_I b M) (h : vb b k V M) : ∃ M', f_X3_fillFor fu M (b + 62) (b + 13 + 5 * k) = some M' ∧ vb b k V M' ∧ pi_I b M' ∧ tq (b + 62) V M' := by
  have hk := h.2.2.1
  obtain ⟨M', q1, w, q2⟩ := vc_ff hfu (t_mk h.1) h.c (by omega)
  have hv := h.same (pf_tw w)
  exact ⟨M', q1, hv, hI.scratch (pf_tw w) (w.2.2.2.2 _ (by unfold t_P; omega)), t_mk hv.1, h.ok, q2⟩
theorem op_best (b : Nat) {fu : Nat} (hfu : 5000 ≤ fu) : gz_op_best (pi_I b) fu b (b + 110) := by
  intro M v n hI
  rcases pg_val hI v with ⟨k, V, rfl, hv⟩ | hz
  · have hok := hv.ok
    have o1 := hok.1
    have o2 := hok.2.1
    have op2 : 2 ^ pv_nl V ≤ 2 ^ 10 := Nat.pow_le_pow_right (by omega) o2
    by_cases hc : (0 ≤ n ∧ n ≤ 10)
    · have c1 := hc
      obtain ⟨n, hn, rfl⟩ := pu_num (n := 10) (by decide) c1
      obtain ⟨M7, q1, v7, i7, t7⟩ := hv.fill hfu hI
      refine ⟨nI (sp_B V none n), M7, M7, ?_, ?_, i7⟩
      · simp only [f_X9_best, gz_jn, hv.gC, hv.vC fu, hv.fC fu, hv.lC fu, hv.sC fu, pu_within, pu_shelf, pu_count, Option.bind_some, pu_ii, pu_10, if_true, gz_b2, if_pos c1, hv.p1, hv.p2, hv.p3, hv.p7, v7.p7, q1, t7.lt hfu (show n ≤ 11 by omega)]
      · simp only [f_X10_best, gz_jn, v7.gM, v7.vM fu, v7.fM fu, v7.lM fu, v7.sM fu, v7.nM fu, pn_0_1, pn_0_2, pn_0_3, pn_0_4, pn_0_5, pn_0_7, pn_0_10, pn_0_40, pn_1_4, pn_1_6, pn_1_9, Option.bind_some, pu_ii, pu_10, if_true, gz_b2, if_pos c1, vm_b0 hfu v7.m (show n ≤ 11 by omega)]
    · obtain ⟨M1, M2, r1, r2, r3, hw⟩ := pu_rfw fu hI 0 (by decide) (-2) pu_k2
      refine ⟨-2, M1, M2, ?_, ?_, r3⟩
      · simp only [f_X9_best, gz_jn, hv.gC, hv.vC fu, hv.fC fu, hv.lC fu, hv.sC fu, pu_within, pu_shelf, pu_count, Option.bind_some, pu_ii, pu_10, if_true, gz_b2, r1, if_neg hc]
      · have hv' := hv.same hw
        simp only [f_X10_best, gz_jn, hv'.gM, hv'.vM fu, hv'.fM fu, hv'.lM fu, hv'.sM fu, hv'.nM fu, pn_0_1, pn_0_2, pn_0_3, pn_0_4, pn_0_5, pn_0_7, pn_0_10, pn_0_40, pn_1_4, pn_1_6, pn_1_9, Option.bind_some, pu_ii, pu_10, if_true, gz_b2, r2, if_neg hc]
  · obtain ⟨M1, M2, r1, r2, r3, hw⟩ := pu_rfw fu hI 0 (by decide) (-2) pu_k2
    refine ⟨-2, M1, M2, ?_, ?_, r3⟩
    · simp only [f_X9_best, gz_jn, hz.gC, hz.vC fu, hz.fC fu, hz.lC fu, hz.sC fu, pu_within, pu_shelf, pu_count, Option.bind_some, pu_ii, pu_10, if_true, gz_b2, r1]
    · have hv' := hz.same hw
      simp only [f_X10_best, gz_jn, hv'.gM, hv'.vM fu, hv'.fM fu, hv'.lM fu, hv'.sM fu, hv'.nM fu, pn_0_1, pn_0_2, pn_0_3, pn_0_4, pn_0_5, pn_0_7, pn_0_10, pn_0_40, pn_1_4, pn_1_6, pn_1_9, Option.bind_some, pu_ii, pu_10, if_true, gz_b2, r2]
theorem op_more (b : Nat) {fu : Nat} (hfu : 5000 ≤ fu) : gz_op_more (pi_I b) fu b (b + 110) := by
  intro M v n hI
  rcases pg_val hI v with ⟨k, V, rfl, hv⟩ | hz
  · have hok := hv.ok
    have o1 := hok.1
    have o2 := hok.2.1
    have op2 : 2 ^ pv_nl V ≤ 2 ^ 10 := Nat.pow_le_pow_right (by omega) o2
    by_cases hc : (0 ≤ n ∧ n ≤ 9)
    · have c1 := hc
      obtain ⟨n, hn, rfl⟩ := pu_num (n := 9) (by decide) c1
      obtain ⟨M7, q1, v7, i7, t7⟩ := hv.fill hfu hI
      refine ⟨nI (sp_tot V (sp_B V none n)) - nI (sp_tot V (sp_B V none (n + 1))), M7, M7, ?_, ?_, i7⟩
      · simp only [f_X9_more, gz_jn, hv.gC, hv.vC fu, hv.fC fu, hv.lC fu, hv.sC fu, pu_within, pu_shelf, pu_count, Option.bind_some, pu_ii, pu_10, if_true, gz_b2, if_pos c1, hv.p1, hv.p2, hv.p3, hv.p7, v7.p7, t7.1.r0, q1, pn_1, t7.lt hfu (show n ≤ 11 by omega), t7.lt hfu (show n + 1 ≤ 11 by omega), t7.tot (sp_B_lt V none n), t7.tot (sp_B_lt V none (n + 1))]
      · simp only [f_X10_more, gz_jn, v7.gM, v7.vM fu, v7.fM fu, v7.lM fu, v7.sM fu, v7.nM fu, pn_0_1, pn_0_2, pn_0_3, pn_0_4, pn_0_5, pn_0_7, pn_0_10, pn_0_40, pn_1_4, pn_1_6, pn_1_9, Option.bind_some, pu_ii, pu_10, if_true, gz_b2, if_pos c1, pn_1, vm_lo hfu v7.m (show n ≤ 11 by omega), vm_lo hfu v7.m (show n + 1 ≤ 11 by omega)]
    · obtain ⟨M1, M2, r1, r2, r3, hw⟩ := pu_rfw fu hI 0 (by decide) (-2) pu_k2
      refine ⟨-2, M1, M2, ?_, ?_, r3⟩
      · simp only [f_X9_more, gz_jn, hv.gC, hv.vC fu, hv.fC fu, hv.lC fu, hv.sC fu, pu_within, pu_shelf, pu_count, Option.bind_some, pu_ii, pu_10, if_true, gz_b2, r1, if_neg hc]
      · have hv' := hv.same hw
        simp only [f_X10_more, gz_jn, hv'.gM, hv'.vM fu, hv'.fM fu, hv'.lM fu, hv'.sM fu, hv'.nM fu, pn_0_1, pn_0_2, pn_0_3, pn_0_4, pn_0_5, pn_0_7, pn_0_10, pn_0_40, pn_1_4, pn_1_6, pn_1_9, Option.bind_some, pu_ii, pu_10, if_true, gz_b2, r2, if_neg hc]
  · obtain ⟨M1, M2, r1, r2, r3, hw⟩ := pu_rfw fu hI 0 (by decide) (-2) pu_k2
    refine ⟨-2, M1, M2, ?_, ?_, r3⟩
    · simp only [f_X9_more, gz_jn, hz.gC, hz.vC fu, hz.fC fu, hz.lC fu, hz.sC fu, pu_within, pu_shelf, pu_count, Option.bind_some, pu_ii, pu_10, if_true, gz_b2, r1]
    · have hv' := hz.same hw
      simp only [f_X10_more, gz_jn, hv'.gM, hv'.vM fu, hv'.fM fu, hv'.lM fu, hv'.sM fu, hv'.nM fu, pn_0_1, pn_0_2, pn_0_3, pn_0_4, pn_0_5, pn_0_7, pn_0_10, pn_0_40, pn_1_4, pn_1_6, pn_1_9, Option.bind_some, pu_ii, pu_10, if_true, gz_b2, r2]
theorem pl_en {b k fu : Nat} {V : pv_V} {M : gz_M} (hfu : 5000 ≤ fu) (v7 : vb b k V M) (t7 : tq (b + 62) V M) (v : Int32) : ∃ r : Int32, lp_X9_enough_37 (some ((-1 : Int32), M)) fu M b v fu (0 : Int32) = some (r, M) ∧ lp_X10_enough_21 (some ((-1 : Int32), M)) fu M (b + 110) (nI k) v fu (0 : Int32) = some (r, M) := by
  refine pl_two (σ := Unit) (τ := Unit) (fun fuel i _ => lp_X9_enough_37 (some ((-1 : Int32), M)) fu M b v fuel i) (fun fuel i _ => lp_X10_enough_21 (some ((-1 : Int32), M)) fu M (b + 110) (nI k) v fuel i) (fun A B => ∃ r : Int32, A = some (r, M) ∧ B = some (r, M)) (fun _ _ _ => True) 11 (fun f g i s t hi _ => ?_) (fun f g s t _ => ?_) 11 0 () () fu fu (by omega) (by omega) (by omega) trivial
  · try dsimp only
    rw [lp_X9_enough_37, lp_X10_enough_21]
    have c : ¬ (10 : Int32) < nI i := nI_nlt (b := i) (a := 10) (by omega) (by omega)
    simp only [if_neg c, v7.p7, Option.bind_some, t7.1.r0, t7.lt hfu (show i ≤ 11 by omega), t7.tot (sp_B_lt V none i), vm_lo hfu v7.m (show i ≤ 11 by omega), pn_1]
    by_cases d : v < nI (sp_tot V (sp_B V none i))
    · right
      exact ⟨(), (), trivial, by rw [if_pos d], by rw [if_pos d]⟩
    · left
      exact ⟨nI i, by rw [if_neg d], by rw [if_neg d]⟩
  · try dsimp only
    rw [lp_X9_enough_37, lp_X10_enough_21]
    have c : (10 : Int32) < nI 11 := by decide
    rw [if_pos c, if_pos c]
    exact ⟨-1, rfl, rfl⟩
theorem op_enough (b : Nat) {fu : Nat} (hfu : 5000 ≤ fu) : gz_op_enough (pi_I b) fu b (b + 110) := by
  intro M v n hI
  rcases pg_val hI v with ⟨k, V, rfl, hv⟩ | hz
  · have hok := hv.ok
    have o1 := hok.1
    have o2 := hok.2.1
    have op2 : 2 ^ pv_nl V ≤ 2 ^ 10 := Nat.pow_le_pow_right (by omega) o2
    by_cases hc : (0 ≤ n)
    · have c1 := hc
      obtain ⟨M7, q1, v7, i7, t7⟩ := hv.fill hfu hI
      obtain ⟨r, q2, q3⟩ := pl_en hfu v7 t7 n
      refine ⟨r, M7, M7, ?_, ?_, i7⟩
      · simp only [f_X9_enough, gz_jn, hv.gC, hv.vC fu, hv.fC fu, hv.lC fu, hv.sC fu, pu_within, pu_shelf, pu_count, Option.bind_some, pu_ii, pu_10, if_true, gz_b2, if_pos c1, hv.p1, hv.p2, hv.p3, hv.p7, q1, q2]
      · simp only [f_X10_enough, gz_jn, v7.gM, v7.vM fu, v7.fM fu, v7.lM fu, v7.sM fu, v7.nM fu, pn_0_1, pn_0_2, pn_0_3, pn_0_4, pn_0_5, pn_0_7, pn_0_10, pn_0_40, pn_1_4, pn_1_6, pn_1_9, Option.bind_some, pu_ii, pu_10, if_true, gz_b2, if_pos c1, q3]
    · obtain ⟨M1, M2, r1, r2, r3, hw⟩ := pu_rfw fu hI 0 (by decide) (-2) pu_k2
      refine ⟨-2, M1, M2, ?_, ?_, r3⟩
      · simp only [f_X9_enough, gz_jn, hv.gC, hv.vC fu, hv.fC fu, hv.lC fu, hv.sC fu, pu_within, pu_shelf, pu_count, Option.bind_some, pu_ii, pu_10, if_true, gz_b2, r1, if_neg hc]
      · have hv' := hv.same hw
        simp only [f_X10_enough, gz_jn, hv'.gM, hv'.vM fu, hv'.fM fu, hv'.lM fu, hv'.sM fu, hv'.nM fu, pn_0_1, pn_0_2, pn_0_3, pn_0_4, pn_0_5, pn_0_7, pn_0_10, pn_0_40, pn_1_4, pn_1_6, pn_1_9, Option.bind_some, pu_ii, pu_10, if_true, gz_b2, r2, if_neg hc]
  · obtain ⟨M1, M2, r1, r2, r3, hw⟩ := pu_rfw fu hI 0 (by decide) (-2) pu_k2
    refine ⟨-2, M1, M2, ?_, ?_, r3⟩
    · simp only [f_X9_enough, gz_jn, hz.gC, hz.vC fu, hz.fC fu, hz.lC fu, hz.sC fu, pu_within, pu_shelf, pu_count, Option.bind_some, pu_ii, pu_10, if_true, gz_b2, r1]
    · have hv' := hz.same hw
      simp only [f_X10_enough, gz_jn, hv'.gM, hv'.vM fu, hv'.fM fu, hv'.lM fu, hv'.sM fu, hv'.nM fu, pn_0_1, pn_0_2, pn_0_3, pn_0_4, pn_0_5, pn_0_7, pn_0_10, pn_0_40, pn_1_4, pn_1_6, pn_1_9, Option.bind_some, pu_ii, pu_10, if_true, gz_b2, r2]
