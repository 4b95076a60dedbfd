/-! costs and totals -/
theorem pu_10 {α : Type} {A B : α} : (if (1 : Int32) = 0 then A else B) = B := if_neg (by decide)
def sp_pr (V : pv_V) (set : Nat) : Nat → Nat := fb_sm (fun l => if set.testBit l then pv_L V (4 * l + 3) else 0)
def sp_ct (V : pv_V) (f : Nat) (o : Option (Nat × Nat)) : Nat := pv_F V (5 * f + 3) * (match o with
  | none => pv_out V
  | some (_, x) => x)
def sp_cost (V : pv_V) (f set : Nat) : Nat := sp_ct V f (sp_own V V f set (pv_nl V))
/-- the total without the foot x -/
def sp_tl (V : pv_V) (set : Nat) (x : Option Nat) (n : Nat) : Nat := sp_pr V set (pv_nl V) + fb_sm (fun f => if x = some f then 0 else sp_cost V f set) n
def sp_tot (V : pv_V) (set : Nat) : Nat := sp_tl V set none (pv_nf V)
theorem sp_pr_le {V : pv_V} {set : Nat} (hV : pv_ok V) {n : Nat} (hn : n ≤ pv_nl V) : sp_pr V set n ≤ n * 99 := by
  refine fb_sm_bound (fun l hl => ?_)
  have := (hV.2.2.2.2.2.2 l (by omega)).2
  split <;> omega
theorem sp_ct_le {V : pv_V} {f : Nat} {o : Option (Nat × Nat)} (hV : pv_ok V) (hf : f < pv_nf V) (ho : ∀ i x, o = some (i, x) → x ≤ 810) : sp_ct V f o ≤ 80190 := by
  have h1 := (hV.2.2.2.2.2.1 f hf).2.2.1
  have h3 := hV.2.2.1
  unfold sp_ct
  cases o with
  | none => exact Nat.le_trans (Nat.mul_le_mul h1 (show pv_out V ≤ 810 by omega)) (by omega)
  | some p => obtain ⟨i, x⟩ := p; exact Nat.le_trans (Nat.mul_le_mul h1 (ho i x rfl)) (by omega)
theorem sp_cost_le {V : pv_V} {f set : Nat} (hV : pv_ok V) (hf : f < pv_nf V) : sp_cost V f set ≤ 80190 := sp_ct_le hV hf (fun i x e => (sp_own_ok hV _ i x e).2.1)
theorem sp_tl_le {V : pv_V} {set : Nat} {x : Option Nat} (hV : pv_ok V) {n : Nat} (hn : n ≤ pv_nf V) : sp_tl V set x n ≤ 963270 := by
  have h1 := sp_pr_le (set := set) hV (Nat.le_refl _)
  have h2 : fb_sm (fun f => if x = some f then 0 else sp_cost V f set) n ≤ n * 80190 := fb_sm_bound (fun f hf => by
    have := sp_cost_le (set := set) hV (show f < pv_nf V by omega)
    split <;> omega)
  have := hV.1
  have := hV.2.1
  unfold sp_tl
  omega
theorem sp_tot_lt {V : pv_V} {set : Nat} (hV : pv_ok V) : sp_tot V set < 2 ^ 20 := by have := sp_tl_le (set := set) (x := none) hV (Nat.le_refl _); unfold sp_tot; omega
theorem vc_pr {a : Nat} {V : pv_V} {M : gz_M} {fu : Nat} (hfu : 5000 ≤ fu) (h : vy_c a V M) {set : Nat} (hs : set < 2 ^ 20) : f_X7_prices fu M a (nI set) = some (nI (sp_pr V set (pv_nl V))) := by
  have o2 := (vc_ok h).2.1
  unfold f_X7_prices
  rw [vc_gd h]
  refine pl_fn (fun fuel i s => lp_X7_prices_4 (fun x6 => some x6) fu M a (nI set) fuel s i) (fun s => some s) (fun k => nI (sp_pr V set k)) (pv_nl V) ?_ ?_ (fuel := fu) (by omega)
  · intro fuel i hi
    have e3 : f_X7_lastPart fu M a (nI i) (3 : Int32) = some (nI (pv_L V (4 * i + 3))) := vc_lp fu h hi (m := 3) (by omega)
    rw [lp_X7_prices_4, vc_nl h, Option.bind_some, if_neg (pn_nle hi (by omega))]
    simp only [gz_jn, pn_1]
    rw [show sp_pr V set (i + 1) = sp_pr V set i + (if set.testBit i then pv_L V (4 * i + 3) else 0) from rfl]
    cases hb : set.testBit i
    · rw [if_pos ((pn_and (by omega) (by omega)).mpr hb)]
      rfl
    · rw [if_neg (fun q => by rw [(pn_and (by omega) (by omega)).mp q] at hb; cases hb), e3, Option.bind_some, nI_add]
      rfl
  · intro fuel
    rw [lp_X7_prices_4, vc_nl h, Option.bind_some, if_pos (pn_le (Nat.le_refl _) (by omega))]
theorem vm_pr {mo k : Nat} {V : pv_V} {M : gz_M} {fu : Nat} (hfu : 5000 ≤ fu) (h : vy_m mo k V M) {set : Nat} (hs : set < 2 ^ 20) : f_X10_pricesOf fu M mo (nI k) (nI set) = some (nI (sp_pr V set (pv_nl V))) := by
  have o2 := (vm_ok h).2.1
  unfold f_X10_pricesOf
  rw [vm_gd h]
  refine pl_fn (fun fuel i s => lp_X10_pricesOf_5 (fun x6 => some x6) fu M mo (nI k) (nI set) fuel s i) (fun s => some s) (fun k => nI (sp_pr V set k)) (pv_nl V) ?_ ?_ (fuel := fu) (by omega)
  · intro fuel i hi
    have e3 : f_X10_lastIs fu M mo (nI k) (nI i) (3 : Int32) = some (nI (pv_L V (4 * i + 3))) := vm_lp fu h hi (m := 3) (by omega)
    rw [lp_X10_pricesOf_5, vm_nl fu h, Option.bind_some, if_neg (pn_nle hi (by omega))]
    simp only [gz_jn, pn_1]
    rw [show sp_pr V set (i + 1) = sp_pr V set i + (if set.testBit i then pv_L V (4 * i + 3) else 0) from rfl]
    cases hb : set.testBit i
    · rw [if_pos ((pn_bit (by omega) (by omega)).mpr hb), Int32.add_zero]
      rfl
    · rw [if_neg (fun q => by rw [(pn_bit (by omega) (by omega)).mp q] at hb; cases hb), e3, Option.bind_some, nI_add]
      rfl
  · intro fuel
    rw [lp_X10_pricesOf_5, vm_nl fu h, Option.bind_some, if_pos (pn_le (Nat.le_refl _) (by omega))]
theorem vc_ct {a : Nat} {V : pv_V} {M : gz_M} (fu : Nat) (h : vy_c a V M) {f : Nat} (hf : f < pv_nf V) {o : Option (Nat × Nat)} (ho : ∀ i x, o = some (i, x) → x ≤ 810) : f_X7_costAt fu M a (nI f) (pc_n o) = some (nI (sp_ct V f o)) := by
  have e3 : f_X7_footPart fu M a (nI f) (3 : Int32) = some (nI (pv_F V (5 * f + 3))) := vc_fp fu h hf (m := 3) (by omega)
  unfold f_X7_costAt sp_ct
  simp only [gz_jn]
  rw [vc_gd h, e3, Option.bind_some]
  cases o with
  | none => rw [if_pos pc_n0, vc_out h, Option.bind_some, pk_mul]
  | some p =>
    obtain ⟨i, x⟩ := p
    have := ho i x rfl
    rw [pc_n1, if_neg (pn_mx (n := x) (by omega)).1, pk_mul]
theorem vm_ct {mo k : Nat} {V : pv_V} {M : gz_M} {fu : Nat} (hfu : 5000 ≤ fu) (h : vy_m mo k V M) {f set : Nat} (hf : f < pv_nf V) (hs : set < 2 ^ 20) : f_X10_costOf fu M mo (nI k) (nI f) (nI set) = some (nI (sp_cost V f set)) := by
  have e3 : f_X10_of fu M mo (nI k) (nI f) (3 : Int32) = some (nI (pv_F V (5 * f + 3))) := vm_fp fu h hf (m := 3) (by omega)
  have o2 := (vm_ok h).2.1
  unfold f_X10_costOf sp_cost sp_ct
  simp only [gz_jn]
  rw [vm_gd h, vm_own hfu h hf hs, Option.bind_some, e3, Option.bind_some]
  have hold := sp_own_ok (V := V) (W := V) (f := f) (set := set) (vm_ok h) (pv_nl V)
  cases e : sp_own V V f set (pv_nl V) with
  | none => rw [if_pos pc_i0, vm_r12 h, Option.bind_some, vm_v h, Option.bind_some, vm_out h, Option.bind_some, pk_mul]
  | some p =>
    obtain ⟨i, x⟩ := p
    obtain ⟨a1, a2, a3, a4⟩ := hold i x e
    rw [pc_i1, if_neg (pn_neg (n := i) (by omega)), vm_bad hfu h h hf a1, a3, Option.bind_some, pc_some, pk_mul]
theorem pc_oeq {x : Option Nat} {f : Nat} (hf : f < 2 ^ 20) (hx : ∀ y, x = some y → y < 2 ^ 20) : nI f = pc_o x ↔ x = some f := by
  cases x with
  | none => rw [pc_none]; exact ⟨fun e => absurd e (pn_neg (by omega)), fun e => by cases e⟩
  | some y =>
    have := hx y rfl
    rw [pc_some, nI_eq (by omega) (by omega)]
    exact ⟨fun e => by rw [e], fun e => by cases e; rfl⟩
theorem vm_tl {mo k : Nat} {V : pv_V} {M : gz_M} {fu : Nat} (hfu : 5000 ≤ fu) (h : vy_m mo k V M) {set : Nat} (hs : set < 2 ^ 20) {x : Option Nat} (hx : ∀ y, x = some y → y < 2 ^ 20) : f_X10_totalOf fu M mo (nI k) (nI set) (pc_o x) = some (nI (sp_tl V set x (pv_nf V))) := by
  have o1 := (vm_ok h).1
  unfold f_X10_totalOf
  rw [vm_gd h, vm_pr hfu h hs, Option.bind_some]
  refine pl_fn (fun fuel i s => lp_X10_totalOf_11 (fun x6 => some x6) fu M mo (nI k) (nI set) (pc_o x) fuel s i) (fun s => some s) (fun k => nI (sp_tl V set x k)) (pv_nf V) ?_ ?_ (fuel := fu) (by omega)
  · intro fuel i hi
    rw [lp_X10_totalOf_11, vm_nf fu h, Option.bind_some, if_neg (pn_nle hi (by omega))]
    simp only [gz_jn, pn_1]
    rw [show sp_tl V set x (i + 1) = sp_tl V set x i + (if x = some i then 0 else sp_cost V i set) from (Nat.add_assoc _ _ _).symm]
    by_cases c : x = some i
    · rw [if_pos ((pc_oeq (by omega) hx).mpr c), if_pos c, Int32.add_zero]
      rfl
    · rw [if_neg (fun q => c ((pc_oeq (by omega) hx).mp q)), vm_ct hfu h hi hs, Option.bind_some, if_neg c, nI_add]
  · intro fuel
    rw [lp_X10_totalOf_11, vm_nf fu h, Option.bind_some, if_pos (pn_le (Nat.le_refl _) (by omega))]
theorem vm_tot {mo k : Nat} {V : pv_V} {M : gz_M} {fu : Nat} (hfu : 5000 ≤ fu) (h : vy_m mo k V M) {set : Nat} (hs : set < 2 ^ 20) : f_X10_totalOf fu M mo (nI k) (nI set) (-1 : Int32) = some (nI (sp_tot V set)) := vm_tl hfu h hs (x := none) (fun y e => by cases e)
theorem vc_tot {a : Nat} {V : pv_V} {M : gz_M} {fu : Nat} (hfu : 5000 ≤ fu) (h : vy_c a V M) {set : Nat} (hs : set < 2 ^ 20) {β : Type} (j : Int32 → Option (Int32 × gz_M)) : lp_X9_total_36 j fu M (nI set) a fu (nI (sp_pr V set (pv_nl V))) (0 : Int32) = j (nI (sp_tot V set)) := by
  have o1 := (vc_ok h).1
  refine pl_fn (fun fuel i s => lp_X9_total_36 j fu M (nI set) a fuel s i) j (fun k => nI (sp_tl V set none k)) (pv_nf V) ?_ ?_ (fuel := fu) (by omega)
  · intro fuel i hi
    rw [lp_X9_total_36, vc_nf h, Option.bind_some, if_neg (pn_nle hi (by omega)), vc_ob hfu h h hi hs, Option.bind_some, vc_ct fu h hi (fun i x e => (sp_own_ok (vc_ok h) _ i x e).2.1), Option.bind_some, pn_1, nI_add]
    rw [show sp_tl V set none (i + 1) = sp_tl V set none i + (if none = some i then 0 else sp_cost V i set) from (Nat.add_assoc _ _ _).symm, if_neg (by simp)]
    rfl
  · intro fuel
    rw [lp_X9_total_36, vc_nf h, Option.bind_some, if_pos (pn_le (Nat.le_refl _) (by omega))]
/-- out -/
theorem vc_outs {a : Nat} {V : pv_V} {M : gz_M} {fu : Nat} (hfu : 5000 ≤ fu) (h : vy_c a V M) {set : Nat} (hs : set < 2 ^ 20) : ∃ r : Int32, (∀ j, lp_X9_out_32 j fu M (nI set) a fu (0 : Int32) (0 : Int32) = j r) ∧ ∀ (mo k : Nat) (M' : gz_M), vy_m mo k V M' → ∀ j, lp_X10_out_21 j fu M' mo (nI k) (nI set) fu (0 : Int32) (0 : Int32) = j r := by
  have o1 := (vc_ok h).1
  let S : Nat → Int32 := fun n => Nat.rec (0 : Int32) (fun f r => if pc_i (sp_own V V f set (pv_nl V)) = -1 then r ||| ((1 : Int32) <<< (nI f &&& 31)) else r) n
  have hS : ∀ n, S (n + 1) = if pc_i (sp_own V V n set (pv_nl V)) = -1 then S n ||| ((1 : Int32) <<< (nI n &&& 31)) else S n := fun n => rfl
  refine ⟨S (pv_nf V), fun j => ?_, fun mo k M' h' j => ?_⟩
  · refine pl_fn (fun fuel i s => lp_X9_out_32 j fu M (nI set) a fuel s i) j S (pv_nf V) ?_ ?_ (fuel := fu) (by omega)
    · intro fuel i hi
      rw [lp_X9_out_32, vc_nf h, Option.bind_some, if_neg (pn_nle hi (by omega)), vc_ol hfu h hi hs, Option.bind_some, hS]
      simp only [gz_jn, pn_1]
      by_cases c : pc_i (sp_own V V i set (pv_nl V)) = -1
      · rw [if_pos c, if_pos c]
      · rw [if_neg c, if_neg c]
    · intro fuel
      rw [lp_X9_out_32, vc_nf h, Option.bind_some, if_pos (pn_le (Nat.le_refl _) (by omega))]
  · refine pl_fn (fun fuel i s => lp_X10_out_21 j fu M' mo (nI k) (nI set) fuel s i) j S (pv_nf V) ?_ ?_ (fuel := fu) (by omega)
    · intro fuel i hi
      rw [lp_X10_out_21, vm_nf fu h', Option.bind_some, if_neg (pn_nle hi (by omega)), vm_own hfu h' hi hs, Option.bind_some, hS]
      simp only [gz_jn, pn_1]
      by_cases c : pc_i (sp_own V V i set (pv_nl V)) = -1
      · rw [if_pos c, if_pos c]
      · rw [if_neg c, if_neg c, Int32.or_zero]
    · intro fuel
      rw [lp_X10_out_21, vm_nf fu h', Option.bind_some, if_pos (pn_le (Nat.le_refl _) (by omega))]
theorem op_footOf (b : Nat) {fu : Nat} (hfu : 5000 ≤ fu) : gz_op_footOf (pi_I b) fu b (b + 110) := by
  intro M v f w hI
  rcases pg_val hI v with ⟨k, V, rfl, hv⟩ | hz
  · have hok := hv.ok
    have o1 := hok.1
    have o2 := hok.2.1
    have op2 : 2 ^ pv_nl V ≤ 2 ^ 10 := Nat.pow_le_pow_right (by omega) o2
    by_cases hc : (0 ≤ f ∧ f ≤ nI (pv_nf V) - 1) ∧ (0 ≤ w ∧ w ≤ 4)
    · obtain ⟨c1, c2⟩ := hc
      obtain ⟨f, hf, rfl⟩ := (pn_lt (by omega)).mp c1
      obtain ⟨w, hw, rfl⟩ := pu_num (n := 4) (by decide) c2
      refine ⟨nI (pv_F V (5 * f + w)), M, M, ?_, ?_, hI⟩
      · simp only [f_X9_footOf, gz_jn, hv.gC, hv.vC fu, hv.fC fu, hv.lC fu, hv.sC fu, pu_within, pu_shelf, pu_count, Option.bind_some, pu_ii, pu_10, if_true, gz_b2, if_pos c1, if_pos c2, hv.p1, hv.p2, hv.p3, vc_fp fu hv.c hf (show w < 5 by omega)]
      · simp only [f_X10_footOf, gz_jn, hv.gM, hv.vM fu, hv.fM fu, hv.lM fu, hv.sM fu, hv.nM fu, pn_0_1, pn_0_2, pn_0_3, pn_0_4, pn_0_5, pn_0_7, pn_0_10, pn_0_40, pn_1_4, pn_1_6, pn_1_9, Option.bind_some, pu_ii, pu_10, if_true, gz_b2, if_pos c1, if_pos c2, vm_fp fu hv.m hf (show w < 5 by omega)]
    · obtain ⟨M1, M2, r1, r2, r3, hw⟩ := pu_rfw fu hI 0 (by decide) (-2) pu_k2
      refine ⟨-2, M1, M2, ?_, ?_, r3⟩
      · simp only [f_X9_footOf, gz_jn, hv.gC, hv.vC fu, hv.fC fu, hv.lC fu, hv.sC fu, pu_within, pu_shelf, pu_count, Option.bind_some, pu_ii, pu_10, if_true, gz_b2, r1, pu_n2 hc]
      · have hv' := hv.same hw
        simp only [f_X10_footOf, gz_jn, hv'.gM, hv'.vM fu, hv'.fM fu, hv'.lM fu, hv'.sM fu, hv'.nM fu, pn_0_1, pn_0_2, pn_0_3, pn_0_4, pn_0_5, pn_0_7, pn_0_10, pn_0_40, pn_1_4, pn_1_6, pn_1_9, Option.bind_some, pu_ii, pu_10, if_true, gz_b2, r2, pu_n2 hc]
  · obtain ⟨M1, M2, r1, r2, r3, hw⟩ := pu_rfw fu hI 0 (by decide) (-2) pu_k2
    refine ⟨-2, M1, M2, ?_, ?_, r3⟩
    · simp only [f_X9_footOf, gz_jn, hz.gC, hz.vC fu, hz.fC fu, hz.lC fu, hz.sC fu, pu_within, pu_shelf, pu_count, Option.bind_some, pu_ii, pu_10, if_true, gz_b2, r1]
    · have hv' := hz.same hw
      simp only [f_X10_footOf, gz_jn, hv'.gM, hv'.vM fu, hv'.fM fu, hv'.lM fu, hv'.sM fu, hv'.nM fu, pn_0_1, pn_0_2, pn_0_3, pn_0_4, pn_0_5, pn_0_7, pn_0_10, pn_0_40, pn_1_4, pn_1_6, pn_1_9, Option.bind_some, pu_ii, pu_10, if_true, gz_b2, r2]
theorem op_lastOf (b : Nat) {fu : Nat} (hfu : 5000 ≤ fu) : gz_op_lastOf (pi_I b) fu b (b + 110) := by
  intro M v f w hI
  rcases pg_val hI v with ⟨k, V, rfl, hv⟩ | hz
  · have hok := hv.ok
    have o1 := hok.1
    have o2 := hok.2.1
    have op2 : 2 ^ pv_nl V ≤ 2 ^ 10 := Nat.pow_le_pow_right (by omega) o2
    by_cases hc : (0 ≤ f ∧ f ≤ nI (pv_nl V) - 1) ∧ (0 ≤ w ∧ w ≤ 3)
    · obtain ⟨c1, c2⟩ := hc
      obtain ⟨f, hf, rfl⟩ := (pn_lt (by omega)).mp c1
      obtain ⟨w, hw, rfl⟩ := pu_num (n := 3) (by decide) c2
      refine ⟨nI (pv_L V (4 * f + w)), M, M, ?_, ?_, hI⟩
      · simp only [f_X9_lastOf, gz_jn, hv.gC, hv.vC fu, hv.fC fu, hv.lC fu, hv.sC fu, pu_within, pu_shelf, pu_count, Option.bind_some, pu_ii, pu_10, if_true, gz_b2, if_pos c1, if_pos c2, hv.p1, hv.p2, hv.p3, vc_lp fu hv.c hf (show w < 4 by omega)]
      · simp only [f_X10_lastOf, gz_jn, hv.gM, hv.vM fu, hv.fM fu, hv.lM fu, hv.sM fu, hv.nM fu, pn_0_1, pn_0_2, pn_0_3, pn_0_4, pn_0_5, pn_0_7, pn_0_10, pn_0_40, pn_1_4, pn_1_6, pn_1_9, Option.bind_some, pu_ii, pu_10, if_true, gz_b2, if_pos c1, if_pos c2, vm_lp fu hv.m hf (show w < 4 by omega)]
    · obtain ⟨M1, M2, r1, r2, r3, hw⟩ := pu_rfw fu hI 0 (by decide) (-2) pu_k2
      refine ⟨-2, M1, M2, ?_, ?_, r3⟩
      · simp only [f_X9_lastOf, gz_jn, hv.gC, hv.vC fu, hv.fC fu, hv.lC fu, hv.sC fu, pu_within, pu_shelf, pu_count, Option.bind_some, pu_ii, pu_10, if_true, gz_b2, r1, pu_n2 hc]
      · have hv' := hv.same hw
        simp only [f_X10_lastOf, gz_jn, hv'.gM, hv'.vM fu, hv'.fM fu, hv'.lM fu, hv'.sM fu, hv'.nM fu, pn_0_1, pn_0_2, pn_0_3, pn_0_4, pn_0_5, pn_0_7, pn_0_10, pn_0_40, pn_1_4, pn_1_6, pn_1_9, Option.bind_some, pu_ii, pu_10, if_true, gz_b2, r2, pu_n2 hc]
  · obtain ⟨M1, M2, r1, r2, r3, hw⟩ := pu_rfw fu hI 0 (by decide) (-2) pu_k2
    refine ⟨-2, M1, M2, ?_, ?_, r3⟩
    · simp only [f_X9_lastOf, gz_jn, hz.gC, hz.vC fu, hz.fC fu, hz.lC fu, hz.sC fu, pu_within, pu_shelf, pu_count, Option.bind_some, pu_ii, pu_10, if_true, gz_b2, r1]
    · have hv' := hz.same hw
      simp only [f_X10_lastOf, gz_jn, hv'.gM, hv'.vM fu, hv'.fM fu, hv'.lM fu, hv'.sM fu, hv'.nM fu, pn_0_1, pn_0_2, pn_0_3, pn_0_4, pn_0_5, pn_0_7, pn_0_10, pn_0_40, pn_1_4, pn_1_6, pn_1_9, Option.bind_some, pu_ii, pu_10, if_true, gz_b2, r2]
theorem op_bad (b : Nat) {fu : Nat} (hfu : 5000 ≤ fu) : gz_op_bad (pi_I b) fu b (b + 110) := by
  intro M v l f hI
  rcases pg_val hI v with ⟨k, V, rfl, hv⟩ | hz
  · have hok := hv.ok
    have o1 := hok.1
    have o2 := hok.2.1
    have op2 : 2 ^ pv_nl V ≤ 2 ^ 10 := Nat.pow_le_pow_right (by omega) o2
    by_cases hc : (0 ≤ l ∧ l ≤ nI (pv_nl V) - 1) ∧ (0 ≤ f ∧ f ≤ nI (pv_nf V) - 1)
    · obtain ⟨c1, c2⟩ := hc
      obtain ⟨l, hl, rfl⟩ := (pn_lt (by omega)).mp c1
      obtain ⟨f, hf, rfl⟩ := (pn_lt (by omega)).mp c2
      refine ⟨pc_o (sp_bad V V l f), M, M, ?_, ?_, hI⟩
      · simp only [f_X9_bad, gz_jn, hv.gC, hv.vC fu, hv.fC fu, hv.lC fu, hv.sC fu, pu_within, pu_shelf, pu_count, Option.bind_some, pu_ii, pu_10, if_true, gz_b2, if_pos c1, if_pos c2, hv.p1, hv.p2, hv.p3, vc_bf fu hv.c hf hl]
      · simp only [f_X10_bad, gz_jn, hv.gM, hv.vM fu, hv.fM fu, hv.lM fu, hv.sM fu, hv.nM fu, pn_0_1, pn_0_2, pn_0_3, pn_0_4, pn_0_5, pn_0_7, pn_0_10, pn_0_40, pn_1_4, pn_1_6, pn_1_9, Option.bind_some, pu_ii, pu_10, if_true, gz_b2, if_pos c1, if_pos c2, vm_bad hfu hv.m hv.m hf hl]
    · obtain ⟨M1, M2, r1, r2, r3, hw⟩ := pu_rfw fu hI 0 (by decide) (-2) pu_k2
      refine ⟨-2, M1, M2, ?_, ?_, r3⟩
      · simp only [f_X9_bad, gz_jn, hv.gC, hv.vC fu, hv.fC fu, hv.lC fu, hv.sC fu, pu_within, pu_shelf, pu_count, Option.bind_some, pu_ii, pu_10, if_true, gz_b2, r1, pu_n2 hc]
      · have hv' := hv.same hw
        simp only [f_X10_bad, gz_jn, hv'.gM, hv'.vM fu, hv'.fM fu, hv'.lM fu, hv'.sM fu, hv'.nM fu, pn_0_1, pn_0_2, pn_0_3, pn_0_4, pn_0_5, pn_0_7, pn_0_10, pn_0_40, pn_1_4, pn_1_6, pn_1_9, Option.bind_some, pu_ii, pu_10, if_true, gz_b2, r2, pu_n2 hc]
  · obtain ⟨M1, M2, r1, r2, r3, hw⟩ := pu_rfw fu hI 0 (by decide) (-2) pu_k2
    refine ⟨-2, M1, M2, ?_, ?_, r3⟩
    · simp only [f_X9_bad, gz_jn, hz.gC, hz.vC fu, hz.fC fu, hz.lC fu, hz.sC fu, pu_within, pu_shelf, pu_count, Option.bind_some, pu_ii, pu_10, if_true, gz_b2, r1]
    · have hv' := hz.same hw
      simp only [f_X10_bad, gz_jn, hv'.gM, hv'.vM fu, hv'.fM fu, hv'.lM fu, hv'.sM fu, hv'.nM fu, pn_0_1, pn_0_2, pn_0_3, pn_0_4, pn_0_5, pn_0_7, pn_0_10, pn_0_40, pn_1_4, pn_1_6, pn_1_9, Option.bind_some, pu_ii, pu_10, if_true, gz_b2, r2]
theorem op_does (b : Nat) {fu : Nat} (hfu : 5000 ≤ fu) : gz_op_does (pi_I b) fu b (b + 110) := by
  intro M v l f hI
  rcases pg_val hI v with ⟨k, V, rfl, hv⟩ | hz
  · have hok := hv.ok
    have o1 := hok.1
    have o2 := hok.2.1
    have op2 : 2 ^ pv_nl V ≤ 2 ^ 10 := Nat.pow_le_pow_right (by omega) o2
    by_cases hc : (0 ≤ l ∧ l ≤ nI (pv_nl V) - 1) ∧ (0 ≤ f ∧ f ≤ nI (pv_nf V) - 1)
    · obtain ⟨c1, c2⟩ := hc
      obtain ⟨l, hl, rfl⟩ := (pn_lt (by omega)).mp c1
      obtain ⟨f, hf, rfl⟩ := (pn_lt (by omega)).mp c2
      refine ⟨if pc_o (sp_bad V V l f) = -1 then 0 else 1, M, M, ?_, ?_, hI⟩
      · simp only [f_X9_does, gz_jn, hv.gC, hv.vC fu, hv.fC fu, hv.lC fu, hv.sC fu, pu_within, pu_shelf, pu_count, Option.bind_some, pu_ii, pu_10, if_true, gz_b2, if_pos c1, if_pos c2, hv.p1, hv.p2, hv.p3, vc_bf fu hv.c hf hl]
        by_cases q : pc_o (sp_bad V V l f) = -1
        · rw [if_pos q, if_pos q]
        · rw [if_neg q, if_neg q]
      · simp only [f_X10_does, gz_jn, hv.gM, hv.vM fu, hv.fM fu, hv.lM fu, hv.sM fu, hv.nM fu, pn_0_1, pn_0_2, pn_0_3, pn_0_4, pn_0_5, pn_0_7, pn_0_10, pn_0_40, pn_1_4, pn_1_6, pn_1_9, Option.bind_some, pu_ii, pu_10, if_true, gz_b2, if_pos c1, if_pos c2, vm_bad hfu hv.m hv.m hf hl]
        by_cases q : pc_o (sp_bad V V l f) = -1
        · rw [if_pos q, if_pos q]
        · rw [if_neg q, if_neg q]
    · obtain ⟨M1, M2, r1, r2, r3, hw⟩ := pu_rfw fu hI 0 (by decide) (-2) pu_k2
      refine ⟨-2, M1, M2, ?_, ?_, r3⟩
      · simp only [f_X9_does, gz_jn, hv.gC, hv.vC fu, hv.fC fu, hv.lC fu, hv.sC fu, pu_within, pu_shelf, pu_count, Option.bind_some, pu_ii, pu_10, if_true, gz_b2, r1, pu_n2 hc]
      · have hv' := hv.same hw
        simp only [f_X10_does, gz_jn, hv'.gM, hv'.vM fu, hv'.fM fu, hv'.lM fu, hv'.sM fu, hv'.nM fu, pn_0_1, pn_0_2, pn_0_3, pn_0_4, pn_0_5, pn_0_7, pn_0_10, pn_0_40, pn_1_4, pn_1_6, pn_1_9, Option.bind_some, pu_ii, pu_10, if_true, gz_b2, r2, pu_n2 hc]
  · obtain ⟨M1, M2, r1, r2, r3, hw⟩ := pu_rfw fu hI 0 (by decide) (-2) pu_k2
    refine ⟨-2, M1, M2, ?_, ?_, r3⟩
    · simp only [f_X9_does, gz_jn, hz.gC, hz.vC fu, hz.fC fu, hz.lC fu, hz.sC fu, pu_within, pu_shelf, pu_count, Option.bind_some, pu_ii, pu_10, if_true, gz_b2, r1]
    · have hv' := hz.same hw
      simp only [f_X10_does, gz_jn, hv'.gM, hv'.vM fu, hv'.fM fu, hv'.lM fu, hv'.sM fu, hv'.nM fu, pn_0_1, pn_0_2, pn_0_3, pn_0_4, pn_0_5, pn_0_7, pn_0_10, pn_0_40, pn_1_4, pn_1_6, pn_1_9, Option.bind_some, pu_ii, pu_10, if_true, gz_b2, r2]
theorem op_whose (b : Nat) {fu : Nat} (hfu : 5000 ≤ fu) : gz_op_whose (pi_I b) fu b (b + 110) := by
  intro M v f s hI
  rcases pg_val hI v with ⟨k, V, rfl, hv⟩ | hz
  · have hok := hv.ok
    have o1 := hok.1
    have o2 := hok.2.1
    have op2 : 2 ^ pv_nl V ≤ 2 ^ 10 := Nat.pow_le_pow_right (by omega) o2
    by_cases hc : (0 ≤ f ∧ f ≤ nI (pv_nf V) - 1) ∧ (0 ≤ s ∧ s ≤ nI (2 ^ pv_nl V) - 1)
    · obtain ⟨c1, c2⟩ := hc
      obtain ⟨f, hf, rfl⟩ := (pn_lt (by omega)).mp c1
      obtain ⟨s, hs, rfl⟩ := (pn_lt (by omega)).mp c2
      refine ⟨pc_i (sp_own V V f s (pv_nl V)), M, M, ?_, ?_, hI⟩
      · simp only [f_X9_whose, gz_jn, hv.gC, hv.vC fu, hv.fC fu, hv.lC fu, hv.sC fu, pu_within, pu_shelf, pu_count, Option.bind_some, pu_ii, pu_10, if_true, gz_b2, if_pos c1, if_pos c2, hv.p1, hv.p2, hv.p3, vc_ol hfu hv.c hf (show s < 2 ^ 20 by omega)]
      · simp only [f_X10_whose, gz_jn, hv.gM, hv.vM fu, hv.fM fu, hv.lM fu, hv.sM fu, hv.nM fu, pn_0_1, pn_0_2, pn_0_3, pn_0_4, pn_0_5, pn_0_7, pn_0_10, pn_0_40, pn_1_4, pn_1_6, pn_1_9, Option.bind_some, pu_ii, pu_10, if_true, gz_b2, if_pos c1, if_pos c2, vm_own hfu hv.m hf (show s < 2 ^ 20 by omega)]
    · obtain ⟨M1, M2, r1, r2, r3, hw⟩ := pu_rfw fu hI 0 (by decide) (-2) pu_k2
      refine ⟨-2, M1, M2, ?_, ?_, r3⟩
      · simp only [f_X9_whose, gz_jn, hv.gC, hv.vC fu, hv.fC fu, hv.lC fu, hv.sC fu, pu_within, pu_shelf, pu_count, Option.bind_some, pu_ii, pu_10, if_true, gz_b2, r1, pu_n2 hc]
      · have hv' := hv.same hw
        simp only [f_X10_whose, gz_jn, hv'.gM, hv'.vM fu, hv'.fM fu, hv'.lM fu, hv'.sM fu, hv'.nM fu, pn_0_1, pn_0_2, pn_0_3, pn_0_4, pn_0_5, pn_0_7, pn_0_10, pn_0_40, pn_1_4, pn_1_6, pn_1_9, Option.bind_some, pu_ii, pu_10, if_true, gz_b2, r2, pu_n2 hc]
  · obtain ⟨M1, M2, r1, r2, r3, hw⟩ := pu_rfw fu hI 0 (by decide) (-2) pu_k2
    refine ⟨-2, M1, M2, ?_, ?_, r3⟩
    · simp only [f_X9_whose, gz_jn, hz.gC, hz.vC fu, hz.fC fu, hz.lC fu, hz.sC fu, pu_within, pu_shelf, pu_count, Option.bind_some, pu_ii, pu_10, if_true, gz_b2, r1]
    · have hv' := hz.same hw
      simp only [f_X10_whose, gz_jn, hv'.gM, hv'.vM fu, hv'.fM fu, hv'.lM fu, hv'.sM fu, hv'.nM fu, pn_0_1, pn_0_2, pn_0_3, pn_0_4, pn_0_5, pn_0_7, pn_0_10, pn_0_40, pn_1_4, pn_1_6, pn_1_9, Option.bind_some, pu_ii, pu_10, if_true, gz_b2, r2]
theorem op_total (b : Nat) {fu : Nat} (hfu : 5000 ≤ fu) : gz_op_total (pi_I b) fu b (b + 110) := by
  intro M v s hI
  rcases pg_val hI v with ⟨k, V, rfl, hv⟩ | hz
  · have hok := hv.ok
    have o1 := hok.1
    have o2 := hok.2.1
    have op2 : 2 ^ pv_nl V ≤ 2 ^ 10 := Nat.pow_le_pow_right (by omega) o2
    by_cases hc : (0 ≤ s ∧ s ≤ nI (2 ^ pv_nl V) - 1)
    · have c1 := hc
      obtain ⟨s, hs, rfl⟩ := (pn_lt (by omega)).mp c1
      refine ⟨nI (sp_tot V s), M, M, ?_, ?_, hI⟩
      · simp only [f_X9_total, gz_jn, hv.gC, hv.vC fu, hv.fC fu, hv.lC fu, hv.sC fu, pu_within, pu_shelf, pu_count, Option.bind_some, pu_ii, pu_10, if_true, gz_b2, if_pos c1, hv.p1, hv.p2, hv.p3, vc_pr hfu hv.c (show s < 2 ^ 20 by omega)]
        exact vc_tot hfu hv.c (by omega) (β := Nat) _
      · simp only [f_X10_total, gz_jn, hv.gM, hv.vM fu, hv.fM fu, hv.lM fu, hv.sM fu, hv.nM fu, pn_0_1, pn_0_2, pn_0_3, pn_0_4, pn_0_5, pn_0_7, pn_0_10, pn_0_40, pn_1_4, pn_1_6, pn_1_9, Option.bind_some, pu_ii, pu_10, if_true, gz_b2, if_pos c1, vm_tot hfu hv.m (show s < 2 ^ 20 by omega)]
    · obtain ⟨M1, M2, r1, r2, r3, hw⟩ := pu_rfw fu hI 0 (by decide) (-2) pu_k2
      refine ⟨-2, M1, M2, ?_, ?_, r3⟩
      · simp only [f_X9_total, gz_jn, hv.gC, hv.vC fu, hv.fC fu, hv.lC fu, hv.sC fu, pu_within, pu_shelf, pu_count, Option.bind_some, pu_ii, pu_10, if_true, gz_b2, r1, if_neg hc]
      · have hv' := hv.same hw
        simp only [f_X10_total, gz_jn, hv'.gM, hv'.vM fu, hv'.fM fu, hv'.lM fu, hv'.sM fu, hv'.nM fu, pn_0_1, pn_0_2, pn_0_3, pn_0_4, pn_0_5, pn_0_7, pn_0_10, pn_0_40, pn_1_4, pn_1_6, pn_1_9, Option.bind_some, pu_ii, pu_10, if_true, gz_b2, r2, if_neg hc]
  · obtain ⟨M1, M2, r1, r2, r3, hw⟩ := pu_rfw fu hI 0 (by decide) (-2) pu_k2
    refine ⟨-2, M1, M2, ?_, ?_, r3⟩
    · simp only [f_X9_total, gz_jn, hz.gC, hz.vC fu, hz.fC fu, hz.lC fu, hz.sC fu, pu_within, pu_shelf, pu_count, Option.bind_some, pu_ii, pu_10, if_true, gz_b2, r1]
    · have hv' := hz.same hw
      simp only [f_X10_total, gz_jn, hv'.gM, hv'.vM fu, hv'.fM fu, hv'.lM fu, hv'.sM fu, hv'.nM fu, pn_0_1, pn_0_2, pn_0_3, pn_0_4, pn_0_5, pn_0_7, pn_0_10, pn_0_40, pn_1_4, pn_1_6, pn_1_9, Option.bind_some, pu_ii, pu_10, if_true, gz_b2, r2]
theorem op_out (b : Nat) {fu : Nat} (hfu : 5000 ≤ fu) : gz_op_out (pi_I b) fu b (b + 110) := by
  intro M v s hI
  rcases pg_val hI v with ⟨k, V, rfl, hv⟩ | hz
  · have hok := hv.ok
    have o1 := hok.1
    have o2 := hok.2.1
    have op2 : 2 ^ pv_nl V ≤ 2 ^ 10 := Nat.pow_le_pow_right (by omega) o2
    by_cases hc : (0 ≤ s ∧ s ≤ nI (2 ^ pv_nl V) - 1)
    · have c1 := hc
      obtain ⟨s, hs, rfl⟩ := (pn_lt (by omega)).mp c1
      obtain ⟨r, q1, q2⟩ := vc_outs hfu hv.c (show s < 2 ^ 20 by omega)
      refine ⟨r, M, M, ?_, ?_, hI⟩
      · simp only [f_X9_out, gz_jn, hv.gC, hv.vC fu, hv.fC fu, hv.lC fu, hv.sC fu, pu_within, pu_shelf, pu_count, Option.bind_some, pu_ii, pu_10, if_true, gz_b2, if_pos c1, hv.p1, hv.p2, hv.p3, q1]
      · simp only [f_X10_out, gz_jn, hv.gM, hv.vM fu, hv.fM fu, hv.lM fu, hv.sM fu, hv.nM fu, pn_0_1, pn_0_2, pn_0_3, pn_0_4, pn_0_5, pn_0_7, pn_0_10, pn_0_40, pn_1_4, pn_1_6, pn_1_9, Option.bind_some, pu_ii, pu_10, if_true, gz_b2, if_pos c1, q2 _ _ _ hv.m]
    · obtain ⟨M1, M2, r1, r2, r3, hw⟩ := pu_rfw fu hI 0 (by decide) (-2) pu_k2
      refine ⟨-2, M1, M2, ?_, ?_, r3⟩
      · simp only [f_X9_out, gz_jn, hv.gC, hv.vC fu, hv.fC fu, hv.lC fu, hv.sC fu, pu_within, pu_shelf, pu_count, Option.bind_some, pu_ii, pu_10, if_true, gz_b2, r1, if_neg hc]
      · have hv' := hv.same hw
        simp only [f_X10_out, gz_jn, hv'.gM, hv'.vM fu, hv'.fM fu, hv'.lM fu, hv'.sM fu, hv'.nM fu, pn_0_1, pn_0_2, pn_0_3, pn_0_4, pn_0_5, pn_0_7, pn_0_10, pn_0_40, pn_1_4, pn_1_6, pn_1_9, Option.bind_some, pu_ii, pu_10, if_true, gz_b2, r2, if_neg hc]
  · obtain ⟨M1, M2, r1, r2, r3, hw⟩ := pu_rfw fu hI 0 (by decide) (-2) pu_k2
    refine ⟨-2, M1, M2, ?_, ?_, r3⟩
    · simp only [f_X9_out, gz_jn, hz.gC, hz.vC fu, hz.fC fu, hz.lC fu, hz.sC fu, pu_within, pu_shelf, pu_count, Option.bind_some, pu_ii, pu_10, if_true, gz_b2, r1]
    · have hv' := hz.same hw
      simp only [f_X10_out, gz_jn, hv'.gM, hv'.vM fu, hv'.fM fu, hv'.lM fu, hv'.sM fu, hv'.nM fu, pn_0_1, pn_0_2, pn_0_3, pn_0_4, pn_0_5, pn_0_7, pn_0_10, pn_0_40, pn_1_4, pn_1_6, pn_1_9, Option.bind_some, pu_ii, pu_10, if_true, gz_b2, r2]
