/-! bound, keeps, lend, valleyOf -/
theorem pn_pow (n : Nat) : nI (2 ^ n) - 1 = nI (2 ^ n - 1) := pk_sub (a := 2 ^ n) (b := 1) (Nat.one_le_two_pow)
def sp_bd (V : pv_V) (f : Nat) : Nat := pv_F V (5 * f + 3) * (match sp_own V V f (2 ^ pv_nl V - 1) (pv_nl V) with
  | none => pv_out V
  | some (_, x) => if x < pv_out V then x else pv_out V)
theorem vc_bd {a : Nat} {V : pv_V} {M : gz_M} {fu : Nat} (hfu : 5000 ≤ fu) (h : vy_c a V M) (j : Int32 → Option (Int32 × gz_M)) : lp_X9_bound_30 j fu M a fu (0 : Int32) (0 : Int32) = j (nI (fb_sm (sp_bd V) (pv_nf V))) := by
  have hV := vc_ok h
  have o1 := hV.1
  have o3 := hV.2.2.1
  have op2 : 2 ^ pv_nl V ≤ 2 ^ 10 := Nat.pow_le_pow_right (by omega) hV.2.1
  refine pl_fn (fun fuel i s => lp_X9_bound_30 j fu M a fuel s i) j (fun k => nI (fb_sm (sp_bd V) k)) (pv_nf V) ?_ ?_ (fuel := fu) (by omega)
  · intro fuel i hi
    have e3 : f_X7_footPart fu M a (nI i) (3 : Int32) = some (nI (pv_F V (5 * i + 3))) := vc_fp fu h hi (m := 3) (by omega)
    rw [lp_X9_bound_30, vc_nf h, Option.bind_some, if_neg (pn_nle hi (by omega)), vc_all fu h, Option.bind_some, pn_pow, vc_ob hfu h h hi (by omega), Option.bind_some, e3, Option.bind_some, vc_out h, Option.bind_some, pn_1, fb_sm_succ, ← nI_add (fb_sm (sp_bd V) i) (sp_bd V i)]
    unfold sp_bd
    have hold := sp_own_ok (V := V) (W := V) (f := i) (set := 2 ^ pv_nl V - 1) hV (pv_nl V)
    cases e : sp_own V V i (2 ^ pv_nl V - 1) (pv_nl V) with
    | none => rw [pc_n0, if_neg (Int32.not_lt.mpr (Int32.le_of_lt (pn_mx (n := pv_out V) (by omega)).2)), pk_mul]
    | some p =>
      obtain ⟨i', x⟩ := p
      obtain ⟨a1, a2, a3⟩ := hold i' x e
      rw [pc_n1]
      by_cases c : x < pv_out V
      · rw [if_pos (nI_lt c (by omega)), pk_mul]
        simp only [if_pos c]
      · rw [if_neg (nI_nlt (by omega) (by omega)), pk_mul]
        simp only [if_neg c]
  · intro fuel
    rw [lp_X9_bound_30, vc_nf h, Option.bind_some, if_pos (pn_le (Nat.le_refl _) (by omega))]
theorem vm_bd {mo k : Nat} {V : pv_V} {M : gz_M} {fu : Nat} (hfu : 5000 ≤ fu) (h : vy_m mo k V M) (j : Int32 → Option (Int32 × gz_M)) : lp_X10_bound_19 j fu M mo (nI k) fu (0 : Int32) (0 : Int32) = j (nI (fb_sm (sp_bd V) (pv_nf V))) := by
  have hV := vm_ok h
  have o1 := hV.1
  have o3 := hV.2.2.1
  have op2 : 2 ^ pv_nl V ≤ 2 ^ 10 := Nat.pow_le_pow_right (by omega) hV.2.1
  refine pl_fn (fun fuel i s => lp_X10_bound_19 j fu M mo (nI k) fuel s i) j (fun k => nI (fb_sm (sp_bd V) k)) (pv_nf V) ?_ ?_ (fuel := fu) (by omega)
  · intro fuel i hi
    have e3 : f_X10_of fu M mo (nI k) (nI i) (3 : Int32) = some (nI (pv_F V (5 * i + 3))) := vm_fp fu h hi (m := 3) (by omega)
    rw [lp_X10_bound_19, vm_nf fu h, Option.bind_some, if_neg (pn_nle hi (by omega)), vm_r12 h, Option.bind_some, vm_v h, Option.bind_some, vm_out h, Option.bind_some, vm_all fu h, Option.bind_some, pn_pow, vm_own hfu h hi (by omega), Option.bind_some]
    simp only [gz_jn, e3, Option.bind_some, pn_1]
    rw [fb_sm_succ, ← nI_add (fb_sm (sp_bd V) i) (sp_bd V i)]
    unfold sp_bd
    have hold := sp_own_ok (V := V) (W := V) (f := i) (set := 2 ^ pv_nl V - 1) hV (pv_nl V)
    cases e : sp_own V V i (2 ^ pv_nl V - 1) (pv_nl V) with
    | none => rw [if_pos pc_i0, if_pos (Int32.le_refl _), pk_mul]
    | some p =>
      obtain ⟨i', x⟩ := p
      obtain ⟨a1, a2, a3, a4⟩ := hold i' x e
      have o2 := hV.2.1
      rw [pc_i1, if_neg (pn_neg (n := i') (by omega)), vm_bad hfu h h hi a1, a3, Option.bind_some, pc_some]
      by_cases c : x < pv_out V
      · rw [if_neg (nI_ge c (by omega)), pk_mul]
        simp only [if_pos c]
      · rw [if_pos (nI_le (by omega) (by omega)), pk_mul]
        simp only [if_neg c]
  · intro fuel
    rw [lp_X10_bound_19, vm_nf fu h, Option.bind_some, if_pos (pn_le (Nat.le_refl _) (by omega))]
theorem op_bound (b : Nat) {fu : Nat} (hfu : 5000 ≤ fu) : gz_op_bound (pi_I b) fu b (b + 110) := by
  intro M v  hI
  rcases pg_val hI v with ⟨k, V, rfl, hv⟩ | hz
  · have hok := hv.ok
    have o1 := hok.1
    have o2 := hok.2.1
    have op2 : 2 ^ pv_nl V ≤ 2 ^ 10 := Nat.pow_le_pow_right (by omega) o2
    refine ⟨nI (fb_sm (sp_bd V) (pv_nf V)), M, M, ?_, ?_, hI⟩
    · simp only [f_X9_bound, gz_jn, hv.gC, hv.vC fu, hv.fC fu, hv.lC fu, hv.sC fu, pu_within, pu_shelf, pu_count, Option.bind_some, pu_ii, pu_10, if_true, gz_b2, hv.p1, hv.p2, hv.p3, vc_bd hfu hv.c]
    · simp only [f_X10_bound, gz_jn, hv.gM, hv.vM fu, hv.fM fu, hv.lM fu, hv.sM fu, hv.nM fu, pn_0_1, pn_0_2, pn_0_3, pn_0_4, pn_0_5, pn_0_7, pn_0_10, pn_0_40, pn_1_4, pn_1_6, pn_1_9, Option.bind_some, pu_ii, pu_10, if_true, gz_b2, vm_bd hfu hv.m]
  · obtain ⟨M1, M2, r1, r2, r3, hw⟩ := pu_rfw fu hI 0 (by decide) (-2) pu_k2
    refine ⟨-2, M1, M2, ?_, ?_, r3⟩
    · simp only [f_X9_bound, gz_jn, hz.gC, hz.vC fu, hz.fC fu, hz.lC fu, hz.sC fu, pu_within, pu_shelf, pu_count, Option.bind_some, pu_ii, pu_10, if_true, gz_b2, r1]
    · have hv' := hz.same hw
      simp only [f_X10_bound, gz_jn, hv'.gM, hv'.vM fu, hv'.fM fu, hv'.lM fu, hv'.sM fu, hv'.nM fu, pn_0_1, pn_0_2, pn_0_3, pn_0_4, pn_0_5, pn_0_7, pn_0_10, pn_0_40, pn_1_4, pn_1_6, pn_1_9, Option.bind_some, pu_ii, pu_10, if_true, gz_b2, r2]
/-! keeps -/
def sp_gw (V : pv_V) (f y : Nat) : Nat := if 30 < pv_F V (5 * f) + pv_gr V * y then 30 else pv_F V (5 * f) + pv_gr V * y
def sp_kp (V : pv_V) (l f y : Nat) : Option Nat := sp_bb V (pv_L V (4 * l)) (pv_L V (4 * l + 1)) (pv_L V (4 * l + 2)) (sp_gw V f y) (pv_F V (5 * f + 1)) (pv_F V (5 * f + 2)) (pv_F V (5 * f + 4))
def sp_ky (V : pv_V) (l f : Nat) : Nat → Bool
  | 0 => true
  | y + 1 => sp_ky V l f y && (sp_kp V l f y).isSome
theorem sp_ky_f {V : pv_V} {l f y : Nat} (h : sp_ky V l f y = false) : ∀ d, sp_ky V l f (y + d) = false
  | 0 => h
  | d + 1 => by
    show (sp_ky V l f (y + d) && _) = false
    rw [sp_ky_f h d, Bool.false_and]
theorem vc_gw {a : Nat} {V : pv_V} {M : gz_M} (fu : Nat) (h : vy_c a V M) {f y : Nat} (hf : f < pv_nf V) (hy : y ≤ 100) : f_X7_growthIn fu M a (nI f) (nI y) = some (nI (sp_gw V f y - pv_F V (5 * f))) := by
  have e0 : f_X7_footPart fu M a (nI f) (0 : Int32) = some (nI (pv_F V (5 * f))) := vc_fp fu h hf (m := 0) (by omega)
  have g0 : pv_F V (5 * f) ≤ 30 := ((vc_ok h).2.2.2.2.2.1 f hf).1 0 (by omega)
  have g1 : pv_gr V * y ≤ 9 * 100 := Nat.mul_le_mul (vc_ok h).2.2.2.1 hy
  unfold f_X7_growthIn
  rw [vc_gd h, e0, Option.bind_some, vc_gr h, Option.bind_some, pk_mul, nI_add, show (30 : Int32) = nI 30 from rfl]
  unfold sp_gw
  by_cases c : pv_F V (5 * f) + pv_gr V * y < 30
  · rw [if_pos (nI_lt c (by omega)), if_neg (by omega), pk_sub (by omega)]
  · rw [if_neg (nI_nlt (by omega) (by omega))]
    by_cases c2 : 30 < pv_F V (5 * f) + pv_gr V * y
    · rw [if_pos c2, pk_sub g0]
    · rw [if_neg c2, pk_sub g0, show pv_F V (5 * f) + pv_gr V * y = 30 by omega]
theorem vm_gw {mo k : Nat} {V : pv_V} {M : gz_M} (fu : Nat) (h : vy_m mo k V M) {f y : Nat} (hf : f < pv_nf V) (hy : y ≤ 100) : f_X10_grown fu M mo (nI k) (nI f) (nI y) = some (nI (sp_gw V f y)) := by
  have e0 : f_X10_of fu M mo (nI k) (nI f) (0 : Int32) = some (nI (pv_F V (5 * f))) := vm_fp fu h hf (m := 0) (by omega)
  have g0 : pv_F V (5 * f) ≤ 30 := ((vm_ok h).2.2.2.2.2.1 f hf).1 0 (by omega)
  have g1 : pv_gr V * y ≤ 9 * 100 := Nat.mul_le_mul (vm_ok h).2.2.2.1 hy
  unfold f_X10_grown
  simp only [gz_jn]
  rw [vm_gd h, e0, Option.bind_some, vm_r12 h, Option.bind_some, vm_v h, Option.bind_some, vm_gr h, Option.bind_some, pk_mul, nI_add, show (30 : Int32) = nI 30 from rfl]
  unfold sp_gw
  by_cases c : 30 < pv_F V (5 * f) + pv_gr V * y
  · rw [if_neg (nI_ge c (by omega)), if_pos c]
  · rw [if_pos (nI_le (by omega) (by omega)), if_neg c]
theorem sp_gw_le {V : pv_V} {f y : Nat} (hV : pv_ok V) (hf : f < pv_nf V) : pv_F V (5 * f) ≤ sp_gw V f y ∧ sp_gw V f y ≤ 30 := by
  have g0 : pv_F V (5 * f) ≤ 30 := (hV.2.2.2.2.2.1 f hf).1 0 (by omega)
  unfold sp_gw
  split <;> omega
theorem vc_dy {a : Nat} {V : pv_V} {M : gz_M} {fu : Nat} (h : vy_c a V M) {f l n : Nat} (hf : f < pv_nf V) (hl : l < pv_nl V) (hn : n ≤ 9) : ∀ d i fuel, i + d = n + 1 → d < fuel → sp_ky V l f i = true → lp_X7_doesForYears_3 (gz_z (1 : Int32) (some (1 : Int32))) fu M a (nI l) (nI f) (nI n) fuel (nI i) = some (if sp_ky V l f (n + 1) then 1 else 0)
  | 0, i, fuel, hd, hfu, hk => by
    obtain ⟨g, rfl⟩ : ∃ g, fuel = g + 1 := ⟨fuel - 1, by omega⟩
    obtain rfl : i = n + 1 := by omega
    rw [lp_X7_doesForYears_3, if_pos (nI_lt (by omega) (by omega)), if_pos hk]
    rfl
  | d + 1, i, fuel, hd, hfu, hk => by
    obtain ⟨g, rfl⟩ : ∃ g, fuel = g + 1 := ⟨fuel - 1, by omega⟩
    obtain ⟨w1, w2⟩ := sp_gw_le (V := V) (f := f) (y := i) (vc_ok h) hf
    have eb : f_X7_badness fu M a a (nI l) (0 : Int32) (nI f) (nI (sp_gw V f i - pv_F V (5 * f))) (0 : Int32) = some (pc_o (sp_kp V l f i)) := by
      have := vc_bad fu h h (l := l) (t := 0) (f := f) (gl := sp_gw V f i - pv_F V (5 * f)) (gb := 0) hf hl (by omega) (by omega) (by omega)
      rw [show pv_F V (5 * f) + (sp_gw V f i - pv_F V (5 * f)) = sp_gw V f i by omega] at this
      exact this
    rw [lp_X7_doesForYears_3, if_neg (nI_nlt (by omega) (by omega)), vc_gw fu h hf (by omega), Option.bind_some, eb, Option.bind_some, pn_1]
    cases e : sp_kp V l f i with
    | none =>
      have : sp_ky V l f (i + 1) = false := by show (_ && _) = false; rw [e]; simp
      have := sp_ky_f this d
      rw [if_pos pc_none, show n + 1 = i + 1 + d by omega, this]
      rfl
    | some x =>
      have hx := sp_bb_le (vc_ok h) e
      rw [pc_some, if_neg (pn_neg (n := x) (by omega))]
      exact vc_dy h hf hl hn d (i + 1) g (by omega) (by omega) (by show (_ && _) = true; rw [e, hk]; rfl)
theorem vm_dy {mo k : Nat} {V : pv_V} {M : gz_M} {fu : Nat} (hfu : 5000 ≤ fu) (h : vy_m mo k V M) {f l n : Nat} (hf : f < pv_nf V) (hl : l < pv_nl V) (hn : n ≤ 9) (j : Int32 → Option (Int32 × gz_M)) : lp_X10_keeps_50 j fu M mo (nI k) (nI f) (nI n) (nI l) fu (1 : Int32) (0 : Int32) = j (if sp_ky V l f (n + 1) then 1 else 0) := by
  have e0 : f_X10_lastIs fu M mo (nI k) (nI l) (0 : Int32) = some (nI (pv_L V (4 * l))) := vm_lp fu h hl (m := 0) (by omega)
  have e1 : f_X10_lastIs fu M mo (nI k) (nI l) (1 : Int32) = some (nI (pv_L V (4 * l + 1))) := vm_lp fu h hl (m := 1) (by omega)
  have e2 : f_X10_lastIs fu M mo (nI k) (nI l) (2 : Int32) = some (nI (pv_L V (4 * l + 2))) := vm_lp fu h hl (m := 2) (by omega)
  have g0 : f_X10_of fu M mo (nI k) (nI f) (0 : Int32) = some (nI (pv_F V (5 * f))) := vm_fp fu h hf (m := 0) (by omega)
  have g1 : f_X10_of fu M mo (nI k) (nI f) (1 : Int32) = some (nI (pv_F V (5 * f + 1))) := vm_fp fu h hf (m := 1) (by omega)
  have g2 : f_X10_of fu M mo (nI k) (nI f) (2 : Int32) = some (nI (pv_F V (5 * f + 2))) := vm_fp fu h hf (m := 2) (by omega)
  have g4 : f_X10_of fu M mo (nI k) (nI f) (4 : Int32) = some (nI (pv_F V (5 * f + 4))) := vm_fp fu h hf (m := 4) (by omega)
  obtain ⟨l1, l2⟩ := (vm_ok h).2.2.2.2.2.2 l hl
  obtain ⟨f1, f2, f3, f4⟩ := (vm_ok h).2.2.2.2.2.1 f hf
  have m0 : pv_L V (4 * l) ≤ 40 := l1 0 (by omega)
  have m1 := l1 1 (by omega)
  have m2 := l1 2 (by omega)
  have n0 : pv_F V (5 * f) ≤ 30 := f1 0 (by omega)
  have n1 := f1 1 (by omega)
  have n2 := f1 2 (by omega)
  refine pl_fn (fun fuel i s => lp_X10_keeps_50 j fu M mo (nI k) (nI f) (nI n) (nI l) fuel s i) j (fun i => if sp_ky V l f i then 1 else 0) (n + 1) ?_ ?_ (fuel := fu) (by omega)
  · intro fuel i hi
    obtain ⟨w1, w2⟩ := sp_gw_le (V := V) (f := f) (y := i) (vm_ok h) hf
    have hg : (if nI i = 0 then some (nI (pv_F V (5 * f))) else some (nI (sp_gw V f i))) = some (nI (sp_gw V f i)) := by
      by_cases c : i = 0
      · subst c
        rw [if_pos (show nI 0 = 0 from rfl)]
        unfold sp_gw
        rw [Nat.mul_zero, Nat.add_zero, if_neg (by omega)]
      · rw [if_neg (nI_ne0 (by omega) (by omega))]
    have eb := vm_by hfu h (l := pv_L V (4 * l)) (b := pv_L V (4 * l + 1)) (t := pv_L V (4 * l + 2)) (fl := sp_gw V f i) (fb := pv_F V (5 * f + 1)) (fh := pv_F V (5 * f + 2)) (g := pv_F V (5 * f + 4)) (by omega) (by omega) (by omega) (by omega) (by omega) (by omega) (by omega)
    rw [lp_X10_keeps_50, if_neg (nI_nlt (by omega) (by omega))]
    simp only [gz_jn, e0, e1, e2, g0, g1, g2, g4, vm_gw fu h hf (show i ≤ 100 by omega), Option.bind_some, pn_1]
    have key : ∀ A : Int32, A = nI (sp_gw V f i) → ((f_X10_badBy fu M mo (nI k) (nI (pv_L V (4 * l))) (nI (pv_L V (4 * l + 1))) (nI (pv_L V (4 * l + 2))) A (nI (pv_F V (5 * f + 1))) (nI (pv_F V (5 * f + 2))) (nI (pv_F V (5 * f + 4)))).bind fun x17 => if x17 = -1 then lp_X10_keeps_50 j fu M mo (nI k) (nI f) (nI n) (nI l) fuel ((if sp_ky V l f i = true then 1 else 0) &&& 0) (nI (i + 1)) else lp_X10_keeps_50 j fu M mo (nI k) (nI f) (nI n) (nI l) fuel ((if sp_ky V l f i = true then 1 else 0) &&& 1) (nI (i + 1))) = lp_X10_keeps_50 j fu M mo (nI k) (nI f) (nI n) (nI l) fuel (if sp_ky V l f (i + 1) = true then 1 else 0) (nI (i + 1)) := by
      rintro A rfl
      rw [eb, Option.bind_some]
      show _ = lp_X10_keeps_50 j fu M mo (nI k) (nI f) (nI n) (nI l) fuel (if (sp_ky V l f i && (sp_kp V l f i).isSome) = true then 1 else 0) (nI (i + 1))
      unfold sp_kp
      cases e : sp_bb V (pv_L V (4 * l)) (pv_L V (4 * l + 1)) (pv_L V (4 * l + 2)) (sp_gw V f i) (pv_F V (5 * f + 1)) (pv_F V (5 * f + 2)) (pv_F V (5 * f + 4)) with
      | none =>
        rw [if_pos pc_none]
        cases sp_ky V l f i <;> rfl
      | some x =>
        have hx := sp_bb_le (vm_ok h) e
        rw [pc_some, if_neg (pn_neg (n := x) (by omega))]
        cases sp_ky V l f i <;> rfl
    by_cases c : i = 0
    · subst c
      rw [if_pos (show nI 0 = 0 from rfl)]
      rw [if_pos (show nI 0 = 0 from rfl)] at hg
      exact key _ (Option.some.inj hg)
    · rw [if_neg (nI_ne0 (by omega) (by omega))]
      exact key _ rfl
  · intro fuel
    rw [lp_X10_keeps_50, if_pos (nI_lt (by omega) (by omega))]
theorem vc_kps {a : Nat} {V : pv_V} {M : gz_M} {fu : Nat} (hfu : 5000 ≤ fu) (h : vy_c a V M) {f n : Nat} (hf : f < pv_nf V) (hn : n ≤ 9) : ∃ r : Int32, (∀ j, lp_X9_keeps_43 j fu M (nI f) (nI n) a fu (0 : Int32) (0 : Int32) = j r) ∧ ∀ (mo k : Nat) (M' : gz_M), vy_m mo k V M' → ∀ j, lp_X10_keeps_34 j fu M' mo (nI k) (nI f) (nI n) fu (0 : Int32) (0 : Int32) = j r := by
  have o2 := (vc_ok h).2.1
  let S : Nat → Int32 := fun m => Nat.rec (0 : Int32) (fun l r => if sp_ky V l f (n + 1) then r ||| ((1 : Int32) <<< (nI l &&& 31)) else r) m
  have hS : ∀ l, S (l + 1) = if sp_ky V l f (n + 1) then S l ||| ((1 : Int32) <<< (nI l &&& 31)) else S l := fun n => rfl
  refine ⟨S (pv_nl V), fun j => ?_, fun mo k M' h' j => ?_⟩
  · refine pl_fn (fun fuel i s => lp_X9_keeps_43 j fu M (nI f) (nI n) a fuel s i) j S (pv_nl V) ?_ ?_ (fuel := fu) (by omega)
    · intro fuel i hi
      have e : f_X7_doesForYears fu M a (nI i) (nI f) (nI n) = some (if sp_ky V i f (n + 1) then 1 else 0) := by
        unfold f_X7_doesForYears
        rw [vc_gd h]
        exact vc_dy h hf hi hn (n + 1) 0 fu (by omega) (by omega) rfl
      rw [lp_X9_keeps_43, vc_nl h, Option.bind_some, if_neg (pn_nle hi (by omega)), e, Option.bind_some, hS]
      simp only [gz_jn, pn_1]
      cases sp_ky V i f (n + 1) <;> rfl
    · intro fuel
      rw [lp_X9_keeps_43, vc_nl h, Option.bind_some, if_pos (pn_le (Nat.le_refl _) (by omega))]
  · refine pl_fn (fun fuel i s => lp_X10_keeps_34 j fu M' mo (nI k) (nI f) (nI n) fuel s i) j S (pv_nl V) ?_ ?_ (fuel := fu) (by omega)
    · intro fuel i hi
      rw [lp_X10_keeps_34, vm_nl fu h', Option.bind_some, if_neg (pn_nle hi (by omega)), vm_dy hfu h' hf hi hn, hS]
      simp only [gz_jn, pn_1]
      cases sp_ky V i f (n + 1)
      · simp
      · rfl
    · intro fuel
      rw [lp_X10_keeps_34, vm_nl fu h', Option.bind_some, if_pos (pn_le (Nat.le_refl _) (by omega))]
theorem op_keeps (b : Nat) {fu : Nat} (hfu : 5000 ≤ fu) : gz_op_keeps (pi_I b) fu b (b + 110) := by
  intro M v f n hI
  rcases pg_val hI v with ⟨k, V, rfl, hv⟩ | hz
  · have hok := hv.ok
    have o1 := hok.1
    have o2 := hok.2.1
    have op2 : 2 ^ pv_nl V ≤ 2 ^ 10 := Nat.pow_le_pow_right (by omega) o2
    by_cases hc : (0 ≤ f ∧ f ≤ nI (pv_nf V) - 1) ∧ (1 ≤ n ∧ n ≤ 9)
    · obtain ⟨c1, c2⟩ := hc
      obtain ⟨f, hf, rfl⟩ := (pn_lt (by omega)).mp c1
      obtain ⟨n, hn, rfl⟩ := pu_num (n := 9) (by decide) ⟨Int32.le_trans (by decide) c2.1, c2.2⟩
      obtain ⟨r, q1, q2⟩ := vc_kps hfu hv.c hf hn
      refine ⟨r, M, M, ?_, ?_, hI⟩
      · simp only [f_X9_keeps, gz_jn, hv.gC, hv.vC fu, hv.fC fu, hv.lC fu, hv.sC fu, pu_within, pu_shelf, pu_count, Option.bind_some, pu_ii, pu_10, if_true, gz_b2, if_pos c1, if_pos c2, hv.p1, hv.p2, hv.p3, q1]
      · simp only [f_X10_keeps, gz_jn, hv.gM, hv.vM fu, hv.fM fu, hv.lM fu, hv.sM fu, hv.nM fu, pn_0_1, pn_0_2, pn_0_3, pn_0_4, pn_0_5, pn_0_7, pn_0_10, pn_0_40, pn_1_4, pn_1_6, pn_1_9, Option.bind_some, pu_ii, pu_10, if_true, gz_b2, if_pos c1, if_pos c2, q2 _ _ _ hv.m]
    · obtain ⟨M1, M2, r1, r2, r3, hw⟩ := pu_rfw fu hI 0 (by decide) (-2) pu_k2
      refine ⟨-2, M1, M2, ?_, ?_, r3⟩
      · simp only [f_X9_keeps, gz_jn, hv.gC, hv.vC fu, hv.fC fu, hv.lC fu, hv.sC fu, pu_within, pu_shelf, pu_count, Option.bind_some, pu_ii, pu_10, if_true, gz_b2, r1, pu_n2 hc]
      · have hv' := hv.same hw
        simp only [f_X10_keeps, gz_jn, hv'.gM, hv'.vM fu, hv'.fM fu, hv'.lM fu, hv'.sM fu, hv'.nM fu, pn_0_1, pn_0_2, pn_0_3, pn_0_4, pn_0_5, pn_0_7, pn_0_10, pn_0_40, pn_1_4, pn_1_6, pn_1_9, Option.bind_some, pu_ii, pu_10, if_true, gz_b2, r2, pu_n2 hc]
  · obtain ⟨M1, M2, r1, r2, r3, hw⟩ := pu_rfw fu hI 0 (by decide) (-2) pu_k2
    refine ⟨-2, M1, M2, ?_, ?_, r3⟩
    · simp only [f_X9_keeps, gz_jn, hz.gC, hz.vC fu, hz.fC fu, hz.lC fu, hz.sC fu, pu_within, pu_shelf, pu_count, Option.bind_some, pu_ii, pu_10, if_true, gz_b2, r1]
    · have hv' := hz.same hw
      simp only [f_X10_keeps, gz_jn, hv'.gM, hv'.vM fu, hv'.fM fu, hv'.lM fu, hv'.sM fu, hv'.nM fu, pn_0_1, pn_0_2, pn_0_3, pn_0_4, pn_0_5, pn_0_7, pn_0_10, pn_0_40, pn_1_4, pn_1_6, pn_1_9, Option.bind_some, pu_ii, pu_10, if_true, gz_b2, r2]
