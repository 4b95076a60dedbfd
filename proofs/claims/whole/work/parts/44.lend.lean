/-! lend -/
def sp_mn : Option Nat → Option Nat → Option Nat
  | none, y => y
  | some x, none => some x
  | some x, some y => if y < x then some y else some x
def sp_v (V W : pv_V) (f set : Nat) (k : Nat) : Option Nat := (sp_own V W f set k).map Prod.snd
theorem sp_v_le {V W : pv_V} {f set k x : Nat} (hV : pv_ok V) (h : sp_v V W f set k = some x) : x ≤ 810 := by
  unfold sp_v at h
  cases e : sp_own V W f set k with
  | none => rw [e] at h; cases h
  | some p => obtain ⟨i, y⟩ := p; rw [e] at h; cases h; exact (sp_own_ok hV _ i y e).2.1
theorem sp_v_succ (V W : pv_V) (f set k : Nat) : sp_v V W f set (k + 1) = sp_mn (sp_v V W f set k) (if set.testBit k then sp_bad V W k f else none) := by
  unfold sp_v
  rw [sp_own]
  generalize (if set.testBit k then sp_bad V W k f else none) = x
  cases x with
  | none => rw [sa_n]; cases sp_own V W f set k <;> rfl
  | some x =>
    cases sp_own V W f set k with
    | none => rfl
    | some p =>
      obtain ⟨i, y⟩ := p
      rw [sa_1]
      show _ = if x < y then some x else some y
      by_cases c : x < y
      · rw [if_pos c, if_pos c]; rfl
      · rw [if_neg c, if_neg c]; rfl
theorem sp_mn_as (a b c : Option Nat) : sp_mn (sp_mn a b) c = sp_mn a (sp_mn b c) := by
  cases a with
  | none => rfl
  | some a =>
    cases b with
    | none => rfl
    | some b =>
      cases c with
      | none =>
        show sp_mn (if b < a then some b else some a) none = (if b < a then some b else some a)
        split <;> rfl
      | some c =>
        show sp_mn (if b < a then some b else some a) (some c) = sp_mn (some a) (if c < b then some c else some b)
        by_cases h1 : b < a <;> by_cases h2 : c < b <;> simp only [h1, h2, if_true, if_false, sp_mn]
        · rw [if_pos (by omega)]
        · rw [if_neg (by omega)]
/-- one round of the reference's search for the least -/
theorem vm_ln {β : Type} {s x : Option Nat} (hs : ∀ y, s = some y → y ≤ 810) (hx : ∀ y, x = some y → y ≤ 810) (j : Int32 → β) : (if pc_o x = -1 then j (pc_o s) else if pc_o s = -1 then j (pc_o x) else if pc_o s ≤ pc_o x then j (pc_o s) else j (pc_o x)) = j (pc_o (sp_mn s x)) := by
  cases x with
  | none => rw [if_pos pc_none]; cases s <;> rfl
  | some x =>
    have := hx x rfl
    rw [pc_some, if_neg (pn_neg (n := x) (by omega))]
    cases s with
    | none => rw [if_pos pc_none]; rfl
    | some y =>
      have := hs y rfl
      rw [pc_some, if_neg (pn_neg (n := y) (by omega))]
      show _ = j (pc_o (if x < y then some x else some y))
      by_cases c : x < y
      · rw [if_neg (nI_ge c (by omega)), if_pos c]; rfl
      · rw [if_pos (nI_le (by omega) (by omega)), if_neg c]; rfl
theorem sp_mn_le {a b : Option Nat} (ha : ∀ y, a = some y → y ≤ 810) (hb : ∀ y, b = some y → y ≤ 810) : ∀ y, sp_mn a b = some y → y ≤ 810 := by
  intro y h
  cases a with
  | none => exact hb y h
  | some a =>
    cases b with
    | none => exact ha y h
    | some b =>
      simp only [sp_mn] at h
      split at h
      · exact hb y h
      · exact ha y h
theorem vm_lent {mo k k' : Nat} {V W : pv_V} {M : gz_M} {fu : Nat} (hfu : 5000 ≤ fu) (h : vy_m mo k V M) (h' : vy_m mo k' W M) {f s t : Nat} (hf : f < pv_nf V) (hs : s < 2 ^ 20) (ht : t < 2 ^ 20) : f_X10_lentOf fu M mo (nI k) (nI f) (nI s) (nI k') (nI t) = some (pc_o (sp_mn (sp_v V V f s (pv_nl V)) (sp_v V W f t (pv_nl W)))) := by
  have hV := vm_ok h
  have o2 := hV.2.1
  have o2' := (vm_ok h').2.1
  unfold f_X10_lentOf
  rw [vm_gd h]
  have e1 : ∀ j, lp_X10_lentOf_6 j fu M mo (nI k) (nI f) (nI s) fu (-1 : Int32) (0 : Int32) = j (pc_o (sp_v V V f s (pv_nl V))) := fun j => by
    refine pl_fn (fun fuel i x => lp_X10_lentOf_6 j fu M mo (nI k) (nI f) (nI s) fuel x i) j (fun i => pc_o (sp_v V V f s i)) (pv_nl V) ?_ ?_ (fuel := fu) (by omega)
    · intro fuel i hi
      rw [lp_X10_lentOf_6, vm_nl fu h, Option.bind_some, if_neg (pn_nle hi (by omega)), sp_v_succ]
      simp only [gz_jn, pn_1]
      cases hb : s.testBit i
      · rw [if_pos ((pn_bit (by omega) (by omega)).mpr hb)]
        exact vm_ln (s := sp_v V V f s i) (x := none) (fun y e => sp_v_le hV e) (fun y e => by cases e) (fun z => lp_X10_lentOf_6 j fu M mo (nI k) (nI f) (nI s) fuel z (nI (i + 1)))
      · rw [if_neg (fun q => by rw [(pn_bit (by omega) (by omega)).mp q] at hb; cases hb), vm_bad hfu h h hf hi, Option.bind_some]
        exact vm_ln (s := sp_v V V f s i) (x := sp_bad V V i f) (fun y e => sp_v_le hV e) (fun y e => sp_bad_le hV e) (fun z => lp_X10_lentOf_6 j fu M mo (nI k) (nI f) (nI s) fuel z (nI (i + 1)))
    · intro fuel
      rw [lp_X10_lentOf_6, vm_nl fu h, Option.bind_some, if_pos (pn_le (Nat.le_refl _) (by omega))]
  rw [e1]
  have hz : lp_X10_lentOf_77 (fun x14 => some x14) fu M mo (nI k) (nI f) (nI k') (nI t) fu (pc_o (sp_v V V f s (pv_nl V))) (0 : Int32) = lp_X10_lentOf_77 (fun x14 => some x14) fu M mo (nI k) (nI f) (nI k') (nI t) fu (pc_o (sp_mn (sp_v V V f s (pv_nl V)) (sp_v V W f t 0))) (nI 0) := by
    have : sp_mn (sp_v V V f s (pv_nl V)) (sp_v V W f t 0) = sp_v V V f s (pv_nl V) := by
      show sp_mn (sp_v V V f s (pv_nl V)) none = _
      cases sp_v V V f s (pv_nl V) <;> rfl
    rw [this]
    rfl
  rw [hz]
  refine pl_fn (fun fuel i x => lp_X10_lentOf_77 (fun x14 => some x14) fu M mo (nI k) (nI f) (nI k') (nI t) fuel x i) (fun x => some x) (fun i => pc_o (sp_mn (sp_v V V f s (pv_nl V)) (sp_v V W f t i))) (pv_nl W) ?_ ?_ (fuel := fu) (by omega)
  · intro fuel i hi
    have hS : ∀ y, sp_mn (sp_v V V f s (pv_nl V)) (sp_v V W f t i) = some y → y ≤ 810 := sp_mn_le (fun y e => sp_v_le hV e) (fun y e => sp_v_le hV e)
    rw [lp_X10_lentOf_77, vm_nl fu h', Option.bind_some, if_neg (pn_nle hi (by omega)), sp_v_succ, ← sp_mn_as]
    simp only [gz_jn, pn_1]
    cases hb : t.testBit i
    · rw [if_pos ((pn_bit (by omega) (by omega)).mpr hb)]
      exact vm_ln (s := sp_mn (sp_v V V f s (pv_nl V)) (sp_v V W f t i)) (x := none) hS (fun y e => by cases e) (fun z => lp_X10_lentOf_77 (fun x14 => some x14) fu M mo (nI k) (nI f) (nI k') (nI t) fuel z (nI (i + 1)))
    · rw [if_neg (fun q => by rw [(pn_bit (by omega) (by omega)).mp q] at hb; cases hb), vm_bad hfu h h' hf hi, Option.bind_some]
      exact vm_ln (s := sp_mn (sp_v V V f s (pv_nl V)) (sp_v V W f t i)) (x := sp_bad V W i f) hS (fun y e => sp_bad_le hV e) (fun z => lp_X10_lentOf_77 (fun x14 => some x14) fu M mo (nI k) (nI f) (nI k') (nI t) fuel z (nI (i + 1)))
  · intro fuel
    rw [lp_X10_lentOf_77, vm_nl fu h', Option.bind_some, if_pos (pn_le (Nat.le_refl _) (by omega))]
/-- the cost of the foot f, by the least of the two -/
def sp_lt (V W : pv_V) (s t f : Nat) : Nat := sp_ct V f ((sp_mn (sp_v V V f s (pv_nl V)) (sp_v V W f t (pv_nl W))).map fun x => (0, x))
theorem vm_la {mo k k' : Nat} {V W : pv_V} {M : gz_M} {fu : Nat} (hfu : 5000 ≤ fu) (h : vy_m mo k V M) (h' : vy_m mo k' W M) {s t : Nat} (hs : s < 2 ^ 20) (ht : t < 2 ^ 20) : f_X10_lentAll fu M mo (nI k) (nI s) (nI k') (nI t) = some (nI (sp_pr V s (pv_nl V) + fb_sm (sp_lt V W s t) (pv_nf V))) := by
  have hV := vm_ok h
  have o1 := hV.1
  unfold f_X10_lentAll
  rw [vm_gd h, vm_pr hfu h hs, Option.bind_some]
  refine pl_fn (fun fuel i x => lp_X10_lentAll_11 (fun x => some x) fu M mo (nI k) (nI s) (nI k') (nI t) fuel x i) (fun x => some x) (fun i => nI (sp_pr V s (pv_nl V) + fb_sm (sp_lt V W s t) i)) (pv_nf V) ?_ ?_ (fuel := fu) (by omega)
  · intro fuel i hi
    have e3 : f_X10_of fu M mo (nI k) (nI i) (3 : Int32) = some (nI (pv_F V (5 * i + 3))) := vm_fp fu h hi (m := 3) (by omega)
    rw [lp_X10_lentAll_11, vm_nf fu h, Option.bind_some, if_neg (pn_nle hi (by omega)), vm_lent hfu h h' hi hs ht, Option.bind_some, e3, Option.bind_some]
    simp only [gz_jn, pn_1]
    rw [show sp_pr V s (pv_nl V) + fb_sm (sp_lt V W s t) (i + 1) = (sp_pr V s (pv_nl V) + fb_sm (sp_lt V W s t) i) + sp_lt V W s t i from (Nat.add_assoc _ _ _).symm, ← nI_add _ (sp_lt V W s t i)]
    unfold sp_lt sp_ct
    have hS : ∀ y, sp_mn (sp_v V V i s (pv_nl V)) (sp_v V W i t (pv_nl W)) = some y → y ≤ 810 := sp_mn_le (fun y e => sp_v_le hV e) (fun y e => sp_v_le hV e)
    cases e : sp_mn (sp_v V V i s (pv_nl V)) (sp_v V W i t (pv_nl W)) with
    | none => rw [if_pos pc_none, vm_r12 h, Option.bind_some, vm_v h, Option.bind_some, vm_out h, Option.bind_some, pk_mul]; rfl
    | some x =>
      have := hS x e
      rw [pc_some, if_neg (pn_neg (n := x) (by omega)), pk_mul]; rfl
  · intro fuel
    rw [lp_X10_lentAll_11, vm_nf fu h, Option.bind_some, if_pos (pn_le (Nat.le_refl _) (by omega))]
theorem pc_nv (o : Option (Nat × Nat)) : pc_n o = pc_n ((o.map Prod.snd).map fun x => (0, x)) := by
  cases o with
  | none => rfl
  | some p => rfl
theorem vc_mn {a b : Option Nat} (ha : ∀ y, a = some y → y ≤ 810) (hb : ∀ y, b = some y → y ≤ 810) : (if pc_n (b.map fun x => (0, x)) < pc_n (a.map fun x => (0, x)) then pc_n (b.map fun x => (0, x)) else pc_n (a.map fun x => (0, x))) = pc_n ((sp_mn a b).map fun x => (0, x)) := by
  cases b with
  | none =>
    have : sp_mn a none = a := by cases a <;> rfl
    rw [this]
    cases a with
    | none => rfl
    | some a =>
      have := ha a rfl
      show (if (2147483647 : Int32) < nI a then _ else _) = _
      rw [if_neg (Int32.not_lt.mpr (Int32.le_of_lt (pn_mx (n := a) (by omega)).2))]
  | some b =>
    have := hb b rfl
    cases a with
    | none =>
      show (if nI b < (2147483647 : Int32) then _ else _) = _
      rw [if_pos (pn_mx (n := b) (by omega)).2]
      rfl
    | some a =>
      have := ha a rfl
      show (if nI b < nI a then _ else _) = pc_n ((if b < a then some b else some a).map fun x => (0, x))
      by_cases c : b < a
      · rw [if_pos (nI_lt c (by omega)), if_pos c]
      · rw [if_neg (nI_nlt (by omega) (by omega)), if_neg c]
theorem vc_la {a a' : Nat} {V W : pv_V} {M : gz_M} {fu : Nat} (hfu : 5000 ≤ fu) (h : vy_c a V M) (h' : vy_c a' W M) {s t : Nat} (hs : s < 2 ^ 20) (ht : t < 2 ^ 20) : f_X9_lentCosts fu M a (nI s) a' (nI t) = some (nI (fb_sm (sp_lt V W s t) (pv_nf V))) := by
  have hV := vc_ok h
  have o1 := hV.1
  unfold f_X9_lentCosts
  refine pl_fn (fun fuel i x => lp_X9_lentCosts_6 (fun x => some x) fu M a (nI s) a' (nI t) fuel x i) (fun x => some x) (fun i => nI (fb_sm (sp_lt V W s t) i)) (pv_nf V) ?_ ?_ (fuel := fu) (by omega)
  · intro fuel i hi
    have hS : ∀ y, sp_mn (sp_v V V i s (pv_nl V)) (sp_v V W i t (pv_nl W)) = some y → y ≤ 810 := sp_mn_le (fun y e => sp_v_le hV e) (fun y e => sp_v_le hV e)
    have e1 : pc_n (sp_own V V i s (pv_nl V)) = pc_n ((sp_v V V i s (pv_nl V)).map fun x => (0, x)) := pc_nv _
    have e2 : pc_n (sp_own V W i t (pv_nl W)) = pc_n ((sp_v V W i t (pv_nl W)).map fun x => (0, x)) := pc_nv _
    rw [lp_X9_lentCosts_6, vc_nf h, Option.bind_some, if_neg (pn_nle hi (by omega)), vc_ob hfu h h hi hs, Option.bind_some, vc_ob hfu h h' hi ht, Option.bind_some, e1, e2, vc_mn (fun y e => sp_v_le hV e) (fun y e => sp_v_le hV e), vc_ct fu h hi (fun q x e => by
      cases e5 : sp_mn (sp_v V V i s (pv_nl V)) (sp_v V W i t (pv_nl W)) with
      | none => rw [e5] at e; cases e
      | some y => rw [e5] at e; cases e; exact hS _ e5), Option.bind_some, pn_1, nI_add]
    rfl
  · intro fuel
    rw [lp_X9_lentCosts_6, vc_nf h, Option.bind_some, if_pos (pn_le (Nat.le_refl _) (by omega))]
theorem pu_lnd {α : Type} {a b c : Prop} [Decidable a] [Decidable b] [Decidable c] {S R : α} (h : ¬ (a ∧ b ∧ ¬ c)) : (if a then (if b then (if c then R else S) else R) else R) = R := by
  by_cases h1 : a <;> by_cases h2 : b <;> by_cases h3 : c <;> simp [h1, h2, h3] <;> exact absurd ⟨h1, h2, h3⟩ h
theorem op_lend (b : Nat) {fu : Nat} (hfu : 5000 ≤ fu) : gz_op_lend (pi_I b) fu b (b + 110) := by
  intro M v v2 s t hI
  rcases pg_val hI v with ⟨k, V, rfl, hv⟩ | hz
  · have op2 : 2 ^ pv_nl V ≤ 2 ^ 10 := Nat.pow_le_pow_right (by omega) hv.ok.2.1
    rcases pg_val hI v2 with ⟨k2, W, rfl, hv2⟩ | hz2
    · have op2' : 2 ^ pv_nl W ≤ 2 ^ 10 := Nat.pow_le_pow_right (by omega) hv2.ok.2.1
      by_cases hc : (0 ≤ s ∧ s ≤ nI (2 ^ pv_nl V) - 1) ∧ (0 ≤ t ∧ t ≤ nI (2 ^ pv_nl W) - 1) ∧ ¬ nI k = nI k2
      · obtain ⟨c1, c2, c3⟩ := hc
        obtain ⟨s, hs, rfl⟩ := (pn_lt (by omega)).mp c1
        obtain ⟨t, ht, rfl⟩ := (pn_lt (by omega)).mp c2
        have hs' : s < 2 ^ 20 := by omega
        have ht' : t < 2 ^ 20 := by omega
        refine ⟨nI (sp_pr V s (pv_nl V) + fb_sm (sp_lt V W s t) (pv_nf V) + (sp_pr W t (pv_nl W) + fb_sm (sp_lt W V t s) (pv_nf W))), M, M, ?_, ?_, hI⟩
        · simp only [f_X9_lend, gz_jn, hv.gC, hv.sC fu, hv2.sC fu, Option.bind_some, pu_ii, pu_10, if_pos c1, if_pos c2, if_neg c3, hv.p1, hv.p2, hv.p3, hv2.p3, vc_pr hfu hv.c hs', vc_pr hfu hv2.c ht', vc_la hfu hv.c hv2.c hs' ht', vc_la hfu hv2.c hv.c ht' hs', nI_add]
          congr 3
          omega
        · simp only [f_X10_lend, gz_jn, hv.gM, hv.sM fu, hv2.sM fu, Option.bind_some, pu_ii, pu_10, if_pos c1, if_pos c2, if_neg c3, vm_la hfu hv.m hv2.m hs' ht', vm_la hfu hv2.m hv.m ht' hs', nI_add]
      · obtain ⟨M1, M2, r1, r2, r3, hw⟩ := pu_rfw fu hI 0 (by decide) (-2) pu_k2
        refine ⟨-2, M1, M2, ?_, ?_, r3⟩
        · simp only [f_X9_lend, gz_jn, hv.gC, hv.sC fu, hv2.sC fu, Option.bind_some, pu_ii, if_true, gz_b2, r1]
          rw [pu_lnd hc]
        · have hv' := hv.same hw
          have hv2' := hv2.same hw
          simp only [f_X10_lend, gz_jn, hv'.gM, hv'.sM fu, hv2'.sM fu, Option.bind_some, pu_ii, if_true, gz_b2, r2]
          rw [pu_lnd hc]
    · obtain ⟨M1, M2, r1, r2, r3, hw⟩ := pu_rfw fu hI 0 (by decide) (-2) pu_k2
      refine ⟨-2, M1, M2, ?_, ?_, r3⟩
      · simp only [f_X9_lend, gz_jn, hv.gC, hv.sC fu, hz2.sC fu, Option.bind_some, pu_ii, if_true, gz_b2, r1]
        split <;> rfl
      · have hv' := hv.same hw
        have hv2' := hz2.same hw
        simp only [f_X10_lend, gz_jn, hv'.gM, hv'.sM fu, hv2'.sM fu, Option.bind_some, pu_ii, if_true, gz_b2, r2]
        split <;> rfl
  · obtain ⟨M1, M2, r1, r2, r3, hw⟩ := pu_rfw fu hI 0 (by decide) (-2) pu_k2
    refine ⟨-2, M1, M2, ?_, ?_, r3⟩
    · simp only [f_X9_lend, gz_jn, hz.gC, hz.sC fu, hz.sC fu, Option.bind_some, pu_ii, if_true, gz_b2, r1]
    · have hv' := hz.same hw
      have hv2' := hz.same hw
      simp only [f_X10_lend, gz_jn, hv'.gM, hv'.sM fu, hv2'.sM fu, Option.bind_some, pu_ii, if_true, gz_b2, r2]
def sp_ts (V : pv_V) : Nat → Nat := fb_sm (fun f => pv_F V (5 * f + 3))
theorem vc_ts {a : Nat} {V : pv_V} {M : gz_M} {fu : Nat} (hfu : 5000 ≤ fu) (h : vy_c a V M) : f_X7_allTimes fu M a = some (nI (sp_ts V (pv_nf V))) := by
  have o1 := (vc_ok h).1
  unfold f_X7_allTimes
  rw [vc_gd h]
  refine pl_fn (fun fuel i x => lp_X7_allTimes_4 (fun x => some x) fu M a fuel x i) (fun x => some x) (fun i => nI (sp_ts V i)) (pv_nf V) ?_ ?_ (fuel := fu) (by omega)
  · intro fuel i hi
    have e3 : f_X7_footPart fu M a (nI i) (3 : Int32) = some (nI (pv_F V (5 * i + 3))) := vc_fp fu h hi (m := 3) (by omega)
    rw [lp_X7_allTimes_4, vc_nf h, Option.bind_some, if_neg (pn_nle hi (by omega)), e3, Option.bind_some, pn_1, nI_add]
    rfl
  · intro fuel
    rw [lp_X7_allTimes_4, vc_nf h, Option.bind_some, if_pos (pn_le (Nat.le_refl _) (by omega))]
theorem vm_ts {mo k : Nat} {V : pv_V} {M : gz_M} {fu : Nat} (hfu : 5000 ≤ fu) (h : vy_m mo k V M) : f_X10_times fu M mo (nI k) = some (nI (sp_ts V (pv_nf V))) := by
  have o1 := (vm_ok h).1
  unfold f_X10_times
  rw [vm_gd h]
  refine pl_fn (fun fuel i x => lp_X10_times_4 (fun x => some x) fu M mo (nI k) fuel x i) (fun x => some x) (fun i => nI (sp_ts V i)) (pv_nf V) ?_ ?_ (fuel := fu) (by omega)
  · intro fuel i hi
    have e3 : f_X10_of fu M mo (nI k) (nI i) (3 : Int32) = some (nI (pv_F V (5 * i + 3))) := vm_fp fu h hi (m := 3) (by omega)
    rw [lp_X10_times_4, vm_nf fu h, Option.bind_some, if_neg (pn_nle hi (by omega)), e3, Option.bind_some, pn_1, nI_add]
    rfl
  · intro fuel
    rw [lp_X10_times_4, vm_nf fu h, Option.bind_some, if_pos (pn_le (Nat.le_refl _) (by omega))]
theorem op_valleyOf (b : Nat) {fu : Nat} (hfu : 5000 ≤ fu) : gz_op_valleyOf (pi_I b) fu b (b + 110) := by
  intro M v w hI
  rcases pg_val hI v with ⟨k, V, rfl, hv⟩ | hz
  · have hok := hv.ok
    have o1 := hok.1
    have o2 := hok.2.1
    have op2 : 2 ^ pv_nl V ≤ 2 ^ 10 := Nat.pow_le_pow_right (by omega) o2
    by_cases hc : (0 ≤ w ∧ w ≤ 10)
    · have c1 := hc
      obtain ⟨w, hw, rfl⟩ := pu_num (n := 10) (by decide) c1
      have hcs : w = 0 ∨ w = 1 ∨ w = 2 ∨ w = 3 ∨ w = 4 ∨ w = 5 ∨ w = 6 ∨ w = 7 ∨ w = 8 ∨ w = 9 ∨ w = 10 := by omega
      rcases hcs with rfl | rfl | rfl | rfl | rfl | rfl | rfl | rfl | rfl | rfl | rfl
      · refine ⟨nI (pv_nf V), M, M, ?_, ?_, hI⟩
        · simp only [f_X9_valleyOf, gz_jn, hv.gC, hv.vC fu, hv.fC fu, hv.lC fu, hv.sC fu, pu_within, pu_shelf, pu_count, Option.bind_some, pu_ii, pu_10, if_true, gz_b2, if_pos c1, hv.p1, hv.p2, hv.p3]
          show (gz_gI M 7 4 (b + 13 + 5 * k)).bind _ = _
          rw [vc_nf hv.c]
          rfl
        · simp only [f_X10_valleyOf, gz_jn, hv.gM, hv.vM fu, hv.fM fu, hv.lM fu, hv.sM fu, hv.nM fu, pn_0_1, pn_0_2, pn_0_3, pn_0_4, pn_0_5, pn_0_7, pn_0_10, pn_0_40, pn_1_4, pn_1_6, pn_1_9, Option.bind_some, pu_ii, pu_10, if_true, gz_b2, if_pos c1]
          show (gz_gR M 10 12 (b + 110)).bind _ = _
          rw [vm_r12 hv.m, Option.bind_some, vm_v hv.m, Option.bind_some]
          show (gz_aI M (b + 110 + 20 + k) (nI 0)).bind _ = _
          rw [vm_a hv.m (by omega), hv.m.2.2.2.1]
          rfl
      · refine ⟨nI (pv_nl V), M, M, ?_, ?_, hI⟩
        · simp only [f_X9_valleyOf, gz_jn, hv.gC, hv.vC fu, hv.fC fu, hv.lC fu, hv.sC fu, pu_within, pu_shelf, pu_count, Option.bind_some, pu_ii, pu_10, if_true, gz_b2, if_pos c1, hv.p1, hv.p2, hv.p3]
          show (gz_gI M 7 5 (b + 13 + 5 * k)).bind _ = _
          rw [vc_nl hv.c]
          rfl
        · simp only [f_X10_valleyOf, gz_jn, hv.gM, hv.vM fu, hv.fM fu, hv.lM fu, hv.sM fu, hv.nM fu, pn_0_1, pn_0_2, pn_0_3, pn_0_4, pn_0_5, pn_0_7, pn_0_10, pn_0_40, pn_1_4, pn_1_6, pn_1_9, Option.bind_some, pu_ii, pu_10, if_true, gz_b2, if_pos c1]
          show (gz_gR M 10 12 (b + 110)).bind _ = _
          rw [vm_r12 hv.m, Option.bind_some, vm_v hv.m, Option.bind_some]
          show (gz_aI M (b + 110 + 20 + k) (nI 1)).bind _ = _
          rw [vm_a hv.m (by omega), hv.m.2.2.2.2.1]
          rfl
      · refine ⟨nI (sp_ts V (pv_nf V)), M, M, ?_, ?_, hI⟩
        · simp only [f_X9_valleyOf, gz_jn, hv.gC, hv.vC fu, hv.fC fu, hv.lC fu, hv.sC fu, pu_within, pu_shelf, pu_count, Option.bind_some, pu_ii, pu_10, if_true, gz_b2, if_pos c1, hv.p1, hv.p2, hv.p3]
          show (f_X7_allTimes fu M (b + 13 + 5 * k)).bind _ = _
          rw [vc_ts hfu hv.c]
          rfl
        · simp only [f_X10_valleyOf, gz_jn, hv.gM, hv.vM fu, hv.fM fu, hv.lM fu, hv.sM fu, hv.nM fu, pn_0_1, pn_0_2, pn_0_3, pn_0_4, pn_0_5, pn_0_7, pn_0_10, pn_0_40, pn_1_4, pn_1_6, pn_1_9, Option.bind_some, pu_ii, pu_10, if_true, gz_b2, if_pos c1]
          show (f_X10_times fu M (b + 110) (nI k)).bind _ = _
          rw [vm_ts hfu hv.m]
          rfl
      · refine ⟨nI (pv_out V), M, M, ?_, ?_, hI⟩
        · simp only [f_X9_valleyOf, gz_jn, hv.gC, hv.vC fu, hv.fC fu, hv.lC fu, hv.sC fu, pu_within, pu_shelf, pu_count, Option.bind_some, pu_ii, pu_10, if_true, gz_b2, if_pos c1, hv.p1, hv.p2, hv.p3]
          show (gz_gI M 7 6 (b + 13 + 5 * k)).bind _ = _
          rw [vc_out hv.c]
          rfl
        · simp only [f_X10_valleyOf, gz_jn, hv.gM, hv.vM fu, hv.fM fu, hv.lM fu, hv.sM fu, hv.nM fu, pn_0_1, pn_0_2, pn_0_3, pn_0_4, pn_0_5, pn_0_7, pn_0_10, pn_0_40, pn_1_4, pn_1_6, pn_1_9, Option.bind_some, pu_ii, pu_10, if_true, gz_b2, if_pos c1]
          show (gz_gR M 10 12 (b + 110)).bind _ = _
          rw [vm_r12 hv.m, Option.bind_some, vm_v hv.m, Option.bind_some]
          show (gz_aI M (b + 110 + 20 + k) (nI 2)).bind _ = _
          rw [vm_a hv.m (by omega), hv.m.2.2.2.2.2.1]
          rfl
      · refine ⟨nI (pv_gr V), M, M, ?_, ?_, hI⟩
        · simp only [f_X9_valleyOf, gz_jn, hv.gC, hv.vC fu, hv.fC fu, hv.lC fu, hv.sC fu, pu_within, pu_shelf, pu_count, Option.bind_some, pu_ii, pu_10, if_true, gz_b2, if_pos c1, hv.p1, hv.p2, hv.p3]
          show (gz_gI M 7 7 (b + 13 + 5 * k)).bind _ = _
          rw [vc_gr hv.c]
          rfl
        · simp only [f_X10_valleyOf, gz_jn, hv.gM, hv.vM fu, hv.fM fu, hv.lM fu, hv.sM fu, hv.nM fu, pn_0_1, pn_0_2, pn_0_3, pn_0_4, pn_0_5, pn_0_7, pn_0_10, pn_0_40, pn_1_4, pn_1_6, pn_1_9, Option.bind_some, pu_ii, pu_10, if_true, gz_b2, if_pos c1]
          show (gz_gR M 10 12 (b + 110)).bind _ = _
          rw [vm_r12 hv.m, Option.bind_some, vm_v hv.m, Option.bind_some]
          show (gz_aI M (b + 110 + 20 + k) (nI 3)).bind _ = _
          rw [vm_a hv.m (by omega), hv.m.2.2.2.2.2.2.1]
          rfl
      · refine ⟨nI (pv_wa V 0), M, M, ?_, ?_, hI⟩
        · simp only [f_X9_valleyOf, gz_jn, hv.gC, hv.vC fu, hv.fC fu, hv.lC fu, hv.sC fu, pu_within, pu_shelf, pu_count, Option.bind_some, pu_ii, pu_10, if_true, gz_b2, if_pos c1, hv.p1, hv.p2, hv.p3]
          show (gz_gR M 7 2 (b + 13 + 5 * k)).bind _ = _
          rw [vc_r2 hv.c, Option.bind_some]
          show (gz_aI M (b + 13 + 5 * k + 3) (nI 0)).bind _ = _
          rw [vc_wa hv.c (by omega)]
          rfl
        · simp only [f_X10_valleyOf, gz_jn, hv.gM, hv.vM fu, hv.fM fu, hv.lM fu, hv.sM fu, hv.nM fu, pn_0_1, pn_0_2, pn_0_3, pn_0_4, pn_0_5, pn_0_7, pn_0_10, pn_0_40, pn_1_4, pn_1_6, pn_1_9, Option.bind_some, pu_ii, pu_10, if_true, gz_b2, if_pos c1]
          show (gz_gR M 10 12 (b + 110)).bind _ = _
          rw [vm_r12 hv.m, Option.bind_some, vm_v hv.m, Option.bind_some]
          show (gz_aI M (b + 110 + 20 + k) (nI 4)).bind _ = _
          rw [vm_a hv.m (by omega), hv.m.2.2.2.2.2.2.2.1 0 (by omega)]
          rfl
      · refine ⟨nI (pv_wa V 1), M, M, ?_, ?_, hI⟩
        · simp only [f_X9_valleyOf, gz_jn, hv.gC, hv.vC fu, hv.fC fu, hv.lC fu, hv.sC fu, pu_within, pu_shelf, pu_count, Option.bind_some, pu_ii, pu_10, if_true, gz_b2, if_pos c1, hv.p1, hv.p2, hv.p3]
          show (gz_gR M 7 2 (b + 13 + 5 * k)).bind _ = _
          rw [vc_r2 hv.c, Option.bind_some]
          show (gz_aI M (b + 13 + 5 * k + 3) (nI 1)).bind _ = _
          rw [vc_wa hv.c (by omega)]
          rfl
        · simp only [f_X10_valleyOf, gz_jn, hv.gM, hv.vM fu, hv.fM fu, hv.lM fu, hv.sM fu, hv.nM fu, pn_0_1, pn_0_2, pn_0_3, pn_0_4, pn_0_5, pn_0_7, pn_0_10, pn_0_40, pn_1_4, pn_1_6, pn_1_9, Option.bind_some, pu_ii, pu_10, if_true, gz_b2, if_pos c1]
          show (gz_gR M 10 12 (b + 110)).bind _ = _
          rw [vm_r12 hv.m, Option.bind_some, vm_v hv.m, Option.bind_some]
          show (gz_aI M (b + 110 + 20 + k) (nI 5)).bind _ = _
          rw [vm_a hv.m (by omega), hv.m.2.2.2.2.2.2.2.1 1 (by omega)]
          rfl
      · refine ⟨nI (pv_wa V 2), M, M, ?_, ?_, hI⟩
        · simp only [f_X9_valleyOf, gz_jn, hv.gC, hv.vC fu, hv.fC fu, hv.lC fu, hv.sC fu, pu_within, pu_shelf, pu_count, Option.bind_some, pu_ii, pu_10, if_true, gz_b2, if_pos c1, hv.p1, hv.p2, hv.p3]
          show (gz_gR M 7 2 (b + 13 + 5 * k)).bind _ = _
          rw [vc_r2 hv.c, Option.bind_some]
          show (gz_aI M (b + 13 + 5 * k + 3) (nI 2)).bind _ = _
          rw [vc_wa hv.c (by omega)]
          rfl
        · simp only [f_X10_valleyOf, gz_jn, hv.gM, hv.vM fu, hv.fM fu, hv.lM fu, hv.sM fu, hv.nM fu, pn_0_1, pn_0_2, pn_0_3, pn_0_4, pn_0_5, pn_0_7, pn_0_10, pn_0_40, pn_1_4, pn_1_6, pn_1_9, Option.bind_some, pu_ii, pu_10, if_true, gz_b2, if_pos c1]
          show (gz_gR M 10 12 (b + 110)).bind _ = _
          rw [vm_r12 hv.m, Option.bind_some, vm_v hv.m, Option.bind_some]
          show (gz_aI M (b + 110 + 20 + k) (nI 6)).bind _ = _
          rw [vm_a hv.m (by omega), hv.m.2.2.2.2.2.2.2.1 2 (by omega)]
          rfl
      · refine ⟨nI (pv_ov V 0), M, M, ?_, ?_, hI⟩
        · simp only [f_X9_valleyOf, gz_jn, hv.gC, hv.vC fu, hv.fC fu, hv.lC fu, hv.sC fu, pu_within, pu_shelf, pu_count, Option.bind_some, pu_ii, pu_10, if_true, gz_b2, if_pos c1, hv.p1, hv.p2, hv.p3]
          show (gz_gR M 7 3 (b + 13 + 5 * k)).bind _ = _
          rw [vc_r3 hv.c, Option.bind_some]
          show (gz_aI M (b + 13 + 5 * k + 4) (nI 0)).bind _ = _
          rw [vc_ov hv.c (by omega)]
          rfl
        · simp only [f_X10_valleyOf, gz_jn, hv.gM, hv.vM fu, hv.fM fu, hv.lM fu, hv.sM fu, hv.nM fu, pn_0_1, pn_0_2, pn_0_3, pn_0_4, pn_0_5, pn_0_7, pn_0_10, pn_0_40, pn_1_4, pn_1_6, pn_1_9, Option.bind_some, pu_ii, pu_10, if_true, gz_b2, if_pos c1]
          show (gz_gR M 10 12 (b + 110)).bind _ = _
          rw [vm_r12 hv.m, Option.bind_some, vm_v hv.m, Option.bind_some]
          show (gz_aI M (b + 110 + 20 + k) (nI 7)).bind _ = _
          rw [vm_a hv.m (by omega), hv.m.2.2.2.2.2.2.2.2.1 0 (by omega)]
          rfl
      · refine ⟨nI (pv_ov V 1), M, M, ?_, ?_, hI⟩
        · simp only [f_X9_valleyOf, gz_jn, hv.gC, hv.vC fu, hv.fC fu, hv.lC fu, hv.sC fu, pu_within, pu_shelf, pu_count, Option.bind_some, pu_ii, pu_10, if_true, gz_b2, if_pos c1, hv.p1, hv.p2, hv.p3]
          show (gz_gR M 7 3 (b + 13 + 5 * k)).bind _ = _
          rw [vc_r3 hv.c, Option.bind_some]
          show (gz_aI M (b + 13 + 5 * k + 4) (nI 1)).bind _ = _
          rw [vc_ov hv.c (by omega)]
          rfl
        · simp only [f_X10_valleyOf, gz_jn, hv.gM, hv.vM fu, hv.fM fu, hv.lM fu, hv.sM fu, hv.nM fu, pn_0_1, pn_0_2, pn_0_3, pn_0_4, pn_0_5, pn_0_7, pn_0_10, pn_0_40, pn_1_4, pn_1_6, pn_1_9, Option.bind_some, pu_ii, pu_10, if_true, gz_b2, if_pos c1]
          show (gz_gR M 10 12 (b + 110)).bind _ = _
          rw [vm_r12 hv.m, Option.bind_some, vm_v hv.m, Option.bind_some]
          show (gz_aI M (b + 110 + 20 + k) (nI 8)).bind _ = _
          rw [vm_a hv.m (by omega), hv.m.2.2.2.2.2.2.2.2.1 1 (by omega)]
          rfl
      · refine ⟨nI (pv_ov V 2), M, M, ?_, ?_, hI⟩
        · simp only [f_X9_valleyOf, gz_jn, hv.gC, hv.vC fu, hv.fC fu, hv.lC fu, hv.sC fu, pu_within, pu_shelf, pu_count, Option.bind_some, pu_ii, pu_10, if_true, gz_b2, if_pos c1, hv.p1, hv.p2, hv.p3]
          show (gz_gR M 7 3 (b + 13 + 5 * k)).bind _ = _
          rw [vc_r3 hv.c, Option.bind_some]
          show (gz_aI M (b + 13 + 5 * k + 4) (nI 2)).bind _ = _
          rw [vc_ov hv.c (by omega)]
          rfl
        · simp only [f_X10_valleyOf, gz_jn, hv.gM, hv.vM fu, hv.fM fu, hv.lM fu, hv.sM fu, hv.nM fu, pn_0_1, pn_0_2, pn_0_3, pn_0_4, pn_0_5, pn_0_7, pn_0_10, pn_0_40, pn_1_4, pn_1_6, pn_1_9, Option.bind_some, pu_ii, pu_10, if_true, gz_b2, if_pos c1]
          show (gz_gR M 10 12 (b + 110)).bind _ = _
          rw [vm_r12 hv.m, Option.bind_some, vm_v hv.m, Option.bind_some]
          show (gz_aI M (b + 110 + 20 + k) (nI 9)).bind _ = _
          rw [vm_a hv.m (by omega), hv.m.2.2.2.2.2.2.2.2.1 2 (by omega)]
          rfl
    · obtain ⟨M1, M2, r1, r2, r3, hw⟩ := pu_rfw fu hI 0 (by decide) (-2) pu_k2
      refine ⟨-2, M1, M2, ?_, ?_, r3⟩
      · simp only [f_X9_valleyOf, gz_jn, hv.gC, hv.vC fu, hv.fC fu, hv.lC fu, hv.sC fu, pu_within, pu_shelf, pu_count, Option.bind_some, pu_ii, pu_10, if_true, gz_b2, r1, if_neg hc]
      · have hv' := hv.same hw
        simp only [f_X10_valleyOf, gz_jn, hv'.gM, hv'.vM fu, hv'.fM fu, hv'.lM fu, hv'.sM fu, hv'.nM fu, pn_0_1, pn_0_2, pn_0_3, pn_0_4, pn_0_5, pn_0_7, pn_0_10, pn_0_40, pn_1_4, pn_1_6, pn_1_9, Option.bind_some, pu_ii, pu_10, if_true, gz_b2, r2, if_neg hc]
  · obtain ⟨M1, M2, r1, r2, r3, hw⟩ := pu_rfw fu hI 0 (by decide) (-2) pu_k2
    refine ⟨-2, M1, M2, ?_, ?_, r3⟩
    · simp only [f_X9_valleyOf, gz_jn, hz.gC, hz.vC fu, hz.fC fu, hz.lC fu, hz.sC fu, pu_within, pu_shelf, pu_count, Option.bind_some, pu_ii, pu_10, if_true, gz_b2, r1]
    · have hv' := hz.same hw
      simp only [f_X10_valleyOf, gz_jn, hv'.gM, hv'.vM fu, hv'.fM fu, hv'.lM fu, hv'.sM fu, hv'.nM fu, pn_0_1, pn_0_2, pn_0_3, pn_0_4, pn_0_5, pn_0_7, pn_0_10, pn_0_40, pn_1_4, pn_1_6, pn_1_9, Option.bind_some, pu_ii, pu_10, if_true, gz_b2, r2]
