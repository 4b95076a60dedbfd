/-! idle -/
theorem px_or (a b : Nat) : nI a ||| nI b = nI (a ||| b) := by
  apply Int32.toBitVec_inj.1
  show BitVec.ofNat 32 a ||| BitVec.ofNat 32 b = BitVec.ofNat 32 (a ||| b)
  apply BitVec.eq_of_getLsbD_eq
  intro i hi
  simp [hi]
def sp_us (V : pv_V) : Nat → Nat
  | 0 => 0
  | k + 1 => sp_us V k ||| sp_B V none k
theorem sp_us_lt {V : pv_V} (hV : pv_ok V) : ∀ k, sp_us V k < 2 ^ 10
  | 0 => Nat.two_pow_pos 10
  | k + 1 => by
    have h1 := sp_us_lt hV k
    have h2 := sp_B_lt V none k
    have h3 := tp_le hV.2.1
    exact Nat.or_lt_two_pow h1 (by omega)
theorem pl_id1 {b k fu : Nat} {V : pv_V} {M : gz_M} (hfu : 5000 ≤ fu) (v7 : vb b k V M) (t7 : tq (b + 62) V M) (j : Int32 → Option (Int32 × gz_M)) : lp_X9_idle_38 j fu M b fu (0 : Int32) (0 : Int32) = j (nI (sp_us V 11)) := by
  refine pl_fn (fun fuel i s => lp_X9_idle_38 j fu M b fuel s i) j (fun k => nI (sp_us V k)) 11 ?_ ?_ (fuel := fu) (by omega)
  · intro fuel i hi
    have c : ¬ (10 : Int32) < nI i := nI_nlt (b := i) (a := 10) (by omega) (by omega)
    rw [lp_X9_idle_38, if_neg c, v7.p7, Option.bind_some, t7.lt hfu (show i ≤ 11 by omega), Option.bind_some, px_or, pn_1]
    rfl
  · intro fuel
    rw [lp_X9_idle_38, if_pos (show (10 : Int32) < nI 11 by decide)]
theorem pl_id2 {b k fu : Nat} {V : pv_V} {M : gz_M} (hfu : 5000 ≤ fu) (v7 : vb b k V M) (j : Int32 → Option (Int32 × gz_M)) : lp_X10_idle_19 j fu M (b + 110) (nI k) fu (0 : Int32) (0 : Int32) = j (nI (sp_us V 11)) := by
  refine pl_fn (fun fuel i s => lp_X10_idle_19 j fu M (b + 110) (nI k) fuel s i) j (fun k => nI (sp_us V k)) 11 ?_ ?_ (fuel := fu) (by omega)
  · intro fuel i hi
    have c : ¬ (10 : Int32) < nI i := nI_nlt (b := i) (a := 10) (by omega) (by omega)
    rw [lp_X10_idle_19, if_neg c, vm_b0 hfu v7.m (show i ≤ 11 by omega), Option.bind_some, px_or, pn_1]
    rfl
  · intro fuel
    rw [lp_X10_idle_19, if_pos (show (10 : Int32) < nI 11 by decide)]
theorem pl_id3 {b k fu u : Nat} {V : pv_V} {M : gz_M} (hfu : 5000 ≤ fu) (v7 : vb b k V M) (hu : u < 2 ^ 20) : ∃ r : Int32, lp_X9_idle_66 (some ((-1 : Int32), M)) M (b + 13 + 5 * k) (nI u) fu (0 : Int32) = some (r, M) ∧ lp_X10_idle_43 (some ((-1 : Int32), M)) fu M (b + 110) (nI k) (nI u) fu (0 : Int32) = some (r, M) := by
  have o2 := v7.ok.2.1
  refine pl_two (σ := Unit) (τ := Unit) (fun fuel i _ => lp_X9_idle_66 (some ((-1 : Int32), M)) M (b + 13 + 5 * k) (nI u) fuel i) (fun fuel i _ => lp_X10_idle_43 (some ((-1 : Int32), M)) fu M (b + 110) (nI k) (nI u) fuel i) (fun A B => ∃ r : Int32, A = some (r, M) ∧ B = some (r, M)) (fun _ _ _ => True) (pv_nl V) (fun f g i s t hi _ => ?_) (fun f g s t _ => ?_) (pv_nl V) 0 () () fu fu (by omega) (by omega) (by omega) trivial
  · try dsimp only
    rw [lp_X9_idle_66, lp_X10_idle_43]
    simp only [vc_nl v7.c, vm_nl fu v7.m, Option.bind_some, if_neg (pn_nle hi (show pv_nl V < 2 ^ 31 by omega)), pn_1]
    cases d : u.testBit i
    · left
      exact ⟨nI i, by rw [if_pos ((pn_and (by omega) (by omega)).mpr d)], by rw [if_pos ((pn_bit (by omega) (by omega)).mpr d)]⟩
    · right
      exact ⟨(), (), trivial, by rw [if_neg (fun q => by rw [(pn_and (by omega) (by omega)).mp q] at d; cases d)], by rw [if_neg (fun q => by rw [(pn_bit (by omega) (by omega)).mp q] at d; cases d)]⟩
  · try dsimp only
    rw [lp_X9_idle_66, lp_X10_idle_43]
    simp only [vc_nl v7.c, vm_nl fu v7.m, Option.bind_some, if_pos (pn_le (Nat.le_refl (pv_nl V)) (show pv_nl V < 2 ^ 31 by omega))]
    exact ⟨-1, rfl, rfl⟩
theorem op_idle (b : Nat) {fu : Nat} (hfu : 5000 ≤ fu) : gz_op_idle (pi_I b) fu b (b + 110) := by
  intro M v  hI
  rcases pg_val hI v with ⟨k, V, rfl, hv⟩ | hz
  · have hok := hv.ok
    have o1 := hok.1
    have o2 := hok.2.1
    have op2 : 2 ^ pv_nl V ≤ 2 ^ 10 := Nat.pow_le_pow_right (by omega) o2
    obtain ⟨M7, q1, v7, i7, t7⟩ := hv.fill hfu hI
    obtain ⟨r, q2, q3⟩ := pl_id3 (u := sp_us V 11) hfu v7 (by have := sp_us_lt hok 11; omega)
    refine ⟨r, M7, M7, ?_, ?_, i7⟩
    · simp only [f_X9_idle, gz_jn, hv.gC, hv.vC fu, hv.fC fu, hv.lC fu, hv.sC fu, pu_within, pu_shelf, pu_count, Option.bind_some, pu_ii, pu_10, if_true, gz_b2, hv.p1, hv.p2, hv.p3, hv.p7, q1, pl_id1 hfu v7 t7, q2]
    · simp only [f_X10_idle, gz_jn, v7.gM, v7.vM fu, v7.fM fu, v7.lM fu, v7.sM fu, v7.nM fu, pn_0_1, pn_0_2, pn_0_3, pn_0_4, pn_0_5, pn_0_7, pn_0_10, pn_0_40, pn_1_4, pn_1_6, pn_1_9, Option.bind_some, pu_ii, pu_10, if_true, gz_b2, pl_id2 hfu v7, q3]
  · obtain ⟨M1, M2, r1, r2, r3, hw⟩ := pu_rfw fu hI 0 (by decide) (-2) pu_k2
    refine ⟨-2, M1, M2, ?_, ?_, r3⟩
    · simp only [f_X9_idle, gz_jn, hz.gC, hz.vC fu, hz.fC fu, hz.lC fu, hz.sC fu, pu_within, pu_shelf, pu_count, Option.bind_some, pu_ii, pu_10, if_true, gz_b2, r1]
    · have hv' := hz.same hw
      simp only [f_X10_idle, gz_jn, hv'.gM, hv'.vM fu, hv'.fM fu, hv'.lM fu, hv'.sM fu, hv'.nM fu, pn_0_1, pn_0_2, pn_0_3, pn_0_4, pn_0_5, pn_0_7, pn_0_10, pn_0_40, pn_1_4, pn_1_6, pn_1_9, Option.bind_some, pu_ii, pu_10, if_true, gz_b2, r2]
/-! fair, shod -/
/-- comes before: by A, then by the totals -/
def sp_bf (V : pv_V) (A : Nat → Nat) (s o : Nat) : Bool := decide (A s < A o ∨ A s = A o ∧ sp_tot V s < sp_tot V o)
theorem tq.ib {T : Nat} {V : pv_V} {M : gz_M} (fu : Nat) (h : tq T V M) {c : Nat} {A : Nat → Nat} (hA : ∀ s, s < 2 ^ pv_nl V → gz_aI M c (nI s) = some (nI (A s))) (hb : ∀ s, A s < 2 ^ 20) {s o : Nat} (hs : s < 2 ^ pv_nl V) (ho : o < 2 ^ pv_nl V) : f_X3_isBefore fu M T c (nI s) (nI o) = some (if sp_bf V A s o then 1 else 0) := by
  have t1 := sp_tot_lt (set := s) h.2.1
  have t2 := sp_tot_lt (set := o) h.2.1
  have b1 := hb s
  have b2 := hb o
  unfold f_X3_isBefore sp_bf
  simp only [h.1.gd, hA s hs, hA o ho, Option.bind_some, h.1.r0, h.tot hs, h.tot ho, gz_jn]
  by_cases c1 : A s = A o
  · rw [if_pos (by rw [c1])]
    by_cases c2 : sp_tot V s < sp_tot V o
    · rw [if_neg (nI_ge c2 (by omega)), decide_eq_true (Or.inr ⟨c1, c2⟩)]; rfl
    · rw [if_pos (nI_le (by omega) (by omega)), decide_eq_false (by omega)]; rfl
  · rw [if_neg (fun q => c1 ((nI_eq (by omega) (by omega)).mp q))]
    by_cases c2 : A s < A o
    · rw [if_neg (nI_ge c2 (by omega)), decide_eq_true (Or.inl c2)]; rfl
    · rw [if_pos (nI_le (by omega) (by omega)), decide_eq_false (by omega)]; rfl
theorem tq.mi {T : Nat} {V : pv_V} {M : gz_M} (h : tq T V M) : ∀ s, s < 2 ^ pv_nl V → gz_aI M (T + 2) (nI s) = some (nI (sp_ms V s (pv_nf V))) := fun s hs => by
  have := tp_le h.2.1.2.1
  rw [h.1.a1 (by omega), (h.2.2.2 s hs).2.1]
theorem tq.wo {T : Nat} {V : pv_V} {M : gz_M} (h : tq T V M) : ∀ s, s < 2 ^ pv_nl V → gz_aI M (T + 3) (nI s) = some (nI (sp_ws V s (pv_nf V))) := fun s hs => by
  have := tp_le h.2.1.2.1
  rw [h.1.a2 (by omega), (h.2.2.2 s hs).2.2]
def sp_ob (V : pv_V) (A : Nat → Nat) (s : Nat) : Option Nat → Bool
  | none => true
  | some o => sp_bf V A s o
/-- FAIR of n, of the first k sets -/
def sp_fr (V : pv_V) (n : Nat) : Nat → Option Nat
  | 0 => none
  | k + 1 => if sp_ms V k (pv_nf V) = 0 ∧ sp_bc k ≤ n ∧ sp_ob V (fun s => sp_ws V s (pv_nf V)) k (sp_fr V n k) = true then some k else sp_fr V n k
theorem sp_fr_lt {V : pv_V} {n : Nat} : ∀ k o, sp_fr V n k = some o → o < k
  | 0, o, h => by cases h
  | k + 1, o, h => by
    rw [sp_fr] at h
    split at h
    · cases h; omega
    · have := sp_fr_lt k o h; omega
theorem tq.fa {T : Nat} {V : pv_V} {M : gz_M} {fu : Nat} (hfu : 5000 ≤ fu) (h : tq T V M) {n : Nat} (hn : n ≤ 11) : f_X3_fairest fu M T (nI n) = some (pc_o (sp_fr V n (2 ^ pv_nl V))) := by
  have hp := tp_le h.2.1.2.1
  unfold f_X3_fairest
  rw [h.1.gd]
  refine pl_nf (fun fuel i s => lp_X3_fairest_4 (fun x10 => some x10) fu M T (nI n) fuel s (nI i)) (fun s => some s) (fun k => pc_o (sp_fr V n k)) (2 ^ pv_nl V) ?_ ?_ (i := 0) (fuel := fu) (Nat.zero_le _) (by omega)
  · intro fuel i hi
    have b1 := bc_le i
    have m1 := sp_ms_le (s := i) h.2.1 (Nat.le_refl _)
    have hl := sp_fr_lt (V := V) (n := n) i
    try dsimp only
    rw [lp_X3_fairest_4]
    simp only [h.sets, Option.bind_some, if_neg (pn_nle hi (show 2 ^ pv_nl V < 2 ^ 31 by omega)), h.1.r1, h.1.r2, h.mi i hi, gz_jn, pn_1, bc_C fu M (show i < 1024 by omega)]
    rw [sp_fr]
    by_cases c1 : sp_ms V i (pv_nf V) = 0
    · rw [if_pos (by rw [c1]; rfl)]
      by_cases c2 : sp_bc i ≤ n
      · rw [if_neg (nI_nlt c2 (by omega))]
        cases e : sp_fr V n i with
        | none =>
          rw [if_pos pc_none, if_pos ⟨c1, c2, rfl⟩]
          rfl
        | some o =>
          have ho := hl o e
          rw [pc_some, if_neg (pn_neg (n := o) (by omega)), h.ib fu h.wo (fun s => by have := sp_ws_le (s := s) h.2.1 (pv_nf V); omega) hi (by omega), Option.bind_some]
          cases d : sp_bf V (fun s => sp_ws V s (pv_nf V)) i o
          · rw [if_neg (show ¬ (sp_ms V i (pv_nf V) = 0 ∧ sp_bc i ≤ n ∧ sp_ob V (fun s => sp_ws V s (pv_nf V)) i (some o) = true) from fun q => by have q2 : sp_bf V (fun s => sp_ws V s (pv_nf V)) i o = true := q.2.2; rw [d] at q2; cases q2)]
            rfl
          · rw [if_pos (show (sp_ms V i (pv_nf V) = 0 ∧ sp_bc i ≤ n ∧ sp_ob V (fun s => sp_ws V s (pv_nf V)) i (some o) = true) from ⟨c1, c2, d⟩)]
            rfl
      · rw [if_pos (nI_lt (by omega) (by omega)), if_neg (fun q => c2 q.2.1)]
    · rw [if_neg (nI_ne0 (by omega) (by omega)), if_neg (fun q => c1 q.1)]
  · intro fuel
    try dsimp only
    rw [lp_X3_fairest_4, h.sets, Option.bind_some, if_pos (pn_le (Nat.le_refl _) (by omega))]
theorem vm_ws {mo k : Nat} {V : pv_V} {M : gz_M} {fu : Nat} (hfu : 5000 ≤ fu) (h : vy_m mo k V M) {s : Nat} (hs : s < 2 ^ 20) : f_X10_worstOf fu M mo (nI k) (nI s) = some (if sp_ms V s (pv_nf V) = 0 then nI (sp_ws V s (pv_nf V)) else -1) := by
  have hok := vm_ok h
  have o1 := hok.1
  have key : ∀ d i fuel, i + d = pv_nf V → d < fuel → sp_ms V s i = 0 → lp_X10_worstOf_5 (fun x7 => some x7) fu M mo (nI k) (nI s) fuel (nI (sp_ws V s i)) (nI i) = some (if sp_ms V s (pv_nf V) = 0 then nI (sp_ws V s (pv_nf V)) else -1) := by
    intro d
    induction d with
    | zero =>
      intro i fuel hi hf hz
      obtain ⟨f, rfl⟩ : ∃ f, fuel = f + 1 := ⟨fuel - 1, by omega⟩
      obtain rfl : i = pv_nf V := by omega
      rw [lp_X10_worstOf_5, vm_nf fu h, Option.bind_some, if_pos (pn_le (Nat.le_refl _) (by omega)), if_pos hz]
    | succ d ih =>
      intro i fuel hi hf hz
      obtain ⟨f, rfl⟩ : ∃ f, fuel = f + 1 := ⟨fuel - 1, by omega⟩
      have hlt : i < pv_nf V := by omega
      have w1 := sp_ws_le (s := s) hok i
      rw [lp_X10_worstOf_5, vm_nf fu h, Option.bind_some, if_neg (pn_nle hlt (by omega)), vm_own hfu h hlt hs, Option.bind_some]
      have hold := sp_own_ok (V := V) (W := V) (f := i) (set := s) hok (pv_nl V)
      have hpart := fb_sm_part (fun f => sp_mv (pv_F V (5 * f + 3)) (sp_own V V f s (pv_nl V))) hlt
      have hF := (hok.2.2.2.2.2.1 i hlt).2.1
      have hsu := sp_ms_s V s i
      have hws : sp_ws V s (i + 1) = if sp_ws V s i < sp_wv (sp_own V V i s (pv_nl V)) then sp_wv (sp_own V V i s (pv_nl V)) else sp_ws V s i := rfl
      cases e : sp_own V V i s (pv_nl V) with
      | none =>
        rw [e] at hsu
        have hne : ¬ sp_ms V s (pv_nf V) = 0 := by
          rw [e] at hpart
          have e2 : sp_mv (pv_F V (5 * i + 3)) none = pv_F V (5 * i + 3) := rfl
          rw [e2] at hpart
          unfold sp_ms
          omega
        rw [if_pos pc_i0, if_neg hne]
      | some p =>
        obtain ⟨l, y⟩ := p
        obtain ⟨a1, a2, a3, a4⟩ := hold l y e
        have o2 := hok.2.1
        rw [e] at hsu hws
        have e0 : sp_mv (pv_F V (5 * i + 3)) (some (l, y)) = 0 := rfl
        have e1 : sp_wv (some (l, y)) = y := rfl
        rw [e0] at hsu
        rw [e1] at hws
        have hnext := ih (i + 1) f (by omega) (by omega) (by omega)
        rw [pc_i1, if_neg (pn_neg (n := l) (by omega)), vm_bad hfu h h hlt a1, a3, Option.bind_some, pc_some]
        simp only [gz_jn, pn_1]
        by_cases c : sp_ws V s i < y
        · rw [if_pos c] at hws
          rw [if_neg (nI_ge c (by omega)), ← hnext, hws]
        · rw [if_neg c] at hws
          rw [if_pos (nI_le (by omega) (by omega)), ← hnext, hws]
  unfold f_X10_worstOf
  rw [vm_gd h]
  exact key (pv_nf V) 0 fu (by omega) (by omega) rfl
theorem vm_fa {mo k : Nat} {V : pv_V} {M : gz_M} {fu : Nat} (hfu : 5000 ≤ fu) (h : vy_m mo k V M) {n : Nat} (hn : n ≤ 11) (j : Int32 → Option (Int32 × gz_M)) : lp_X10_fair_29 j fu M mo (nI k) (nI n) fu (-1 : Int32) (0 : Int32) (0 : Int32) (0 : Int32) = j (pc_o (sp_fr V n (2 ^ pv_nl V))) := by
  have hok := vm_ok h
  have hp := tp_le hok.2.1
  have h1 := Nat.one_le_two_pow (n := pv_nl V)
  let W : Option Nat → Int32 × Int32 := fun o => match o with
    | none => (0, 0)
    | some o => (nI (sp_ws V o (pv_nf V)), nI (sp_tot V o))
  refine pl_nf (fun fuel i s => lp_X10_fair_29 j fu M mo (nI k) (nI n) fuel s.1 s.2.1 s.2.2 (nI i)) (fun s => j s.1) (fun i => (pc_o (sp_fr V n i), W (sp_fr V n i))) (2 ^ pv_nl V) ?_ ?_ (i := 0) (fuel := fu) (Nat.zero_le _) (by omega)
  · intro fuel i hi
    have b1 := bc_le i
    have m1 := sp_ms_le (s := i) hok (Nat.le_refl _)
    have w1 := sp_ws_le (s := i) hok (pv_nf V)
    have t1 := sp_tot_lt (set := i) hok
    have hl := sp_fr_lt (V := V) (n := n) i
    try dsimp only
    rw [lp_X10_fair_29]
    simp only [vm_all fu h, pn_pow, Option.bind_some, if_neg (nI_nlt (show i ≤ 2 ^ pv_nl V - 1 by omega) (show 2 ^ pv_nl V - 1 < 2 ^ 31 by omega)), bc_M hfu M (show i < 2 ^ 20 by omega), vm_ws hfu h (show i < 2 ^ 20 by omega), vm_tot hfu h (show i < 2 ^ 20 by omega), gz_jn, pn_1]
    rw [sp_fr]
    by_cases c2 : sp_bc i ≤ n
    · rw [if_neg (nI_nlt c2 (by omega))]
      by_cases c1 : sp_ms V i (pv_nf V) = 0
      · simp only [if_pos c1, if_neg (pn_neg (n := sp_ws V i (pv_nf V)) (by omega))]
        cases e : sp_fr V n i with
        | none =>
          rw [if_pos pc_none, if_pos ⟨c1, c2, rfl⟩]
          rfl
        | some o =>
          have ho := hl o e
          have w2 := sp_ws_le (s := o) hok (pv_nf V)
          have t2 := sp_tot_lt (set := o) hok
          rw [pc_some, if_neg (pn_neg (n := o) (by omega))]
          show (if nI (sp_ws V i (pv_nf V)) < nI (sp_ws V o (pv_nf V)) then _ else if nI (sp_ws V i (pv_nf V)) = nI (sp_ws V o (pv_nf V)) then (if nI (sp_tot V o) ≤ nI (sp_tot V i) then _ else _) else _) = _
          unfold sp_ob sp_bf
          by_cases d1 : sp_ws V i (pv_nf V) < sp_ws V o (pv_nf V)
          · rw [if_pos (nI_lt d1 (by omega)), if_pos ⟨c1, c2, decide_eq_true (Or.inl d1)⟩]
            rfl
          · rw [if_neg (nI_nlt (by omega) (by omega))]
            by_cases d2 : sp_ws V i (pv_nf V) = sp_ws V o (pv_nf V)
            · rw [if_pos (by rw [d2])]
              by_cases d3 : sp_tot V i < sp_tot V o
              · rw [if_neg (nI_ge d3 (by omega)), if_pos ⟨c1, c2, decide_eq_true (Or.inr ⟨d2, d3⟩)⟩]
                rfl
              · rw [if_pos (nI_le (by omega) (by omega)), if_neg (fun q => by have := of_decide_eq_true q.2.2; dsimp only at this; omega)]
                rfl
            · rw [if_neg (fun q => d2 ((nI_eq (by omega) (by omega)).mp q)), if_neg (fun q => by have := of_decide_eq_true q.2.2; dsimp only at this; omega)]
              rfl
      · simp only [if_neg c1, if_true]
        rw [if_neg (fun q => c1 q.1)]
    · rw [if_pos (nI_lt (by omega) (by omega)), if_pos trivial, if_neg (fun q => c2 q.2.1)]
  · intro fuel
    try dsimp only
    rw [lp_X10_fair_29, vm_all fu h, pn_pow, Option.bind_some, if_pos (nI_lt (show 2 ^ pv_nl V - 1 < 2 ^ pv_nl V by omega) (by omega))]
theorem op_fair (b : Nat) {fu : Nat} (hfu : 5000 ≤ fu) : gz_op_fair (pi_I b) fu b (b + 110) := by
  intro M v n hI
  rcases pg_val hI v with ⟨k, V, rfl, hv⟩ | hz
  · have hok := hv.ok
    have o1 := hok.1
    have o2 := hok.2.1
    have op2 : 2 ^ pv_nl V ≤ 2 ^ 10 := Nat.pow_le_pow_right (by omega) o2
    by_cases hc : (0 ≤ n ∧ n ≤ 10)
    · have c1 := hc
      obtain ⟨n, hn, rfl⟩ := pu_num (n := 10) (by decide) c1
      obtain ⟨M7, q1, v7, i7, t7⟩ := hv.fill hfu hI
      refine ⟨pc_o (sp_fr V n (2 ^ pv_nl V)), M7, M7, ?_, ?_, i7⟩
      · simp only [f_X9_fair, gz_jn, hv.gC, hv.vC fu, hv.fC fu, hv.lC fu, hv.sC fu, pu_within, pu_shelf, pu_count, Option.bind_some, pu_ii, pu_10, if_true, gz_b2, if_pos c1, hv.p1, hv.p2, hv.p3, hv.p7, v7.p7, q1, t7.fa hfu (show n ≤ 11 by omega)]
      · simp only [f_X10_fair, gz_jn, v7.gM, v7.vM fu, v7.fM fu, v7.lM fu, v7.sM fu, v7.nM fu, pn_0_1, pn_0_2, pn_0_3, pn_0_4, pn_0_5, pn_0_7, pn_0_10, pn_0_40, pn_1_4, pn_1_6, pn_1_9, Option.bind_some, pu_ii, pu_10, if_true, gz_b2, if_pos c1, vm_fa hfu v7.m (show n ≤ 11 by omega)]
    · obtain ⟨M1, M2, r1, r2, r3, hw⟩ := pu_rfw fu hI 0 (by decide) (-2) pu_k2
      refine ⟨-2, M1, M2, ?_, ?_, r3⟩
      · simp only [f_X9_fair, gz_jn, hv.gC, hv.vC fu, hv.fC fu, hv.lC fu, hv.sC fu, pu_within, pu_shelf, pu_count, Option.bind_some, pu_ii, pu_10, if_true, gz_b2, r1, if_neg hc]
      · have hv' := hv.same hw
        simp only [f_X10_fair, gz_jn, hv'.gM, hv'.vM fu, hv'.fM fu, hv'.lM fu, hv'.sM fu, hv'.nM fu, pn_0_1, pn_0_2, pn_0_3, pn_0_4, pn_0_5, pn_0_7, pn_0_10, pn_0_40, pn_1_4, pn_1_6, pn_1_9, Option.bind_some, pu_ii, pu_10, if_true, gz_b2, r2, if_neg hc]
  · obtain ⟨M1, M2, r1, r2, r3, hw⟩ := pu_rfw fu hI 0 (by decide) (-2) pu_k2
    refine ⟨-2, M1, M2, ?_, ?_, r3⟩
    · simp only [f_X9_fair, gz_jn, hz.gC, hz.vC fu, hz.fC fu, hz.lC fu, hz.sC fu, pu_within, pu_shelf, pu_count, Option.bind_some, pu_ii, pu_10, if_true, gz_b2, r1]
    · have hv' := hz.same hw
      simp only [f_X10_fair, gz_jn, hv'.gM, hv'.vM fu, hv'.fM fu, hv'.lM fu, hv'.sM fu, hv'.nM fu, pn_0_1, pn_0_2, pn_0_3, pn_0_4, pn_0_5, pn_0_7, pn_0_10, pn_0_40, pn_1_4, pn_1_6, pn_1_9, Option.bind_some, pu_ii, pu_10, if_true, gz_b2, r2]
/-- MOST SHOD of n, of the first k sets -/
def sp_sd (V : pv_V) (n : Nat) : Nat → Nat
  | 0 => 0
  | k + 1 => if sp_bc k ≤ n ∧ sp_bf V (fun s => sp_ms V s (pv_nf V)) k (sp_sd V n k) = true then k else sp_sd V n k
theorem sp_sd_1 (V : pv_V) (n : Nat) : sp_sd V n 1 = 0 := by
  unfold sp_sd sp_sd
  split <;> rfl
theorem sp_sd_le {V : pv_V} {n : Nat} : ∀ k, sp_sd V n (k + 1) ≤ k
  | 0 => by rw [sp_sd_1]; exact Nat.le_refl _
  | k + 1 => by
    have := sp_sd_le (V := V) (n := n) k
    rw [sp_sd]
    split <;> omega
theorem sp_sd_le' {V : pv_V} {n : Nat} : ∀ k, sp_sd V n k ≤ k
  | 0 => Nat.le_refl _
  | k + 1 => by have := sp_sd_le (V := V) (n := n) k; omega
theorem tq.sd {T : Nat} {V : pv_V} {M : gz_M} {fu : Nat} (hfu : 5000 ≤ fu) (h : tq T V M) {n : Nat} (hn : n ≤ 11) : f_X3_mostShod fu M T (nI n) = some (nI (sp_sd V n (2 ^ pv_nl V))) := by
  have hp := tp_le h.2.1.2.1
  have h1 := Nat.one_le_two_pow (n := pv_nl V)
  unfold f_X3_mostShod
  rw [h.1.gd]
  have key := pl_nf (fun fuel i s => lp_X3_mostShod_4 (fun x8 => some x8) fu M T (nI n) fuel s (nI i)) (fun s => some s) (fun k => nI (sp_sd V n k)) (2 ^ pv_nl V) ?_ ?_ (i := 1) (fuel := fu) h1 (by omega)
  · simp only [sp_sd_1] at key
    exact key
  · intro fuel i hi
    have hb := sp_sd_le' (V := V) (n := n) i
    have b1 := bc_le i
    try dsimp only
    rw [lp_X3_mostShod_4]
    simp only [h.sets, Option.bind_some, if_neg (pn_nle hi (show 2 ^ pv_nl V < 2 ^ 31 by omega)), h.1.r1, h.ib fu h.mi (fun s => by have := sp_ms_le (s := s) h.2.1 (Nat.le_refl _); omega) hi (show sp_sd V n i < 2 ^ pv_nl V by omega), gz_jn, pn_1, bc_C fu M (show i < 1024 by omega)]
    rw [sp_sd]
    by_cases c2 : sp_bc i ≤ n
    · rw [if_neg (nI_nlt c2 (by omega))]
      cases d : sp_bf V (fun s => sp_ms V s (pv_nf V)) i (sp_sd V n i)
      · rw [if_neg (show ¬ (sp_bc i ≤ n ∧ false = true) from fun q => by cases q.2)]
        rfl
      · rw [if_pos (show sp_bc i ≤ n ∧ true = true from ⟨c2, rfl⟩)]
        rfl
    · rw [if_pos (nI_lt (by omega) (by omega)), if_neg (fun q => c2 q.1)]
  · intro fuel
    try dsimp only
    rw [lp_X3_mostShod_4, h.sets, Option.bind_some, if_pos (pn_le (Nat.le_refl _) (by omega))]
theorem vm_ot {mo k : Nat} {V : pv_V} {M : gz_M} {fu : Nat} (hfu : 5000 ≤ fu) (h : vy_m mo k V M) {s : Nat} (hs : s < 2 ^ 20) : f_X10_outTimes fu M mo (nI k) (nI s) = some (nI (sp_ms V s (pv_nf V))) := by
  have o1 := (vm_ok h).1
  unfold f_X10_outTimes
  rw [vm_gd h]
  refine pl_fn (fun fuel i x => lp_X10_outTimes_5 (fun x7 => some x7) fu M mo (nI k) (nI s) fuel x i) (fun x => some x) (fun k => nI (sp_ms V s k)) (pv_nf V) ?_ ?_ (fuel := fu) (by omega)
  · intro fuel i hi
    have e3 : f_X10_of fu M mo (nI k) (nI i) (3 : Int32) = some (nI (pv_F V (5 * i + 3))) := vm_fp fu h hi (m := 3) (by omega)
    have hold := sp_own_ok (V := V) (W := V) (f := i) (set := s) (vm_ok h) (pv_nl V)
    have o2 := (vm_ok h).2.1
    rw [lp_X10_outTimes_5, vm_nf fu h, Option.bind_some, if_neg (pn_nle hi (by omega)), vm_own hfu h hi hs, Option.bind_some, sp_ms_s]
    simp only [gz_jn, pn_1]
    cases e : sp_own V V i s (pv_nl V) with
    | none => rw [if_pos pc_i0, e3, Option.bind_some, nI_add]; rfl
    | some p =>
      obtain ⟨l, y⟩ := p
      obtain ⟨a1, a2⟩ := hold l y e
      rw [pc_i1, if_neg (pn_neg (n := l) (by omega)), Int32.add_zero]
      rfl
  · intro fuel
    rw [lp_X10_outTimes_5, vm_nf fu h, Option.bind_some, if_pos (pn_le (Nat.le_refl _) (by omega))]
theorem vm_sd {mo k : Nat} {V : pv_V} {M : gz_M} {fu : Nat} (hfu : 5000 ≤ fu) (h : vy_m mo k V M) {n : Nat} (hn : n ≤ 11) (j : Int32 → Option (Int32 × gz_M)) : lp_X10_shod_29 j fu M mo (nI k) (nI n) fu (-1 : Int32) (0 : Int32) (0 : Int32) (0 : Int32) = j (nI (sp_sd V n (2 ^ pv_nl V))) := by
  have hok := vm_ok h
  have hp := tp_le hok.2.1
  have h1 := Nat.one_le_two_pow (n := pv_nl V)
  let S : Nat → Int32 × Int32 × Int32 := fun i => match i with
    | 0 => (-1, 0, 0)
    | i + 1 => (nI (sp_sd V n (i + 1)), nI (sp_ms V (sp_sd V n (i + 1)) (pv_nf V)), nI (sp_tot V (sp_sd V n (i + 1))))
  have key := pl_nf (fun fuel i s => lp_X10_shod_29 j fu M mo (nI k) (nI n) fuel s.1 s.2.1 s.2.2 (nI i)) (fun s => j s.1) S (2 ^ pv_nl V) ?_ ?_ (i := 0) (fuel := fu) (Nat.zero_le _) (by omega)
  · refine key.trans ?_
    obtain ⟨p, hp2⟩ : ∃ p, 2 ^ pv_nl V = p + 1 := ⟨2 ^ pv_nl V - 1, by omega⟩
    rw [hp2]
  · intro fuel i hi
    have b1 := bc_le i
    have m1 := sp_ms_le (s := i) hok (Nat.le_refl _)
    have t1 := sp_tot_lt (set := i) hok
    try dsimp only
    rw [lp_X10_shod_29]
    simp only [vm_all fu h, pn_pow, Option.bind_some, if_neg (nI_nlt (show i ≤ 2 ^ pv_nl V - 1 by omega) (show 2 ^ pv_nl V - 1 < 2 ^ 31 by omega)), bc_M hfu M (show i < 2 ^ 20 by omega), vm_ot hfu h (show i < 2 ^ 20 by omega), vm_tot hfu h (show i < 2 ^ 20 by omega), gz_jn, pn_1]
    cases i with
    | zero =>
      have e0 : sp_bc 0 = 0 := by decide
      rw [e0, if_neg (nI_nlt (Nat.zero_le n) (by omega))]
      show (if (-1 : Int32) = -1 then _ else _) = lp_X10_shod_29 _ _ _ _ _ _ _ (nI (sp_sd V n 1)) (nI (sp_ms V (sp_sd V n 1) (pv_nf V))) (nI (sp_tot V (sp_sd V n 1))) _
      rw [if_pos rfl, sp_sd_1]
    | succ i =>
      have hb := sp_sd_le (V := V) (n := n) i
      have m2 := sp_ms_le (s := sp_sd V n (i + 1)) hok (Nat.le_refl _)
      have t2 := sp_tot_lt (set := sp_sd V n (i + 1)) hok
      show _ = lp_X10_shod_29 _ _ _ _ _ _ _ (nI (sp_sd V n (i + 1 + 1))) (nI (sp_ms V (sp_sd V n (i + 1 + 1)) (pv_nf V))) (nI (sp_tot V (sp_sd V n (i + 1 + 1)))) _
      rw [show sp_sd V n (i + 1 + 1) = if sp_bc (i + 1) ≤ n ∧ sp_bf V (fun s => sp_ms V s (pv_nf V)) (i + 1) (sp_sd V n (i + 1)) = true then i + 1 else sp_sd V n (i + 1) from rfl]
      by_cases c2 : sp_bc (i + 1) ≤ n
      · rw [if_neg (nI_nlt c2 (by omega))]
        show (if nI (sp_sd V n (i + 1)) = -1 then _ else if nI (sp_ms V (i + 1) (pv_nf V)) < nI (sp_ms V (sp_sd V n (i + 1)) (pv_nf V)) then _ else if nI (sp_ms V (i + 1) (pv_nf V)) = nI (sp_ms V (sp_sd V n (i + 1)) (pv_nf V)) then (if nI (sp_tot V (sp_sd V n (i + 1))) ≤ nI (sp_tot V (i + 1)) then lp_X10_shod_29 _ _ _ _ _ _ _ (nI (sp_sd V n (i + 1))) (nI (sp_ms V (sp_sd V n (i + 1)) (pv_nf V))) (nI (sp_tot V (sp_sd V n (i + 1)))) _ else _) else lp_X10_shod_29 _ _ _ _ _ _ _ (nI (sp_sd V n (i + 1))) (nI (sp_ms V (sp_sd V n (i + 1)) (pv_nf V))) (nI (sp_tot V (sp_sd V n (i + 1)))) _) = _
        rw [if_neg (pn_neg (n := sp_sd V n (i + 1)) (by omega))]
        unfold sp_bf
        by_cases d1 : sp_ms V (i + 1) (pv_nf V) < sp_ms V (sp_sd V n (i + 1)) (pv_nf V)
        · rw [if_pos (nI_lt d1 (by omega)), if_pos ⟨c2, decide_eq_true (Or.inl d1)⟩]
        · rw [if_neg (nI_nlt (by omega) (by omega))]
          by_cases d2 : sp_ms V (i + 1) (pv_nf V) = sp_ms V (sp_sd V n (i + 1)) (pv_nf V)
          · rw [if_pos (by rw [d2])]
            by_cases d3 : sp_tot V (i + 1) < sp_tot V (sp_sd V n (i + 1))
            · rw [if_neg (nI_ge d3 (by omega)), if_pos ⟨c2, decide_eq_true (Or.inr ⟨d2, d3⟩)⟩]
            · rw [if_pos (nI_le (by omega) (by omega)), if_neg (fun q => by have := of_decide_eq_true q.2; dsimp only at this; omega)]
          · rw [if_neg (fun q => d2 ((nI_eq (by omega) (by omega)).mp q)), if_neg (fun q => by have := of_decide_eq_true q.2; dsimp only at this; omega)]
      · rw [if_pos (nI_lt (by omega) (by omega)), if_neg (fun q => c2 q.1)]
  · intro fuel
    try dsimp only
    rw [lp_X10_shod_29, vm_all fu h, pn_pow, Option.bind_some, if_pos (nI_lt (show 2 ^ pv_nl V - 1 < 2 ^ pv_nl V by omega) (by omega))]
theorem op_shod (b : Nat) {fu : Nat} (hfu : 5000 ≤ fu) : gz_op_shod (pi_I b) fu b (b + 110) := by
  intro M v n hI
  rcases pg_val hI v with ⟨k, V, rfl, hv⟩ | hz
  · have hok := hv.ok
    have o1 := hok.1
    have o2 := hok.2.1
    have op2 : 2 ^ pv_nl V ≤ 2 ^ 10 := Nat.pow_le_pow_right (by omega) o2
    by_cases hc : (0 ≤ n ∧ n ≤ 10)
    · have c1 := hc
      obtain ⟨n, hn, rfl⟩ := pu_num (n := 10) (by decide) c1
      obtain ⟨M7, q1, v7, i7, t7⟩ := hv.fill hfu hI
      refine ⟨nI (sp_sd V n (2 ^ pv_nl V)), M7, M7, ?_, ?_, i7⟩
      · simp only [f_X9_shod, gz_jn, hv.gC, hv.vC fu, hv.fC fu, hv.lC fu, hv.sC fu, pu_within, pu_shelf, pu_count, Option.bind_some, pu_ii, pu_10, if_true, gz_b2, if_pos c1, hv.p1, hv.p2, hv.p3, hv.p7, v7.p7, q1, t7.sd hfu (show n ≤ 11 by omega)]
      · simp only [f_X10_shod, gz_jn, v7.gM, v7.vM fu, v7.fM fu, v7.lM fu, v7.sM fu, v7.nM fu, pn_0_1, pn_0_2, pn_0_3, pn_0_4, pn_0_5, pn_0_7, pn_0_10, pn_0_40, pn_1_4, pn_1_6, pn_1_9, Option.bind_some, pu_ii, pu_10, if_true, gz_b2, if_pos c1, vm_sd hfu v7.m (show n ≤ 11 by omega)]
    · obtain ⟨M1, M2, r1, r2, r3, hw⟩ := pu_rfw fu hI 0 (by decide) (-2) pu_k2
      refine ⟨-2, M1, M2, ?_, ?_, r3⟩
      · simp only [f_X9_shod, gz_jn, hv.gC, hv.vC fu, hv.fC fu, hv.lC fu, hv.sC fu, pu_within, pu_shelf, pu_count, Option.bind_some, pu_ii, pu_10, if_true, gz_b2, r1, if_neg hc]
      · have hv' := hv.same hw
        simp only [f_X10_shod, gz_jn, hv'.gM, hv'.vM fu, hv'.fM fu, hv'.lM fu, hv'.sM fu, hv'.nM fu, pn_0_1, pn_0_2, pn_0_3, pn_0_4, pn_0_5, pn_0_7, pn_0_10, pn_0_40, pn_1_4, pn_1_6, pn_1_9, Option.bind_some, pu_ii, pu_10, if_true, gz_b2, r2, if_neg hc]
  · obtain ⟨M1, M2, r1, r2, r3, hw⟩ := pu_rfw fu hI 0 (by decide) (-2) pu_k2
    refine ⟨-2, M1, M2, ?_, ?_, r3⟩
    · simp only [f_X9_shod, gz_jn, hz.gC, hz.vC fu, hz.fC fu, hz.lC fu, hz.sC fu, pu_within, pu_shelf, pu_count, Option.bind_some, pu_ii, pu_10, if_true, gz_b2, r1]
    · have hv' := hz.same hw
      simp only [f_X10_shod, gz_jn, hv'.gM, hv'.vM fu, hv'.fM fu, hv'.lM fu, hv'.sM fu, hv'.nM fu, pn_0_1, pn_0_2, pn_0_3, pn_0_4, pn_0_5, pn_0_7, pn_0_10, pn_0_40, pn_1_4, pn_1_6, pn_1_9, Option.bind_some, pu_ii, pu_10, if_true, gz_b2, r2]
