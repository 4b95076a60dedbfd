/-! changed -/
theorem pa_and {s l : Nat} (hs : s < 2 ^ 30) (hl : l < 31) : (nI s &&& nI (2 ^ l)) = 0 ↔ s.testBit l = false := by
  have := pn_and hs hl
  rw [pn_shl hl] at this
  exact this
theorem pa_dbl {l : Nat} (hl : l < 30) : nI (2 ^ l) <<< ((1 : Int32) &&& 31) = nI (2 ^ (l + 1)) := by
  have h : 2 ^ l * 2 ^ 1 < 2 ^ 32 := by
    have : 2 ^ l ≤ 2 ^ 29 := Nat.pow_le_pow_right (by omega) (by omega)
    omega
  rw [pk_shlN (n := 2 ^ l) ((1 : Int32) &&& 31) 1 (by decide) h, show 2 ^ l * 2 ^ 1 = 2 ^ (l + 1) from (Nat.pow_succ 2 l).symm]
theorem pa_off : ∀ o, o < 10 → ∀ s, s < 1024 → s.testBit o = true → nI s &&& (nI (2 ^ o) ^^^ (-1 : Int32)) = nI (s - 2 ^ o) := by decide +kernel
theorem pa_pow {a b : Nat} (h : a < b) : 2 ^ a < 2 ^ b := Nat.pow_lt_pow_right (by omega) h
/-- one put out, one put in -/
def sp_sw (s o j : Nat) : Nat := (s - 2 ^ o) ||| 2 ^ j
theorem sp_sw_lt {s o j n : Nat} (hs : s < 2 ^ n) (hj : j < n) : sp_sw s o j < 2 ^ n := Nat.or_lt_two_pow (Nat.lt_of_le_of_lt (Nat.sub_le _ _) hs) (pa_pow hj)
def sp_ci (V : pv_V) (s o f : Nat) : Nat → Nat
  | 0 => f
  | j + 1 => if s.testBit j = false ∧ sp_tot V (sp_sw s o j) < sp_tot V (sp_ci V s o f j) then sp_sw s o j else sp_ci V s o f j
def sp_co (V : pv_V) (s : Nat) : Nat → Nat
  | 0 => s
  | o + 1 => if s.testBit o = true then sp_ci V s o (sp_co V s o) (pv_nl V) else sp_co V s o
theorem sp_ci_lt {V : pv_V} {s o f : Nat} (hs : s < 2 ^ pv_nl V) (hf : f < 2 ^ pv_nl V) : ∀ j, j ≤ pv_nl V → sp_ci V s o f j < 2 ^ pv_nl V
  | 0, _ => hf
  | j + 1, hj => by
    have := sp_ci_lt (o := o) hs hf j (by omega)
    rw [sp_ci]
    split
    · exact sp_sw_lt hs (by omega)
    · exact this
theorem sp_co_lt {V : pv_V} {s : Nat} (hs : s < 2 ^ pv_nl V) : ∀ o, sp_co V s o < 2 ^ pv_nl V
  | 0 => hs
  | o + 1 => by
    have := sp_co_lt hs o
    rw [sp_co]
    split
    · exact sp_ci_lt hs this _ (Nat.le_refl _)
    · exact this
/-- less, or the same set -/
def sp_ls (V : pv_V) (s f : Nat) : Prop := f = s ∨ sp_tot V f < sp_tot V s
theorem sp_ci_ls {V : pv_V} {s o f : Nat} (hf : sp_ls V s f) : ∀ j, sp_ls V s (sp_ci V s o f j)
  | 0 => hf
  | j + 1 => by
    have h := sp_ci_ls (o := o) hf j
    rw [sp_ci]
    split
    · rename_i c
      right
      rcases h with h | h
      · rw [h] at c; exact c.2
      · omega
    · exact h
theorem sp_co_ls {V : pv_V} {s : Nat} : ∀ o, sp_ls V s (sp_co V s o)
  | 0 => Or.inl rfl
  | o + 1 => by
    have h := sp_co_ls (V := V) (s := s) o
    rw [sp_co]
    split
    · exact sp_ci_ls h _
    · exact h
theorem tq.c24 {T : Nat} {V : pv_V} {M : gz_M} {fu : Nat} (hfu : 5000 ≤ fu) (h : tq T V M) {s o f : Nat} (hs : s < 2 ^ pv_nl V) (ho : s.testBit o = true) (hf : f < 2 ^ pv_nl V) (j : Int32 → Option Int32) : lp_X3_bestChange_24 j M T (nI s) (nI (2 ^ o)) fu (nI f) (1 : Int32) = j (nI (sp_ci V s o f (pv_nl V))) := by
  have o2 := h.2.1.2.1
  have hp := tp_le o2
  have hge := Nat.ge_two_pow_of_testBit ho
  refine pl_nf (fun fuel i x => lp_X3_bestChange_24 j M T (nI s) (nI (2 ^ o)) fuel x (nI (2 ^ i))) j (fun i => nI (sp_ci V s o f i)) (pv_nl V) ?_ ?_ (i := 0) (fuel := fu) (Nat.zero_le _) (by omega)
  · intro fuel i hi
    have hpi := pa_pow hi
    have hl := sp_ci_lt (o := o) hs hf i (by omega)
    have hw := sp_sw_lt (o := o) hs hi
    have t1 := sp_tot_lt (set := sp_sw s o i) h.2.1
    have t2 := sp_tot_lt (set := sp_ci V s o f i) h.2.1
    have ew : (nI s - nI (2 ^ o)) ||| nI (2 ^ i) = nI (sp_sw s o i) := by rw [pk_sub hge, px_or]; rfl
    try dsimp only
    rw [lp_X3_bestChange_24]
    simp only [h.sets, Option.bind_some, if_neg (pn_nle hpi (show 2 ^ pv_nl V < 2 ^ 31 by omega)), h.1.r0, ew, h.tot hw, h.tot hl, gz_jn, pa_dbl (show i < 30 by omega)]
    rw [sp_ci]
    by_cases c1 : s.testBit i = false
    · rw [if_pos ((pa_and (by omega) (by omega)).mpr c1)]
      by_cases c2 : sp_tot V (sp_sw s o i) < sp_tot V (sp_ci V s o f i)
      · rw [if_neg (nI_ge c2 (by omega)), if_pos ⟨c1, c2⟩]
      · rw [if_pos (nI_le (by omega) (by omega)), if_neg (fun q => c2 q.2)]
    · rw [if_neg (fun q => c1 ((pa_and (by omega) (by omega)).mp q)), if_neg (fun q => c1 q.1)]
  · intro fuel
    try dsimp only
    rw [lp_X3_bestChange_24, h.sets, Option.bind_some, if_pos (pn_le (Nat.le_refl _) (by omega))]
theorem tq.bc {T : Nat} {V : pv_V} {M : gz_M} {fu : Nat} (hfu : 5000 ≤ fu) (h : tq T V M) {s : Nat} (hs : s < 2 ^ pv_nl V) : f_X3_bestChange fu M T (nI s) = some (nI (sp_co V s (pv_nl V))) := by
  have o2 := h.2.1.2.1
  have hp := tp_le o2
  unfold f_X3_bestChange
  rw [h.1.gd]
  refine pl_nf (fun fuel i x => lp_X3_bestChange_4 (fun x13 => some x13) fu M T (nI s) fuel x (nI (2 ^ i))) (fun x => some x) (fun i => nI (sp_co V s i)) (pv_nl V) ?_ ?_ (i := 0) (fuel := fu) (Nat.zero_le _) (by omega)
  · intro fuel i hi
    have hpi := pa_pow hi
    try dsimp only
    rw [lp_X3_bestChange_4]
    simp only [h.sets, Option.bind_some, if_neg (pn_nle hpi (show 2 ^ pv_nl V < 2 ^ 31 by omega)), gz_jn, pa_dbl (show i < 30 by omega)]
    rw [sp_co]
    cases c1 : s.testBit i
    · rw [if_pos ((pa_and (by omega) (by omega)).mpr c1), if_neg (by simp)]
    · rw [if_neg (fun q => by rw [(pa_and (by omega) (by omega)).mp q] at c1; cases c1), if_pos rfl, h.c24 hfu hs c1 (sp_co_lt hs i)]
  · intro fuel
    try dsimp only
    rw [lp_X3_bestChange_4, h.sets, Option.bind_some, if_pos (pn_le (Nat.le_refl _) (by omega))]
/-- better or not -/
def sp_bt (s f : Nat) : Int32 := if f = s then 0 else 1
theorem vm_c57 {mo k : Nat} {V : pv_V} {M : gz_M} {fu : Nat} (hfu : 5000 ≤ fu) (h : vy_m mo k V M) {s o f : Nat} (hs : s < 2 ^ pv_nl V) (ho : o < pv_nl V) (hf : f < 2 ^ pv_nl V) (hls : sp_ls V s f) (j : Int32 → Int32 → Int32 → Option (Int32 × gz_M)) : lp_X10_changed_57 j fu M mo (nI k) (nI s) (nI o) fu (sp_bt s f) (nI f) (nI (sp_tot V f)) (0 : Int32) = j (sp_bt s (if s.testBit o = true then sp_ci V s o f (pv_nl V) else f)) (nI (if s.testBit o = true then sp_ci V s o f (pv_nl V) else f)) (nI (sp_tot V (if s.testBit o = true then sp_ci V s o f (pv_nl V) else f))) := by
  have hok := vm_ok h
  have o2 := hok.2.1
  have hp := tp_le o2
  cases c0 : s.testBit o
  · obtain ⟨n, rfl⟩ : ∃ n, fu = n + 1 := ⟨fu - 1, by omega⟩
    rw [lp_X10_changed_57, vm_nl _ h, Option.bind_some, if_neg (show ¬ nI (pv_nl V) ≤ 0 from nI_nle (by omega) (by omega)), if_pos ((pn_bit (by omega) (by omega)).mpr c0), if_neg (by simp)]
  · rw [if_pos rfl]
    have hge := Nat.ge_two_pow_of_testBit c0
    refine pl_nf (fun fuel i x => lp_X10_changed_57 j fu M mo (nI k) (nI s) (nI o) fuel (sp_bt s x) (nI x) (nI (sp_tot V x)) (nI i)) (fun x => j (sp_bt s x) (nI x) (nI (sp_tot V x))) (fun i => sp_ci V s o f i) (pv_nl V) ?_ ?_ (i := 0) (fuel := fu) (Nat.zero_le _) (by omega)
    · intro fuel i hi
      have hl := sp_ci_lt (o := o) hs hf i (by omega)
      have hw := sp_sw_lt (o := o) hs hi
      have t1 := sp_tot_lt (set := sp_sw s o i) hok
      have t2 := sp_tot_lt (set := sp_ci V s o f i) hok
      have ew : (nI s &&& (((1 : Int32) <<< (nI o &&& 31)) ^^^ (-1 : Int32))) ||| ((1 : Int32) <<< (nI i &&& 31)) = nI (sp_sw s o i) := by rw [pn_shl (by omega), pn_shl (by omega), pa_off o (by omega) s (by omega) c0, px_or]; rfl
      have hc := sp_ci_ls (o := o) hls i
      try dsimp only
      rw [lp_X10_changed_57]
      simp only [vm_nl fu h, Option.bind_some, if_neg (pn_nle hi (show pv_nl V < 2 ^ 31 by omega)), if_neg (show ¬ ((nI s >>> (nI o &&& 31)) &&& (1 : Int32)) = 0 from fun q => by rw [(pn_bit (by omega) (by omega)).mp q] at c0; cases c0), ew, vm_tot hfu h (show sp_sw s o i < 2 ^ 20 by omega), gz_jn, pn_1]
      rw [sp_ci]
      cases c1 : s.testBit i
      · rw [if_pos ((pn_bit (by omega) (by omega)).mpr c1)]
        by_cases c2 : sp_tot V (sp_sw s o i) < sp_tot V (sp_ci V s o f i)
        · rw [if_neg (nI_ge c2 (by omega)), if_pos ⟨rfl, c2⟩]
          have : ¬ sp_sw s o i = s := fun q => by
            rw [q] at c2
            rcases hc with hc | hc
            · rw [hc] at c2; omega
            · omega
          rw [show sp_bt s (sp_sw s o i) = 1 from if_neg this]
        · rw [if_pos (nI_le (by omega) (by omega)), if_neg (fun q => c2 q.2)]
      · rw [if_neg (fun q => by rw [(pn_bit (by omega) (by omega)).mp q] at c1; cases c1), if_neg (fun q => by cases q.1)]
    · intro fuel
      try dsimp only
      rw [lp_X10_changed_57, vm_nl fu h, Option.bind_some, if_pos (pn_le (Nat.le_refl _) (by omega))]
theorem vm_c44 {mo k : Nat} {V : pv_V} {M : gz_M} {fu : Nat} (hfu : 5000 ≤ fu) (h : vy_m mo k V M) {s : Nat} (hs : s < 2 ^ pv_nl V) (j : Int32 → Int32 → Option (Int32 × gz_M)) : lp_X10_changed_44 j fu M mo (nI k) (nI s) fu (0 : Int32) (nI s) (nI (sp_tot V s)) (0 : Int32) = j (sp_bt s (sp_co V s (pv_nl V))) (nI (sp_co V s (pv_nl V))) := by
  have o2 := (vm_ok h).2.1
  have key := pl_nf (fun fuel i x => lp_X10_changed_44 j fu M mo (nI k) (nI s) fuel (sp_bt s x) (nI x) (nI (sp_tot V x)) (nI i)) (fun x => j (sp_bt s x) (nI x)) (fun i => sp_co V s i) (pv_nl V) ?_ ?_ (i := 0) (fuel := fu) (Nat.zero_le _) (by omega)
  · have e : sp_bt s (sp_co V s 0) = 0 := if_pos rfl
    simp only [e] at key
    exact key
  · intro fuel i hi
    try dsimp only
    rw [lp_X10_changed_44, vm_nl fu h, Option.bind_some, if_neg (pn_nle hi (by omega)), vm_c57 hfu h hs hi (sp_co_lt hs i) (sp_co_ls i), pn_1]
    rfl
  · intro fuel
    try dsimp only
    rw [lp_X10_changed_44, vm_nl fu h, Option.bind_some, if_pos (pn_le (Nat.le_refl _) (by omega))]
/-! no set comes twice -/
theorem fb_sm_lt {f g : Nat → Nat} {i : Nat} : ∀ {n : Nat}, (∀ k, k < n → f k ≤ g k) → i < n → f i < g i → fb_sm f n < fb_sm g n
  | 0, _, h, _ => absurd h (Nat.not_lt_zero i)
  | n + 1, h, hi, hl => by
    rw [fb_sm_succ, fb_sm_succ]
    have hn := h n (by omega)
    by_cases c : i = n
    · subst c
      have := fb_sm_le (n := i) (f := f) (g := g) (fun k hk => h k (by omega))
      omega
    · have := fb_sm_lt (n := n) (f := f) (g := g) (i := i) (fun k hk => h k (by omega)) (by omega) hl
      omega
def sp_rk (V : pv_V) (s : Nat) : Nat := fb_sm (fun t => if sp_tot V t < sp_tot V s then 1 else 0) (2 ^ pv_nl V)
theorem sp_rk_lt {V : pv_V} {s : Nat} (hs : s < 2 ^ pv_nl V) : sp_rk V s < 2 ^ pv_nl V := by
  have h := fb_sm_lt (f := fun t => if sp_tot V t < sp_tot V s then 1 else 0) (g := fun _ => 1) (i := s) (n := 2 ^ pv_nl V) (fun k _ => by (try dsimp only); split <;> omega) hs (by (try dsimp only); rw [if_neg (Nat.lt_irrefl _)]; omega)
  rw [fb_sm_const] at h
  unfold sp_rk
  omega
theorem sp_rk_dec {V : pv_V} {s t : Nat} (ht : t < 2 ^ pv_nl V) (h : sp_tot V t < sp_tot V s) : sp_rk V t < sp_rk V s := by
  refine fb_sm_lt (i := t) (fun k _ => ?_) ht ?_
  · try dsimp only
    split
    · rw [if_pos (by omega)]; exact Nat.le_refl _
    · exact Nat.zero_le _
  · try dsimp only
    rw [if_neg (Nat.lt_irrefl _), if_pos h]
    omega
theorem pl_chg {b k fu : Nat} {V : pv_V} {M : gz_M} (hfu : 5000 ≤ fu) (v7 : vb b k V M) (t7 : tq (b + 62) V M) : ∀ d s i f g, sp_rk V s ≤ d → sp_rk V s + i < 2 ^ pv_nl V → s < 2 ^ pv_nl V → d < f → d + 1 < g → ∃ r : Int32, lp_X3_changedFrom_4 (fun x5 => some x5) fu M (b + 62) f (nI s) (nI i) = some r ∧ lp_X10_changed_21 (fun x26 => some (x26, M)) fu M (b + 110) (nI k) g (nI s) (1 : Int32) = some (r, M) := by
  have hp := tp_le v7.ok.2.1
  intro d
  induction d with
  | zero =>
    intro s i f g h1 h2 hs hf hg
    obtain ⟨f, rfl⟩ : ∃ f', f = f' + 1 := ⟨f - 1, by omega⟩
    obtain ⟨g, rfl⟩ : ∃ g', g = g' + 1 + 1 := ⟨g - 2, by omega⟩
    have hlt := sp_co_lt hs (pv_nl V)
    have e : sp_co V s (pv_nl V) = s := by
      rcases sp_co_ls (V := V) (s := s) (pv_nl V) with e | e
      · exact e
      · have := sp_rk_dec hlt e; omega
    refine ⟨nI s, ?_, ?_⟩
    · rw [lp_X3_changedFrom_4, t7.sets, Option.bind_some, if_neg (pn_nle (show i < 2 ^ pv_nl V by omega) (by omega)), t7.bc hfu hs, Option.bind_some, e, if_pos rfl]
    · rw [lp_X10_changed_21, if_neg (by decide), vm_tot hfu v7.m (show s < 2 ^ 20 by omega), Option.bind_some, vm_c44 hfu v7.m hs, e, show sp_bt s s = 0 from if_pos rfl, lp_X10_changed_21, if_pos rfl]
  | succ d ih =>
    intro s i f g h1 h2 hs hf hg
    obtain ⟨f, rfl⟩ : ∃ f', f = f' + 1 := ⟨f - 1, by omega⟩
    obtain ⟨g, rfl⟩ : ∃ g', g = g' + 1 + 1 := ⟨g - 2, by omega⟩
    have hlt := sp_co_lt hs (pv_nl V)
    by_cases e : sp_co V s (pv_nl V) = s
    · refine ⟨nI s, ?_, ?_⟩
      · rw [lp_X3_changedFrom_4, t7.sets, Option.bind_some, if_neg (pn_nle (show i < 2 ^ pv_nl V by omega) (by omega)), t7.bc hfu hs, Option.bind_some, e, if_pos rfl]
      · rw [lp_X10_changed_21, if_neg (by decide), vm_tot hfu v7.m (show s < 2 ^ 20 by omega), Option.bind_some, vm_c44 hfu v7.m hs, e, show sp_bt s s = 0 from if_pos rfl, lp_X10_changed_21, if_pos rfl]
    · have hd : sp_rk V (sp_co V s (pv_nl V)) < sp_rk V s := by
        rcases sp_co_ls (V := V) (s := s) (pv_nl V) with q | q
        · exact absurd q e
        · exact sp_rk_dec hlt q
      obtain ⟨r, r1, r2⟩ := ih (sp_co V s (pv_nl V)) (i + 1) f (g + 1) (by omega) (by omega) hlt (by omega) (by omega)
      refine ⟨r, ?_, ?_⟩
      · rw [lp_X3_changedFrom_4, t7.sets, Option.bind_some, if_neg (pn_nle (show i < 2 ^ pv_nl V by omega) (by omega)), t7.bc hfu hs, Option.bind_some, if_neg (fun q => e ((nI_eq (by omega) (by omega)).mp q)), pn_1]
        exact r1
      · rw [lp_X10_changed_21, if_neg (by decide), vm_tot hfu v7.m (show s < 2 ^ 20 by omega), Option.bind_some, vm_c44 hfu v7.m hs, show sp_bt s (sp_co V s (pv_nl V)) = 1 from if_neg e]
        exact r2
theorem op_changed (b : Nat) {fu : Nat} (hfu : 5000 ≤ fu) : gz_op_changed (pi_I b) fu b (b + 110) := by
  intro M v s hI
  rcases pg_val hI v with ⟨k, V, rfl, hv⟩ | hz
  · have hok := hv.ok
    have o1 := hok.1
    have o2 := hok.2.1
    have op2 : 2 ^ pv_nl V ≤ 2 ^ 10 := Nat.pow_le_pow_right (by omega) o2
    by_cases hc : (0 ≤ s ∧ s ≤ nI (2 ^ pv_nl V) - 1)
    · have c1 := hc
      obtain ⟨s, hs, rfl⟩ := (pn_lt (by omega)).mp c1
      obtain ⟨M7, q1, v7, i7, t7⟩ := hv.fill hfu hI
      have hrk := sp_rk_lt hs
      obtain ⟨r, r1, r2⟩ := pl_chg hfu v7 t7 (sp_rk V s) s 0 fu fu (Nat.le_refl _) (by omega) hs (by omega) (by omega)
      have r1' : f_X3_changedFrom fu M7 (b + 62) (nI s) = some r := by unfold f_X3_changedFrom; rw [t7.1.gd]; exact r1
      refine ⟨r, M7, M7, ?_, ?_, i7⟩
      · simp only [f_X9_changed, gz_jn, hv.gC, hv.vC fu, hv.fC fu, hv.lC fu, hv.sC fu, pu_within, pu_shelf, pu_count, Option.bind_some, pu_ii, pu_10, if_true, gz_b2, if_pos c1, hv.p1, hv.p2, hv.p3, hv.p7, v7.p7, q1, r1']
      · simp only [f_X10_changed, gz_jn, v7.gM, v7.vM fu, v7.fM fu, v7.lM fu, v7.sM fu, v7.nM fu, pn_0_1, pn_0_2, pn_0_3, pn_0_4, pn_0_5, pn_0_7, pn_0_10, pn_0_40, pn_1_4, pn_1_6, pn_1_9, Option.bind_some, pu_ii, pu_10, if_true, gz_b2, if_pos c1, r2]
    · obtain ⟨M1, M2, r1, r2, r3, hw⟩ := pu_rfw fu hI 0 (by decide) (-2) pu_k2
      refine ⟨-2, M1, M2, ?_, ?_, r3⟩
      · simp only [f_X9_changed, gz_jn, hv.gC, hv.vC fu, hv.fC fu, hv.lC fu, hv.sC fu, pu_within, pu_shelf, pu_count, Option.bind_some, pu_ii, pu_10, if_true, gz_b2, r1, if_neg hc]
      · have hv' := hv.same hw
        simp only [f_X10_changed, gz_jn, hv'.gM, hv'.vM fu, hv'.fM fu, hv'.lM fu, hv'.sM fu, hv'.nM fu, pn_0_1, pn_0_2, pn_0_3, pn_0_4, pn_0_5, pn_0_7, pn_0_10, pn_0_40, pn_1_4, pn_1_6, pn_1_9, Option.bind_some, pu_ii, pu_10, if_true, gz_b2, r2, if_neg hc]
  · obtain ⟨M1, M2, r1, r2, r3, hw⟩ := pu_rfw fu hI 0 (by decide) (-2) pu_k2
    refine ⟨-2, M1, M2, ?_, ?_, r3⟩
    · simp only [f_X9_changed, gz_jn, hz.gC, hz.vC fu, hz.fC fu, hz.lC fu, hz.sC fu, pu_within, pu_shelf, pu_count, Option.bind_some, pu_ii, pu_10, if_true, gz_b2, r1]
    · have hv' := hz.same hw
      simp only [f_X10_changed, gz_jn, hv'.gM, hv'.vM fu, hv'.fM fu, hv'.lM fu, hv'.sM fu, hv'.nM fu, pn_0_1, pn_0_2, pn_0_3, pn_0_4, pn_0_5, pn_0_7, pn_0_10, pn_0_40, pn_1_4, pn_1_6, pn_1_9, Option.bind_some, pu_ii, pu_10, if_true, gz_b2, r2]
