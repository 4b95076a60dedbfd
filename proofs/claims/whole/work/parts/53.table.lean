/-! loops with a natural index -/
theorem pl_n {σ β : Type} (lp : Nat → Nat → σ → Option β) (cont : σ → Option β) (P : Nat → σ → Prop) (n : Nat) (hs : ∀ fuel i s, i < n → P i s → ∃ s', P (i + 1) s' ∧ lp (fuel + 1) i s = lp fuel (i + 1) s') (he : ∀ fuel s, P n s → lp (fuel + 1) n s = cont s) : ∀ d i s fuel, i + d = n → d < fuel → P i s → ∃ s', P n s' ∧ lp fuel i s = cont s'
  | 0, i, s, fuel, h, hf, hp => by
    obtain ⟨f, rfl⟩ : ∃ f, fuel = f + 1 := ⟨fuel - 1, by omega⟩
    obtain rfl : i = n := by omega
    exact ⟨s, hp, he f s hp⟩
  | d + 1, i, s, fuel, h, hf, hp => by
    obtain ⟨f, rfl⟩ : ∃ f, fuel = f + 1 := ⟨fuel - 1, by omega⟩
    obtain ⟨s', h1, h2⟩ := hs f i s (by omega) hp
    obtain ⟨s2, h3, h4⟩ := pl_n lp cont P n hs he d (i + 1) s' f (by omega) (by omega) h1
    exact ⟨s2, h3, h2.trans h4⟩
/-- the same, the state after i rounds told by a function -/
theorem pl_nf {σ β : Type} (lp : Nat → Nat → σ → Option β) (cont : σ → Option β) (S : Nat → σ) (n : Nat) (hs : ∀ fuel i, i < n → lp (fuel + 1) i (S i) = lp fuel (i + 1) (S (i + 1))) (he : ∀ fuel, lp (fuel + 1) n (S n) = cont (S n)) {i fuel : Nat} (hi : i ≤ n) (hf : n - i < fuel) : lp fuel i (S i) = cont (S n) := by
  obtain ⟨s', h1, h2⟩ := pl_n lp cont (fun i s => s = S i) n (fun f i s hi hp => ⟨S (i + 1), rfl, by rw [hp]; exact hs f i hi⟩) (fun f s hp => by rw [hp]; exact he f) (n - i) i (S i) fuel (by omega) hf rfl
  rw [h2, h1]
/-! the table at T: totals, missed, worst, least, sets -/
def t_l (T : Nat) (M : gz_M) : Prop := M.2.1 T = (4, 0) ∧ M.2.1 (T + 1) = (20, 1024) ∧ M.2.1 (T + 2) = (20, 1024) ∧ M.2.1 (T + 3) = (20, 1024) ∧ M.2.1 (T + 4) = (20, 1024) ∧ M.2.2.2.2 T 0 = some (T + 1) ∧ M.2.2.2.2 T 1 = some (T + 2) ∧ M.2.2.2.2 T 2 = some (T + 3) ∧ M.2.2.2.2 T 3 = some (T + 4)
def t_P (T : Nat) (c : Nat) : Prop := T ≤ c ∧ c < T + 5
theorem t_l.same {T : Nat} {M M' : gz_M} (h : t_l T M) (h0 : M'.2.1 = M.2.1) (h3 : M'.2.2.2.2 = M.2.2.2.2) : t_l T M' := by unfold t_l; rw [h0, h3]; exact h
theorem t_mk {b : Nat} {M : gz_M} (h : iv_L b M) : t_l (b + 62) M := ⟨h.1 62 _ rfl, h.1 63 _ rfl, h.1 64 _ rfl, h.1 65 _ rfl, h.1 66 _ rfl, h.2 62 0 63 (by decide), h.2 62 1 64 (by decide), h.2 62 2 65 (by decide), h.2 62 3 66 (by decide)⟩
section TL
variable {T : Nat} {M : gz_M}
theorem t_l.gd {α : Type} {o : Option α} (h : t_l T M) : gz_gd M 3 T o = o := pu_gd (ci := 3) h.1
theorem t_l.r0 (h : t_l T M) : gz_gR M 3 0 T = some (T + 1) := pu_gR (ci := 3) h.1 h.2.2.2.2.2.1
theorem t_l.r1 (h : t_l T M) : gz_gR M 3 1 T = some (T + 2) := pu_gR (ci := 3) h.1 h.2.2.2.2.2.2.1
theorem t_l.r2 (h : t_l T M) : gz_gR M 3 2 T = some (T + 3) := pu_gR (ci := 3) h.1 h.2.2.2.2.2.2.2.1
theorem t_l.r3 (h : t_l T M) : gz_gR M 3 3 T = some (T + 4) := pu_gR (ci := 3) h.1 h.2.2.2.2.2.2.2.2
theorem t_l.g4 (h : t_l T M) : gz_gI M 3 4 T = some (M.2.2.1 T 4) := pu_gI (ci := 3) 4 h.1
theorem t_l.a0 (h : t_l T M) {i : Nat} (hi : i < 1024) : gz_aI M (T + 1) (nI i) = some (M.2.2.1 (T + 1) i) := pu_aI h.2.1 hi (by omega)
theorem t_l.a1 (h : t_l T M) {i : Nat} (hi : i < 1024) : gz_aI M (T + 2) (nI i) = some (M.2.2.1 (T + 2) i) := pu_aI h.2.2.1 hi (by omega)
theorem t_l.a2 (h : t_l T M) {i : Nat} (hi : i < 1024) : gz_aI M (T + 3) (nI i) = some (M.2.2.1 (T + 3) i) := pu_aI h.2.2.2.1 hi (by omega)
theorem t_l.a3 (h : t_l T M) {i : Nat} (hi : i < 1024) : gz_aI M (T + 4) (nI i) = some (M.2.2.1 (T + 4) i) := pu_aI h.2.2.2.2.1 hi (by omega)
theorem t_l.t0 (h : t_l T M) {i : Nat} (hi : i < 1024) (v : Int32) : gz_tI M (T + 1) (nI i) v = some (gz_sI M (T + 1) i v) := pu_tI v h.2.1 hi (by omega)
theorem t_l.t1 (h : t_l T M) {i : Nat} (hi : i < 1024) (v : Int32) : gz_tI M (T + 2) (nI i) v = some (gz_sI M (T + 2) i v) := pu_tI v h.2.2.1 hi (by omega)
theorem t_l.t2 (h : t_l T M) {i : Nat} (hi : i < 1024) (v : Int32) : gz_tI M (T + 3) (nI i) v = some (gz_sI M (T + 3) i v) := pu_tI v h.2.2.2.1 hi (by omega)
theorem t_l.t3 (h : t_l T M) {i : Nat} (hi : i < 1024) (v : Int32) : gz_tI M (T + 4) (nI i) v = some (gz_sI M (T + 4) i v) := pu_tI v h.2.2.2.2.1 hi (by omega)
end TL
/-- a valley elsewhere stays -/
theorem vy_c.fr {a : Nat} {V : pv_V} {M M' : gz_M} {P : Nat → Prop} (h : vy_c a V M) (w : pf_f P M M') (hp : ∀ c, a ≤ c → c < a + 5 → ¬ P c) : vy_c a V M' := (h.l.same w.2.1 w.2.2.2.1).y h.2.1 (h.2.2.same (fun c q1 q2 => w.2.2.2.2 c (hp c q1 q2)))
theorem vy_m.fr {mo k : Nat} {V : pv_V} {M M' : gz_M} {P : Nat → Prop} (h : vy_m mo k V M) (w : pf_f P M M') (hp : ∀ c, mo + 20 ≤ c → c < mo + 37 → ¬ P c) : vy_m mo k V M' := (h.l.same w.2.1 w.2.2.2.1).y h.2.2.1 (h.2.2.2.same (w.2.2.2.2 _ (hp _ (by omega) (by have := h.2.1; omega))) (w.2.2.2.2 _ (hp _ (by omega) (by have := h.2.1; omega))) (w.2.2.2.2 _ (hp _ (by omega) (by have := h.2.1; omega))))
theorem pIo.l {T c off n : Nat} {g : Nat → Int32} {M M' : gz_M} (h : pIo c off g M n M') (hl : t_l T M) : t_l T M' := hl.same h.2.1 h.2.2.2.1
theorem tp_le {i : Nat} (h : i ≤ 10) : 2 ^ i ≤ 1024 := Nat.pow_le_pow_right (n := 2) (by omega) h
/-! Arrays.fill of a part -/
theorem pu_fillI {fu : Nat} (hfu : 5000 ≤ fu) {c n z : Nat} {M : gz_M} (h : M.2.1 c = (20, z)) (hn : n ≤ z) (hz : z ≤ 1024) (v : Int32) : ∃ M', f_J7_fill_fda19 fu M c (0 : Int32) (nI n) v = some M' ∧ pIo c 0 (fun _ => v) M n M' := by
  unfold f_J7_fill_fda19
  rw [pu_ln h (by omega), Option.bind_some]
  have e : f_J7_rangeCheck_23922 fu M (nI z) (0 : Int32) (nI n) = some () := by
    unfold f_J7_rangeCheck_23922
    rw [if_pos (nI_pos' (by omega)), if_pos (by decide), if_pos (nI_le hn (by omega))]
  rw [e, Option.bind_some]
  obtain ⟨M', h1, h2⟩ := pl_up (σ := gz_M) (fun fuel i s => lp_J7_fill_fda19_10 (fun (M5 : gz_M) => some M5) c (nI n) v fuel i s) (fun s => some s) (fun i s => pIo c 0 (fun _ => v) M i s) n (fun fuel i s hi hp => by
    refine ⟨gz_sI s c (0 + i) v, hp.step, ?_⟩
    show lp_J7_fill_fda19_10 _ _ _ _ (fuel + 1) (nI i) s = _
    rw [lp_J7_fill_fda19_10, if_neg (pn_nle hi (by omega)), pu_tI v (show s.2.1 c = (20, z) by rw [hp.2.1]; exact h) (by omega) (by omega), Option.bind_some, pn_1, Nat.zero_add]) (fun fuel s hp => by
    show lp_J7_fill_fda19_10 _ _ _ _ (fuel + 1) (nI n) s = _
    rw [lp_J7_fill_fda19_10, if_pos (pn_le (Nat.le_refl _) (by omega))]) n 0 M fu (by omega) (by omega) pIo.zero
  exact ⟨M', h2, h1⟩
/-! the doubling loops -/
theorem st_58 {fu : Nat} (hfu : 5000 ≤ fu) {T i : Nat} {M : gz_M} (h : t_l T M) (hi : i ≤ 9) (x : Int32) (j : gz_M → Option gz_M) : ∃ M', pIo (T + 1) (2 ^ i) (fun r => M.2.2.1 (T + 1) r + x) M (2 ^ i) M' ∧ lp_X3_startWithPrices_58 j T (nI i) x fu (0 : Int32) M = j M' := by
  have hp : 2 ^ i ≤ 512 := Nat.pow_le_pow_right (n := 2) (by omega) hi
  exact pl_up (σ := gz_M) (fun fuel r s => lp_X3_startWithPrices_58 j T (nI i) x fuel r s) j (fun r s => pIo (T + 1) (2 ^ i) (fun r => M.2.2.1 (T + 1) r + x) M r s) (2 ^ i) (fun fuel r s hr q => by
    refine ⟨_, q.step, ?_⟩
    have e : s.2.2.1 (T + 1) r = M.2.2.1 (T + 1) r := by rw [q.2.2.2.2.2, if_neg (by omega)]
    try dsimp only
    rw [lp_X3_startWithPrices_58, pn_shl (by omega), if_neg (pn_nle hr (by omega)), (q.l h).r0, Option.bind_some, Option.bind_some, (q.l h).a0 (by omega), Option.bind_some, nI_add, (q.l h).t0 (by omega), Option.bind_some, pn_1, e]) (fun fuel s q => by
    try dsimp only
    rw [lp_X3_startWithPrices_58, pn_shl (by omega), if_pos (pn_le (Nat.le_refl _) (by omega))]) (2 ^ i) 0 M fu (by omega) (by omega) pIo.zero
theorem fl_49 {fu : Nat} (hfu : 5000 ≤ fu) {T i : Nat} {M : gz_M} (h : t_l T M) (hi : i ≤ 9) (x : Int32) (j : gz_M → Option gz_M) : ∃ M', pIo (T + 4) (2 ^ i) (fun r => if x < M.2.2.1 (T + 4) r then x else M.2.2.1 (T + 4) r) M (2 ^ i) M' ∧ lp_X3_fillLeast_49 j T (nI i) x fu (0 : Int32) M = j M' := by
  have hp : 2 ^ i ≤ 512 := Nat.pow_le_pow_right (n := 2) (by omega) hi
  exact pl_up (σ := gz_M) (fun fuel r s => lp_X3_fillLeast_49 j T (nI i) x fuel r s) j (fun r s => pIo (T + 4) (2 ^ i) (fun r => if x < M.2.2.1 (T + 4) r then x else M.2.2.1 (T + 4) r) M r s) (2 ^ i) (fun fuel r s hr q => by
    refine ⟨_, q.step, ?_⟩
    have e : s.2.2.1 (T + 4) r = M.2.2.1 (T + 4) r := by rw [q.2.2.2.2.2, if_neg (by omega)]
    try dsimp only
    rw [lp_X3_fillLeast_49, pn_shl (by omega), if_neg (pn_nle hr (by omega)), (q.l h).r3, Option.bind_some, Option.bind_some, (q.l h).a3 (by omega), Option.bind_some, nI_add, (q.l h).t3 (by omega), Option.bind_some, pn_1, e]) (fun fuel s q => by
    try dsimp only
    rw [lp_X3_fillLeast_49, pn_shl (by omega), if_pos (pn_le (Nat.le_refl _) (by omega))]) (2 ^ i) 0 M fu (by omega) (by omega) pIo.zero
/-! bits of a set -/
theorem tb_hi {i s : Nat} (h : s < 2 ^ i) : (2 ^ i + s).testBit i = true := by
  rw [Nat.testBit_two_pow_add_eq]
  rw [Nat.testBit_lt_two_pow h]
  rfl
theorem tb_lo {i s l : Nat} (hl : l < i) : (2 ^ i + s).testBit l = s.testBit l := Nat.testBit_two_pow_add_gt hl s
theorem sp_pr_cong {V : pv_V} {s t : Nat} : ∀ {n : Nat}, (∀ l, l < n → s.testBit l = t.testBit l) → sp_pr V s n = sp_pr V t n := fun h => fb_sm_cong (fun l hl => by rw [h l hl])
theorem sp_own_cong {V W : pv_V} {f s t : Nat} : ∀ {n : Nat}, (∀ l, l < n → s.testBit l = t.testBit l) → sp_own V W f s n = sp_own V W f t n
  | 0, _ => rfl
  | n + 1, h => by rw [sp_own, sp_own, sp_own_cong (fun l hl => h l (by omega)), h n (by omega)]
theorem sp_pr_s (V : pv_V) (s i : Nat) : sp_pr V s (i + 1) = sp_pr V s i + (if s.testBit i then pv_L V (4 * i + 3) else 0) := rfl
theorem sp_pr_0 {V : pv_V} {s i : Nat} (h : s < 2 ^ i) : sp_pr V s (i + 1) = sp_pr V s i := by rw [sp_pr_s, Nat.testBit_lt_two_pow h]; rfl
theorem sp_pr_1 {V : pv_V} {s i : Nat} (h : s < 2 ^ i) : sp_pr V (2 ^ i + s) (i + 1) = sp_pr V s i + pv_L V (4 * i + 3) := by rw [sp_pr_s, tb_hi h, if_pos rfl, sp_pr_cong (s := 2 ^ i + s) (t := s) (fun l hl => tb_lo hl)]
theorem sp_own_0 {V W : pv_V} {f s i : Nat} (h : s < 2 ^ i) : sp_own V W f s (i + 1) = sp_own V W f s i := by rw [sp_own, Nat.testBit_lt_two_pow h]; exact sa_n _ _
theorem sp_own_1 {V W : pv_V} {f s i : Nat} (h : s < 2 ^ i) : sp_own V W f (2 ^ i + s) (i + 1) = sp_add (sp_own V W f s i) i (sp_bad V W i f) := by rw [sp_own, tb_hi h, if_pos rfl, sp_own_cong (s := 2 ^ i + s) (t := s) (fun l hl => tb_lo hl)]
def pc_nv1 (x : Option Nat) : Int32 := if pc_o x = -1 then 2147483647 else pc_o x
theorem pc_nadd {o : Option (Nat × Nat)} {k : Nat} {x : Option Nat} (ho : ∀ i y, o = some (i, y) → y ≤ 810) (hx : ∀ y, x = some y → y ≤ 810) : (if pc_nv1 x < pc_n o then pc_nv1 x else pc_n o) = pc_n (sp_add o k x) := by
  cases x with
  | none =>
    have e : pc_nv1 none = 2147483647 := rfl
    rw [e, sa_n]
    cases o with
    | none => rfl
    | some p =>
      obtain ⟨i, y⟩ := p
      have := ho i y rfl
      rw [pc_n1, if_neg (fun q => by have := (pn_mx (n := y) (by omega)).2; rw [fa_lt] at q this; omega)]
  | some y =>
    have hy := hx y rfl
    have e : pc_nv1 (some y) = nI y := by unfold pc_nv1; rw [pc_some, if_neg (pn_neg (n := y) (by omega))]
    rw [e]
    cases o with
    | none => rw [sa_0, pc_n0, pc_n1, if_pos (pn_mx (n := y) (by omega)).2]
    | some p =>
      obtain ⟨i, z⟩ := p
      have := ho i z rfl
      rw [sa_1, pc_n1]
      by_cases c : y < z
      · rw [if_pos c, if_pos (nI_lt c (by omega)), pc_n1]
      · rw [if_neg c, if_neg (nI_nlt (by omega) (by omega)), pc_n1]
/-! prices, and the least badness of every set -/
theorem vc_sp {fu : Nat} (hfu : 5000 ≤ fu) {T a : Nat} {V : pv_V} {M : gz_M} (h : t_l T M) (hv : vy_c a V M) (hd : a + 5 ≤ T ∨ T + 5 ≤ a) (hs : M.2.2.1 T 4 = nI (2 ^ pv_nl V)) : ∃ M', f_X3_startWithPrices fu M T a = some M' ∧ pf_f (t_P T) M M' ∧ M'.2.2.1 T = M.2.2.1 T ∧ ∀ s, s < 2 ^ pv_nl V → M'.2.2.1 (T + 1) s = nI (sp_pr V s (pv_nl V)) ∧ M'.2.2.1 (T + 2) s = 0 ∧ M'.2.2.1 (T + 3) s = 0 := by
  have o2 := (vc_ok hv).2.1
  have hp := tp_le o2
  obtain ⟨M1, p1, q1⟩ := pu_fillI hfu (c := T + 2) (n := 2 ^ pv_nl V) h.2.2.1 hp (by omega) 0
  have l1 := q1.l h
  obtain ⟨M2, p2, q2⟩ := pu_fillI hfu (c := T + 3) (n := 2 ^ pv_nl V) l1.2.2.2.1 hp (by omega) 0
  have l2 := q2.l l1
  have w2 : pf_f (t_P T) M M2 := (q1.f (P := t_P T) (by unfold t_P; omega)).trans (q2.f (P := t_P T) (by unfold t_P; omega)) (fun _ q => q) (fun _ q => q)
  have w3 : pf_f (t_P T) M (gz_sI M2 (T + 1) 0 0) := w2.two (by unfold t_P; omega)
  have s1 : M1.2.2.1 T 4 = nI (2 ^ pv_nl V) := by rw [q1.2.2.2.2.1 T (by omega)]; exact hs
  unfold f_X3_startWithPrices
  rw [h.gd, h.r1, Option.bind_some, h.g4, hs, Option.bind_some, p1, Option.bind_some, l1.r2, Option.bind_some, l1.g4, s1, Option.bind_some, p2, Option.bind_some, l2.r0, Option.bind_some, show gz_tI M2 (T + 1) (0 : Int32) 0 = _ from l2.t0 (i := 0) (by omega) 0, Option.bind_some]
  obtain ⟨M', ⟨g1, g2, g3⟩, g4⟩ := pl_up (σ := gz_M) (fun fuel i s => lp_X3_startWithPrices_35 (fun M20 => some M20) fu T a fuel i s) (fun s => some s) (fun i s => pf_f (t_P T) M s ∧ (∀ c, c ≠ T + 1 → s.2.2.1 c = M2.2.2.1 c) ∧ ∀ r, r < 2 ^ i → s.2.2.1 (T + 1) r = nI (sp_pr V r i)) (pv_nl V) (fun fuel i s hi hq => by
    obtain ⟨w, z1, z2⟩ := hq
    have vs := hv.fr w (fun c c1 c2 => by unfold t_P; omega)
    have ls : t_l T s := h.same w.2.1 w.2.2.2.1
    have e3 : f_X7_lastPart fu s a (nI i) (3 : Int32) = some (nI (pv_L V (4 * i + 3))) := vc_lp fu vs hi (m := 3) (by omega)
    obtain ⟨N, n1, n2⟩ := st_58 hfu ls (i := i) (by omega) (nI (pv_L V (4 * i + 3))) (fun (M19 : gz_M) => lp_X3_startWithPrices_35 (fun M20 => some M20) fu T a fuel (nI i + (1 : Int32)) M19)
    refine ⟨N, ⟨w.trans (n1.f (P := t_P T) (by unfold t_P; omega)) (fun _ q => q) (fun _ q => q), fun c hc => (n1.2.2.2.2.1 c hc).trans (z1 c hc), fun r hr => ?_⟩, ?_⟩
    · rw [n1.2.2.2.2.2]
      rw [Nat.pow_succ] at hr
      by_cases c : 2 ^ i ≤ r ∧ r < 2 ^ i + 2 ^ i
      · rw [if_pos c]
        dsimp only
        rw [z2 _ (by omega), nI_add, ← sp_pr_1 (by omega), show 2 ^ i + (r - 2 ^ i) = r by omega]
      · rw [if_neg c, z2 _ (by omega), sp_pr_0 (by omega)]
    · try dsimp only
      rw [lp_X3_startWithPrices_35, vc_nl vs, Option.bind_some, if_neg (pn_nle hi (by omega)), e3, Option.bind_some, n2, pn_1]) (fun fuel s hq => by
    obtain ⟨w, z1, z2⟩ := hq
    have vs := hv.fr w (fun c c1 c2 => by unfold t_P; omega)
    try dsimp only
    rw [lp_X3_startWithPrices_35, vc_nl vs, Option.bind_some, if_pos (pn_le (Nat.le_refl _) (by omega))]) (pv_nl V) 0 (gz_sI M2 (T + 1) 0 0) fu (by omega) (by omega) ⟨w3, fun c hc => pv_I1 hc, fun r hr => by
      have : r = 0 := by omega
      subst this
      rw [pv_I9]; rfl⟩
  refine ⟨M', g4, g1, ?_, fun s hs => ⟨g3 s hs, ?_, ?_⟩⟩
  · rw [g2 T (by omega), q2.2.2.2.2.1 T (by omega), q1.2.2.2.2.1 T (by omega)]
  · rw [g2 _ (by omega), q2.2.2.2.2.1 _ (by omega), q1.2.2.2.2.2, if_pos (by omega)]
  · rw [g2 _ (by omega), q2.2.2.2.2.2, if_pos (by omega)]
theorem vc_fl {fu : Nat} (hfu : 5000 ≤ fu) {T a f : Nat} {V : pv_V} {M : gz_M} (h : t_l T M) (hv : vy_c a V M) (hd : a + 5 ≤ T ∨ T + 5 ≤ a) (hf : f < pv_nf V) : ∃ M', f_X3_fillLeast fu M T a (nI f) = some M' ∧ pf_f (fun c => c = T + 4) M M' ∧ ∀ s, s < 2 ^ pv_nl V → M'.2.2.1 (T + 4) s = pc_n (sp_own V V f s (pv_nl V)) := by
  have hok := vc_ok hv
  have o2 := hok.2.1
  have hp := tp_le o2
  unfold f_X3_fillLeast
  rw [h.gd, h.r3, Option.bind_some, show gz_tI M (T + 4) (0 : Int32) 2147483647 = _ from h.t3 (i := 0) (by omega) 2147483647, Option.bind_some]
  obtain ⟨M', ⟨g1, g3⟩, g4⟩ := pl_up (σ := gz_M) (fun fuel i s => lp_X3_fillLeast_10 (fun M15 => some M15) fu T a (nI f) fuel i s) (fun s => some s) (fun i s => pf_f (fun c => c = T + 4) M s ∧ ∀ r, r < 2 ^ i → s.2.2.1 (T + 4) r = pc_n (sp_own V V f r i)) (pv_nl V) (fun fuel i s hi hq => by
    obtain ⟨w, z2⟩ := hq
    have vs := hv.fr w (fun c c1 c2 => by omega)
    have ls : t_l T s := h.same w.2.1 w.2.2.2.1
    obtain ⟨N, n1, n2⟩ := fl_49 hfu ls (i := i) (by omega) (pc_nv1 (sp_bad V V i f)) (fun (M14 : gz_M) => lp_X3_fillLeast_10 (fun M15 => some M15) fu T a (nI f) fuel (nI i + (1 : Int32)) M14)
    refine ⟨N, ⟨w.trans (n1.f (P := fun c => c = T + 4) rfl) (fun _ q => q) (fun _ q => q), fun r hr => ?_⟩, ?_⟩
    · rw [n1.2.2.2.2.2]
      rw [Nat.pow_succ] at hr
      by_cases c : 2 ^ i ≤ r ∧ r < 2 ^ i + 2 ^ i
      · rw [if_pos c]
        dsimp only
        rw [z2 _ (by omega), pc_nadd (k := i) (fun j y e => (sp_own_ok hok _ j y e).2.1) (fun y e => sp_bad_le hok e), ← sp_own_1 (by omega), show 2 ^ i + (r - 2 ^ i) = r by omega]
      · rw [if_neg c, z2 _ (by omega), sp_own_0 (by omega)]
    · try dsimp only
      rw [lp_X3_fillLeast_10, vc_nl vs, Option.bind_some, if_neg (pn_nle hi (by omega)), vc_bf fu vs hf hi, Option.bind_some]
      simp only [gz_jn]
      unfold pc_nv1 at n2
      by_cases c : pc_o (sp_bad V V i f) = -1
      · rw [if_pos c] at n2 ⊢
        rw [n2, pn_1]
      · rw [if_neg c] at n2 ⊢
        rw [n2, pn_1]) (fun fuel s hq => by
    obtain ⟨w, z2⟩ := hq
    have vs := hv.fr w (fun c c1 c2 => by omega)
    try dsimp only
    rw [lp_X3_fillLeast_10, vc_nl vs, Option.bind_some, if_pos (pn_le (Nat.le_refl _) (by omega))]) (pv_nl V) 0 (gz_sI M (T + 4) 0 2147483647) fu (by omega) (by omega) ⟨pf_f.one rfl, fun r hr => by
      have : r = 0 := by omega
      subst this
      rw [pv_I9]; rfl⟩
  exact ⟨M', g4, g1, g3⟩
