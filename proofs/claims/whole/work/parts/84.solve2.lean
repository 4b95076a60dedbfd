/-! lines: the class, the choice -/
section SV2
variable {fu a b m : Nat} {V : pv_V} {N : gz_M}
theorem vc_w16 (hfu : 5000 ≤ fu) (hL : iv_L b N) (hv : vy_c a V N) (hm : m < 3) {i : Nat} (hi : i < sC V m) (hS : N.2.2.1 (b + 69) i = nI (sS V m i)) (J : Int32 → Option gz_M) : lp_X5_weigh_16 J fu N (b + 67) a (nI m) (nI i) fu (0 : Int32) (0 : Int32) = J (nI (ln_T V m i (pv_nf V))) := by
  have hV := vc_ok hv
  have o1 := hV.1
  have c12 := sC_le hV m
  obtain ⟨k1, r0, r3, r4, q0, q3, q4⟩ := ll_r hL
  have s30 := sS_le hi
  refine pl_fn (fun fuel f s => lp_X5_weigh_16 J fu N (b + 67) a (nI m) (nI i) fuel s f) J (fun f => nI (ln_T V m i f)) (pv_nf V) ?_ ?_ (fuel := fu) (by omega)
  · intro fuel f hf
    have fb := (hV.2.2.2.2.2.1 f hf).1 m hm
    have e3 : f_X7_footPart fu N a (nI f) (3 : Int32) = some (nI (pv_F V (5 * f + 3))) := vc_fp fu hv hf (m := 3) (by omega)
    have et : ln_T V m i (f + 1) = ln_T V m i f + (if pv_F V (5 * f + m) = sS V m i then pv_F V (5 * f + 3) else 0) := rfl
    try dsimp only
    rw [lp_X5_weigh_16, vc_nf hv, Option.bind_some, if_neg (pn_nle hf (by omega)), vc_fp fu hv hf (by omega), Option.bind_some, r3, Option.bind_some, pu_aI q3 (show i < 12 by omega) (by decide), hS, Option.bind_some]
    simp only [gz_jn, pn_1, e3, Option.bind_some]
    by_cases c : pv_F V (5 * f + m) = sS V m i
    · rw [if_pos (by rw [c]), et, if_pos c, nI_add]
    · have e0 : ln_T V m i (f + 1) = ln_T V m i f := et.trans ((congrArg (ln_T V m i f + ·) (if_neg c)).trans (Nat.add_zero _))
      rw [if_neg (fun q => c ((nI_eq (by omega) (by omega)).mp q)), e0]
  · intro fuel
    try dsimp only
    rw [lp_X5_weigh_16, vc_nf hv, Option.bind_some, if_pos (pn_le (Nat.le_refl _) (by omega))]
theorem vc_wg (hfu : 5000 ≤ fu) (hL : iv_L b N) (hv : vy_c a V N) (ha : a + 5 ≤ b + 61) (hm : m < 3) (h6 : N.2.2.1 (b + 67) 6 = nI (sC V m)) (hS : ∀ i, i < sC V m → N.2.2.1 (b + 69) i = nI (sS V m i)) : ∃ N', f_X5_weigh fu N (b + 67) a (nI m) = some N' ∧ pf_f (fun c => c = b + 70) N N' ∧ l_R b V m N' := by
  have hV := vc_ok hv
  have c12 := sC_le hV m
  obtain ⟨k0, -⟩ := ll_r hL
  obtain ⟨N', ⟨g1, g2⟩, g3⟩ := pl_up (σ := gz_M) (fun fuel i s => lp_X5_weigh_2 (fun M17 => some M17) fu (b + 67) a (nI m) fuel i s) (fun s => some s) (fun i s => pf_f (fun c => c = b + 70) N s ∧ ∀ i', i' < i → s.2.2.1 (b + 70) i' = nI (ln_W V m i')) (sC V m) (fun fuel i s hi hq => by
    obtain ⟨w, hq⟩ := hq
    have L1 := hL.same w.2.1 w.2.2.2.1
    have v1 : vy_c a V s := hv.fr w (fun c q1 q2 e => by omega)
    obtain ⟨k1, r0, r3, r4, q0, q3, q4⟩ := ll_r L1
    refine ⟨gz_sI s (b + 70) i (nI (ln_W V m i)), ⟨w.two rfl, fun i' hi' => ?_⟩, ?_⟩
    · rw [pu_same]
      by_cases q : i' = i
      · rw [if_pos q, q]
      · rw [if_neg q]; exact hq i' (by omega)
    · try dsimp only
      rw [lp_X5_weigh_2, pu_gI (ci := 5) 6 k1, w.2.2.2.2 _ (by omega), h6, Option.bind_some, if_neg (pn_nle hi (by omega)), vc_w16 hfu L1 v1 hm hi (by rw [w.2.2.2.2 _ (by omega)]; exact hS i hi), r4, Option.bind_some, vc_r2 v1, Option.bind_some, vc_wa v1 hm, Option.bind_some, pk_mul, pu_tI _ q4 (show i < 12 by omega) (by decide), Option.bind_some, pn_1]
      rfl) (fun fuel s hq => by
    obtain ⟨w, hq⟩ := hq
    have L1 := hL.same w.2.1 w.2.2.2.1
    obtain ⟨k1, -⟩ := ll_r L1
    try dsimp only
    rw [lp_X5_weigh_2, pu_gI (ci := 5) 6 k1, w.2.2.2.2 _ (by omega), h6, Option.bind_some, if_pos (pn_le (Nat.le_refl _) (by omega))]) (sC V m) 0 N fu (by omega) (by omega) ⟨pf_f.refl, fun i' hi => absurd hi (Nat.not_lt_zero i')⟩
  refine ⟨N', ?_, g1, hL.same g1.2.1 g1.2.2.2.1, by rw [g1.2.2.2.2 _ (by omega)]; exact h6, fun i hi => by rw [g1.2.2.2.2 _ (by omega)]; exact hS i hi, g2⟩
  unfold f_X5_weigh
  rw [pu_gd (ci := 5) k0]
  exact g3
theorem pcN_le {u v : Option Nat} (hu : ∀ x, u = some x → x ≤ 10000000) (hv : ∀ x, v = some x → x ≤ 10000000) : pcN u ≤ pcN v ↔ ¬ olt v u = true := by
  cases u with
  | none =>
    cases v with
    | none => exact ⟨fun _ => by simp [olt], fun _ => Int32.le_refl _⟩
    | some y =>
      have hy := hv y rfl
      exact ⟨fun q => absurd q (Int32.not_le.mpr (pn_mx (n := y) (by omega)).2), fun q => absurd rfl q⟩
  | some x =>
    have hx := hu x rfl
    cases v with
    | none => exact ⟨fun _ => by simp [olt], fun _ => Int32.le_of_lt (pn_mx (n := x) (by omega)).2⟩
    | some y =>
      have hy := hv y rfl
      have e : olt (some y) (some x) = decide (y < x) := rfl
      rw [e, decide_eq_true_eq]
      exact ⟨fun q => by have := (nI_leI (a := x) (b := y) (by omega) (by omega)).mp q; omega, fun q => nI_le (by omega) (by omega)⟩
abbrev lu (V : pv_V) (m p : Nat) : Nat := ln_u (sC V m) (ln_W V m) (sS V m) p
theorem vc_u (hfu : 5000 ≤ fu) (hV : pv_ok V) (hm : m < 3) (hK : 0 < sC V m) (hR : l_R b V m N) {n : Nat} (hn1 : 1 ≤ n) (hn : n ≤ 6) (hrow : ∀ k i, k ≤ n → i ≤ sC V m → N.2.2.1 (b + 72 + k) i = pcN (lL V m k i)) (h1 : N.2.2.1 (b + 67) 1 = nI 1) : ∃ N', (∀ J, lp_X5_solve_32 J (b + 67) (nI n) fu (2 : Int32) N = J N') ∧ pf_f (fun c => c = b + 67) N N' ∧ (∀ j, j ≠ 1 → N'.2.2.1 (b + 67) j = N.2.2.1 (b + 67) j) ∧ N'.2.2.1 (b + 67) 1 = nI (lu V m (n - 1)) := by
  have key : ∀ d p (N1 : gz_M), p + d = n - 1 → pf_f (fun c => c = b + 67) N N1 → (∀ j, j ≠ 1 → N1.2.2.1 (b + 67) j = N.2.2.1 (b + 67) j) → N1.2.2.1 (b + 67) 1 = nI (lu V m p) → ∃ N', (∀ J fuel, d < fuel → lp_X5_solve_32 J (b + 67) (nI n) fuel (nI (p + 2)) N1 = J N') ∧ pf_f (fun c => c = b + 67) N N' ∧ (∀ j, j ≠ 1 → N'.2.2.1 (b + 67) j = N.2.2.1 (b + 67) j) ∧ N'.2.2.1 (b + 67) 1 = nI (lu V m (n - 1)) := by
    intro d
    induction d with
    | zero =>
      intro p N1 he w hj hu
      refine ⟨N1, fun J fuel hf => ?_, w, hj, by rw [hu, show p = n - 1 by omega]⟩
      obtain ⟨g, rfl⟩ : ∃ g, fuel = g + 1 := ⟨fuel - 1, by omega⟩
      rw [lp_X5_solve_32, if_pos (nI_lt (by omega) (by omega))]
    | succ d ih =>
      intro p N1 he w hj hu
      have L1 := hR.1.same w.2.1 w.2.2.2.1
      obtain ⟨k1, -⟩ := ll_r L1
      obtain ⟨u1, u2, -⟩ := ln_u_ok (W := ln_W V m) (S := sS V m) hK p
      obtain ⟨l1, l2, l3⟩ := ll_k L1 (k := p + 2) (by omega)
      obtain ⟨-, l2', l3'⟩ := ll_k L1 (k := lu V m p) (by show ln_u _ _ _ p < 7; omega)
      have e12 : gz_aI N1 (b + 72 + (p + 2)) (0 : Int32) = some (pcN (lL V m (p + 2) 0)) := (pu_aI (i := 0) l3 (by omega) (by decide)).trans (by rw [w.2.2.2.2 _ (by omega), hrow _ _ (by omega) (by omega)])
      have e16 : gz_aI N1 (b + 72 + lu V m p) (0 : Int32) = some (pcN (lL V m (lu V m p) 0)) := (pu_aI (i := 0) l3' (by omega) (by decide)).trans (by rw [w.2.2.2.2 _ (by omega), hrow _ _ (by show ln_u _ _ _ p ≤ n; omega) (by omega)])
      have b1 : ∀ k x, lL V m k 0 = some x → x ≤ 10000000 := fun k x hx => by have := lL_le hV hm (Nat.zero_le _) hx; omega
      have pl := pcN_le (u := lL V m (lu V m p) 0) (v := lL V m (p + 2) 0) (b1 _) (b1 _)
      have eu : lu V m (p + 1) = if olt (lL V m (p + 2) 0) (lL V m (lu V m p) 0) = true then p + 2 else lu V m p := rfl
      have pre : ∀ (J : gz_M → Option gz_M) (g : Nat), lp_X5_solve_32 J (b + 67) (nI n) (g + 1) (nI (p + 2)) N1 = if pcN (lL V m (lu V m p) 0) ≤ pcN (lL V m (p + 2) 0) then lp_X5_solve_32 J (b + 67) (nI n) g (nI (p + 1 + 2)) N1 else lp_X5_solve_32 J (b + 67) (nI n) g (nI (p + 1 + 2)) (gz_sI N1 (b + 67) 1 (nI (p + 2))) := by
        intro J g
        rw [lp_X5_solve_32, if_neg (nI_nlt (by omega) (by omega)), l1, Option.bind_some, l2, Option.bind_some, e12, Option.bind_some, Option.bind_some, pu_gI (ci := 5) 1 k1, hu, Option.bind_some, l2', Option.bind_some, e16, Option.bind_some]
        simp only [gz_jn, pn_1, pu_pI (ci := 5) 1 _ k1, Option.bind_some]
      by_cases c : olt (lL V m (p + 2) 0) (lL V m (lu V m p) 0) = true
      · obtain ⟨N', g1, g2, g3, g4⟩ := ih (p + 1) (gz_sI N1 (b + 67) 1 (nI (p + 2))) (by omega) (w.two rfl) (fun j q => by rw [pv_I0 q]; exact hj j q) (by rw [pv_I9, eu, if_pos c])
        refine ⟨N', fun J fuel hf => ?_, g2, g3, g4⟩
        obtain ⟨g, rfl⟩ : ∃ g, fuel = g + 1 := ⟨fuel - 1, by omega⟩
        rw [pre, if_neg (fun q => (pl.mp q) c)]
        exact g1 J g (by omega)
      · obtain ⟨N', g1, g2, g3, g4⟩ := ih (p + 1) N1 (by omega) w hj (by rw [hu, eu, if_neg c])
        refine ⟨N', fun J fuel hf => ?_, g2, g3, g4⟩
        obtain ⟨g, rfl⟩ : ∃ g, fuel = g + 1 := ⟨fuel - 1, by omega⟩
        rw [pre, if_pos (pl.mpr c)]
        exact g1 J g (by omega)
  obtain ⟨N', g1, g2, g3, g4⟩ := key (n - 1) 0 N (by omega) pf_f.refl (fun _ _ => rfl) h1
  exact ⟨N', fun J => g1 J fu (by omega), g2, g3, g4⟩
abbrev lj (V : pv_V) (m k i : Nat) : Nat := jst (sC V m) (ln_W V m) (sS V m) k i
abbrev lg (V : pv_V) (m u t : Nat) : Nat := gI (sC V m) (ln_W V m) (sS V m) u t
theorem vc_13 (hfu : 5000 ≤ fu) (hV : pv_ok V) (hm : m < 3) (hR : l_R b V m N) {k i : Nat} (hk : k + 1 < 7) (hi : i < sC V m) (hrow : ∀ j, j ≤ sC V m → N.2.2.1 (b + 72 + k) j = pcN (lL V m k j)) (hrow2 : N.2.2.1 (b + 72 + (k + 1)) i = pcN (lL V m (k + 1) i)) (J : Int32 → Option gz_M) : lp_X5_choose_13 J fu N (b + 67) (nI i) (nI (k + 1)) fu (nI i) = J (nI (lj V m k i)) := by
  have c12 := sC_le hV m
  obtain ⟨k1, -⟩ := ll_r hR.1
  obtain ⟨l1, l2, l3⟩ := ll_k hR.1 hk
  have eK : nI (sC V m) - (1 : Int32) = nI (sC V m - 1) := pk_sub (a := sC V m) (b := 1) (by omega)
  have key : ∀ d j fuel, j + d = sC V m - 1 → i ≤ j → d < fuel → lp_X5_choose_13 J fu N (b + 67) (nI i) (nI (k + 1)) fuel (nI j) = J (nI (sk (fun j => decide (ln_c (ln_W V m) (sS V m) (lL V m k) i j ≠ lL V m (k + 1) i)) d j)) := by
    intro d
    induction d with
    | zero =>
      intro j fuel he hij hf
      obtain ⟨g, rfl⟩ : ∃ g, fuel = g + 1 := ⟨fuel - 1, by omega⟩
      rw [lp_X5_choose_13, pu_gI (ci := 5) 6 k1, hR.2.1, Option.bind_some, eK, if_pos (pn_le (by omega) (by omega))]
      rfl
    | succ d ih =>
      intro j fuel he hij hf
      obtain ⟨g, rfl⟩ : ∃ g, fuel = g + 1 := ⟨fuel - 1, by omega⟩
      have sb := vc_sb hfu hV hm hR (k := k) (i := i) (j := j) (by omega) (by omega) hij (hrow _ (by omega))
      have pe := pcN_eq (u := ln_c (ln_W V m) (sS V m) (lL V m k) i j) (v := lL V m (k + 1) i) (fun x hx => by have := lc_le hV hm (show j < sC V m by omega) hx; omega) (fun x hx => by have := lL_le hV hm (show i ≤ sC V m by omega) hx; omega)
      rw [lp_X5_choose_13, pu_gI (ci := 5) 6 k1, hR.2.1, Option.bind_some, eK, if_neg (pn_nle (by omega) (by omega)), sb, Option.bind_some, l1, Option.bind_some, l2, Option.bind_some, pu_aI l3 (show i < 13 by omega) (by decide), hrow2, Option.bind_some]
      by_cases c : ln_c (ln_W V m) (sS V m) (lL V m k) i j = lL V m (k + 1) i
      · rw [if_pos (pe.mpr c)]
        have : sk (fun j => decide (ln_c (ln_W V m) (sS V m) (lL V m k) i j ≠ lL V m (k + 1) i)) (d + 1) j = j := if_neg (by simp [c])
        rw [this]
      · rw [if_neg (fun q => c (pe.mp q)), pn_1, ih (j + 1) g (by omega) (by omega) (by omega)]
        have : sk (fun j => decide (ln_c (ln_W V m) (sS V m) (lL V m k) i j ≠ lL V m (k + 1) i)) (d + 1) j = sk (fun j => decide (ln_c (ln_W V m) (sS V m) (lL V m k) i j ≠ lL V m (k + 1) i)) d (j + 1) := if_pos (by simp [c])
        rw [this]
  exact key (sC V m - 1 - i) i fu (by omega) (Nat.le_refl _) (by omega)
theorem vc_ch (hfu : 5000 ≤ fu) (hV : pv_ok V) (hm : m < 3) (hR : l_R b V m N) {u v : Nat} (hu : u ≤ 6) (hv : lL V m u 0 = some v) (h1 : N.2.2.1 (b + 67) 1 = nI u) (hrow : ∀ k i, k ≤ u → i ≤ sC V m → N.2.2.1 (b + 72 + k) i = pcN (lL V m k i)) : ∃ N', f_X5_choose fu N (b + 67) = some N' ∧ pf_f (fun c => c = b + 68) N N' ∧ ∀ t, t < u → N'.2.2.1 (b + 68) t = nI (sS V m (lj V m (u - t - 1) (lg V m u t))) := by
  have c12 := sC_le hV m
  obtain ⟨k0, -⟩ := ll_r hR.1
  have key : ∀ k t (N1 : gz_M), t + k = u → pf_f (fun c => c = b + 68) N N1 → (∀ t', t' < t → N1.2.2.1 (b + 68) t' = nI (sS V m (lj V m (u - t' - 1) (lg V m u t')))) → ∃ N', (∀ fuel, k < fuel → lp_X5_choose_7 (fun M17 => some M17) fu (b + 67) fuel (nI (lg V m u t)) (nI k) N1 = some N') ∧ pf_f (fun c => c = b + 68) N N' ∧ ∀ t, t < u → N'.2.2.1 (b + 68) t = nI (sS V m (lj V m (u - t - 1) (lg V m u t))) := by
    intro k
    induction k with
    | zero =>
      intro t N1 he w h
      refine ⟨N1, fun fuel hf => ?_, w, fun t' ht => h t' (by omega)⟩
      obtain ⟨g, rfl⟩ : ∃ g, fuel = g + 1 := ⟨fuel - 1, by omega⟩
      rw [lp_X5_choose_7, if_pos (show nI 0 ≤ 0 by decide)]
    | succ k ih =>
      intro t N1 he w h
      have R1 : l_R b V m N1 := hR.fr w.2.1 w.2.2.2.1 (by rw [w.2.2.2.2 _ (by omega)]) (w.2.2.2.2 _ (by omega)) (w.2.2.2.2 _ (by omega))
      obtain ⟨a1, ⟨r, a2⟩, -, -⟩ := gI_ok (W := ln_W V m) (S := sS V m) hv t (by omega)
      have ek : u - t - 1 = k := by omega
      rw [show u - t = k + 1 by omega] at a2
      obtain ⟨c, j1, j2, -, -⟩ := jst_r a2
      obtain ⟨k1, r0, r3, r4, q0, q3, q4⟩ := ll_r R1.1
      have e13 := vc_13 hfu hV hm R1 (k := k) (i := lg V m u t) (by omega) c (fun j hj => by rw [w.2.2.2.2 _ (by omega)]; exact hrow k j (by omega) hj) (by rw [w.2.2.2.2 _ (by omega)]; exact hrow (k + 1) _ (by omega) a1)
      have eg : lg V m u (t + 1) = lj V m k (lg V m u t) + 1 := by rw [← ek]; rfl
      have es : nI u - nI (k + 1) = nI t := by rw [pk_sub (by omega), show u - (k + 1) = t by omega]
      obtain ⟨N', g1, g2, g3⟩ := ih (t + 1) (gz_sI N1 (b + 68) t (nI (sS V m (lj V m k (lg V m u t))))) (by omega) (w.two rfl) (fun t' ht => by
        rw [pu_same]
        by_cases q : t' = t
        · rw [if_pos q, q, ek]
        · rw [if_neg q]; exact h t' (by omega))
      refine ⟨N', fun fuel hf => ?_, g2, g3⟩
      obtain ⟨g, rfl⟩ : ∃ g, fuel = g + 1 := ⟨fuel - 1, by omega⟩
      rw [lp_X5_choose_7, if_neg (nI_nle (by omega) (by omega)), e13, r0, Option.bind_some, pu_gI (ci := 5) 1 k1, w.2.2.2.2 _ (by omega), h1, Option.bind_some, r3, Option.bind_some, pu_aI q3 (show lj V m k (lg V m u t) < 12 from Nat.lt_of_lt_of_le j2 c12) (by decide), R1.2.2.1 _ j2, Option.bind_some, es, pu_tI _ q0 (show t < 6 by omega) (by decide), Option.bind_some, pn_1, pk_m1, ← eg]
      exact g1 g (by omega)
  obtain ⟨N', g1, g2, g3⟩ := key u 0 N (by omega) pf_f.refl (fun t' ht => absurd ht (Nat.not_lt_zero t'))
  refine ⟨N', ?_, g2, g3⟩
  unfold f_X5_choose
  rw [pu_gd (ci := 5) k0, pu_gI (ci := 5) 1 k0, h1, Option.bind_some]
  exact g1 fu (by omega)
theorem vc_sv (hfu : 5000 ≤ fu) {M : gz_M} (hL : iv_L b M) (hv : vy_c a V M) (ha : a + 5 ≤ b + 61) (hm : m < 3) (hnf : 0 < pv_nf V) {n : Nat} (hn1 : 1 ≤ n) (hn : n ≤ 6) : ∃ M' v, f_X5_solve fu M (b + 67) a (nI m) (nI n) = some M' ∧ pf_f (fun c => b + 67 ≤ c ∧ c < b + 79) M M' ∧ lL V m (lu V m (n - 1)) 0 = some v ∧ M'.2.2.1 (b + 67) 1 = nI (lu V m (n - 1)) ∧ M'.2.2.1 (b + 67) 2 = nI v ∧ ∀ t, t < lu V m (n - 1) → M'.2.2.1 (b + 68) t = nI (sS V m (lj V m (lu V m (n - 1) - t - 1) (lg V m (lu V m (n - 1)) t))) := by
  have hV := vc_ok hv
  have hK := sC_pos hV hnf hm
  have c12 := sC_le hV m
  obtain ⟨k0, r0, r3, r4, q0, q3, q4⟩ := ll_r hL
  obtain ⟨M3, a1, a2, a3⟩ := vc_sz hfu hv hm q3 (by omega)
  have w4 : pf_f (fun c => b + 67 ≤ c ∧ c < b + 79) M (gz_sI M3 (b + 67) 6 (nI (sC V m))) := (a2.trans pf_f.refl (S := fun c => b + 67 ≤ c ∧ c < b + 79) (fun c q => by omega) (fun _ (q : False) => q.elim)).two (by omega)
  have L4 := hL.same w4.2.1 w4.2.2.2.1
  have v4 : vy_c a V (gz_sI M3 (b + 67) 6 (nI (sC V m))) := hv.fr w4 (fun c q1 q2 e => by omega)
  obtain ⟨M5, b1, b2, R5⟩ := vc_wg hfu L4 v4 ha hm pv_I9 (fun i hi => by rw [pv_I1 (by omega)]; exact a3 i hi)
  obtain ⟨M6, d1, d2, R6, rows6⟩ := vc_fl2 hfu hV hm R5 hn
  obtain ⟨k6, -⟩ := ll_r R6.1
  have R7 : l_R b V m (gz_sI M6 (b + 67) 1 1) := R6.fr rfl rfl (pv_I0 (by omega)) (pv_I1 (by omega)) (pv_I1 (by omega))
  obtain ⟨M19, e1, e2, e3, e4⟩ := vc_u hfu hV hm hK R7 hn1 hn (fun k i hk hi => by rw [pv_I1 (by omega)]; exact rows6 k i hk hi) pv_I9
  have R19 : l_R b V m M19 := R7.fr e2.2.1 e2.2.2.2.1 (e3 6 (by omega)) (e2.2.2.2.2 _ (by omega)) (e2.2.2.2.2 _ (by omega))
  obtain ⟨u1, u2, v, u3, -, -⟩ := ln_u_ok (W := ln_W V m) (S := sS V m) hK (n - 1)
  have u3' : lL V m (lu V m (n - 1)) 0 = some v := u3
  have hu6 : lu V m (n - 1) ≤ 6 := by show ln_u _ _ _ (n - 1) ≤ 6; omega
  have hun : lu V m (n - 1) ≤ n := by show ln_u _ _ _ (n - 1) ≤ n; omega
  obtain ⟨k19, -⟩ := ll_r R19.1
  obtain ⟨l1, l2, l3⟩ := ll_k R19.1 (k := lu V m (n - 1)) (by omega)
  have rows19 : ∀ k i, k ≤ n → i ≤ sC V m → M19.2.2.1 (b + 72 + k) i = pcN (lL V m k i) := fun k i hk hi => by rw [e2.2.2.2.2 _ (by omega), pv_I1 (by omega)]; exact rows6 k i hk hi
  have x23 : gz_aI M19 (b + 72 + lu V m (n - 1)) (0 : Int32) = some (nI v) := (pu_aI (i := 0) l3 (by omega) (by decide)).trans (by rw [rows19 _ _ hun (by omega), u3']; rfl)
  have R24 : l_R b V m (gz_sI M19 (b + 67) 2 (nI v)) := R19.fr rfl rfl (pv_I0 (by omega)) (pv_I1 (by omega)) (pv_I1 (by omega))
  obtain ⟨M25, f1, f2, f3⟩ := vc_ch hfu hV hm R24 hu6 u3' ((pv_I0 (by omega)).trans e4) (fun k i hk hi => by rw [pv_I1 (by omega)]; exact rows19 k i (by omega) hi)
  have w5 : pf_f (fun c => b + 67 ≤ c ∧ c < b + 79) M M5 := w4.trans b2 (fun _ q => q) (fun c q => by omega)
  have w7 : pf_f (fun c => b + 67 ≤ c ∧ c < b + 79) M (gz_sI M6 (b + 67) 1 1) := (w5.trans d2 (S := fun c => b + 67 ≤ c ∧ c < b + 79) (fun _ q => q) (fun c q => by unfold l_F at q; omega)).two (by omega)
  have w24 : pf_f (fun c => b + 67 ≤ c ∧ c < b + 79) M (gz_sI M19 (b + 67) 2 (nI v)) := (w7.trans e2 (S := fun c => b + 67 ≤ c ∧ c < b + 79) (fun _ q => q) (fun c q => by omega)).two (by omega)
  have k3 : M3.2.1 (b + 67) = (6, 0) := by rw [a2.2.1]; exact k0
  refine ⟨M25, v, ?_, w24.trans f2 (fun _ q => q) (fun c q => by omega), u3', ?_, ?_, f3⟩
  · unfold f_X5_solve
    rw [pu_gd (ci := 5) k0, r3, Option.bind_some, a1, pu_b2, pu_pI (ci := 5) 6 _ k3, Option.bind_some, b1, Option.bind_some, d1, Option.bind_some, pu_pI (ci := 5) 1 _ k6, Option.bind_some, e1, l1, Option.bind_some, pu_gI (ci := 5) 1 k19, e4, Option.bind_some, l2, Option.bind_some, x23, Option.bind_some, pu_pI (ci := 5) 2 _ k19, Option.bind_some, f1, Option.bind_some]
  · rw [f2.2.2.2.2 _ (by omega), pv_I0 (by omega)]; exact e4
  · rw [f2.2.2.2.2 _ (by omega)]; exact pv_I9
end SV2
