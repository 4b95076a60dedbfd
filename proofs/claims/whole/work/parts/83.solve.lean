/-! lines: the class -/
theorem ly_l1 : ∀ k, k < 7 → (71, k, 72 + k) ∈ iv_RC ∧ iv_KC[72 + k]? = some (20, 13) := by decide +kernel
theorem ll_k {b k : Nat} {M : gz_M} (h : iv_L b M) (hk : k < 7) : gz_gR M 5 5 (b + 67) = some (b + 71) ∧ gz_aR M (b + 71) (nI k) = some (b + 72 + k) ∧ M.2.1 (b + 72 + k) = (20, 13) := by
  obtain ⟨q1, q2⟩ := ly_l1 k hk
  have e1 := h.2 _ _ _ q1
  have e2 := h.1 _ _ q2
  rw [← Nat.add_assoc] at e1 e2
  exact ⟨pu_gR (ci := 5) (h.1 67 _ rfl) (h.2 67 5 71 (by decide)), pu_aR (h.1 71 _ rfl) (by decide) hk (by decide) e1, e2⟩
theorem ll_r {b : Nat} {M : gz_M} (h : iv_L b M) : M.2.1 (b + 67) = (6, 0) ∧ gz_gR M 5 0 (b + 67) = some (b + 68) ∧ gz_gR M 5 3 (b + 67) = some (b + 69) ∧ gz_gR M 5 4 (b + 67) = some (b + 70) ∧ M.2.1 (b + 68) = (20, 6) ∧ M.2.1 (b + 69) = (20, 12) ∧ M.2.1 (b + 70) = (20, 12) :=
  ⟨h.1 67 _ rfl, pu_gR (ci := 5) (h.1 67 _ rfl) (h.2 67 0 68 (by decide)), pu_gR (ci := 5) (h.1 67 _ rfl) (h.2 67 3 69 (by decide)), pu_gR (ci := 5) (h.1 67 _ rfl) (h.2 67 4 70 (by decide)), h.1 68 _ rfl, h.1 69 _ rfl, h.1 70 _ rfl⟩
abbrev lL (V : pv_V) (m : Nat) : Nat → Nat → Option Nat := ln_L (sC V m) (ln_W V m) (sS V m)
def l_R (b : Nat) (V : pv_V) (m : Nat) (N : gz_M) : Prop := iv_L b N ∧ N.2.2.1 (b + 67) 6 = nI (sC V m) ∧ (∀ i, i < sC V m → N.2.2.1 (b + 69) i = nI (sS V m i)) ∧ ∀ i, i < sC V m → N.2.2.1 (b + 70) i = nI (ln_W V m i)
theorem l_R.fr {b m : Nat} {V : pv_V} {N N' : gz_M} (h : l_R b V m N) (h0 : N'.2.1 = N.2.1) (h3 : N'.2.2.2.2 = N.2.2.2.2) (h67 : N'.2.2.1 (b + 67) 6 = N.2.2.1 (b + 67) 6) (h69 : N'.2.2.1 (b + 69) = N.2.2.1 (b + 69)) (h70 : N'.2.2.1 (b + 70) = N.2.2.1 (b + 70)) : l_R b V m N' := by
  obtain ⟨a1, a2, a3, a4⟩ := h
  exact ⟨a1.same h0 h3, h67.trans a2, fun i hi => by rw [h69]; exact a3 i hi, fun i hi => by rw [h70]; exact a4 i hi⟩
section SV
variable {fu b m : Nat} {V : pv_V} {N : gz_M}
theorem lL_le (hV : pv_ok V) (hm : m < 3) {k i v : Nat} (hi : i ≤ sC V m) (h : lL V m k i = some v) : v ≤ 3849120 := by
  have h1 := ln_L_le (w0 := 10692) (fun t _ => ln_W_le hV hm t) (fun t ht => sS_le ht) k i v hi h
  have c := sC_le hV m
  have : (sC V m - i) * (10692 * 30) ≤ 12 * (10692 * 30) := Nat.mul_le_mul_right _ (by omega)
  omega
theorem lh_le (hV : pv_ok V) (hm : m < 3) {i j : Nat} (hj : j < sC V m) : ln_h (ln_W V m) (sS V m) i j ≤ 3849120 := by
  have h1 := ln_h_le (K := sC V m) (W := ln_W V m) (S := sS V m) (w0 := 10692) (fun t _ => ln_W_le hV hm t) (fun t ht => sS_le ht) (i := i) hj
  have c := sC_le hV m
  have : (j - i) * (10692 * 30) ≤ 12 * (10692 * 30) := Nat.mul_le_mul_right _ (by omega)
  omega
theorem lc_le (hV : pv_ok V) (hm : m < 3) {k i j v : Nat} (hj : j < sC V m) (h : ln_c (ln_W V m) (sS V m) (lL V m k) i j = some v) : v ≤ 7698240 := by
  unfold ln_c at h
  cases e : lL V m k (j + 1) with
  | none => rw [e] at h; cases h
  | some r =>
    rw [e] at h
    cases h
    have h1 := lh_le hV hm (i := i) hj
    have h2 := lL_le hV hm (show j + 1 ≤ sC V m by omega) e
    omega
theorem pcN_eq {u v : Option Nat} (hu : ∀ x, u = some x → x ≤ 10000000) (hv : ∀ x, v = some x → x ≤ 10000000) : pcN u = pcN v ↔ u = v := by
  cases u with
  | none =>
    cases v with
    | none => exact ⟨fun _ => rfl, fun _ => rfl⟩
    | some y =>
      have hy := hv y rfl
      exact ⟨fun q => absurd q.symm (pn_mx (n := y) (by omega)).1, fun q => by cases q⟩
  | some x =>
    have hx := hu x rfl
    cases v with
    | none => exact ⟨fun q => absurd q (pn_mx (n := x) (by omega)).1, fun q => by cases q⟩
    | some y =>
      have hy := hv y rfl
      refine ⟨fun q => ?_, fun q => by cases q; rfl⟩
      rw [(nI_eq (a := x) (b := y) (by omega) (by omega)).mp q]
theorem pcN_min {u v : Option Nat} (hu : ∀ x, u = some x → x ≤ 10000000) (hv : ∀ x, v = some x → x ≤ 10000000) : (if pcN v < pcN u then pcN v else pcN u) = pcN (omin u v) := by
  cases v with
  | none =>
    rw [omin_n]
    cases u with
    | none => exact if_neg (show ¬ (2147483647 : Int32) < 2147483647 by decide)
    | some x =>
      have hx := hu x rfl
      exact if_neg (Int32.not_lt.mpr (Int32.le_of_lt (pn_mx (n := x) (by omega)).2))
  | some y =>
    have hy := hv y rfl
    cases u with
    | none => exact if_pos (pn_mx (n := y) (by omega)).2
    | some x =>
      have hx := hu x rfl
      rw [omin_1]
      by_cases c : y < x
      · rw [if_pos c]; exact if_pos (nI_lt c (by omega))
      · rw [if_neg c]; exact if_neg (nI_nlt (by omega) (by omega))
theorem vc_30 (hfu : 5000 ≤ fu) (hV : pv_ok V) (hR : l_R b V m N) {i j : Nat} (hj : j < sC V m) (hij : i ≤ j) (J : Int32 → Option Int32) : lp_X5_sumBy_30 J N (b + 67) (nI j) fu (0 : Int32) (nI i) = J (nI (ln_h (ln_W V m) (sS V m) i j)) := by
  obtain ⟨L0, s6, hS, hW⟩ := hR
  obtain ⟨k1, r0, r3, r4, q0, q3, q4⟩ := ll_r L0
  have c12 := sC_le hV m
  obtain ⟨s, h1, h2⟩ := pl_up (fun fuel t s => lp_X5_sumBy_30 J N (b + 67) (nI j) fuel s t) J (fun t s => i ≤ t ∧ s = nI (fb_sm (fun x => ln_W V m (i + x) * (sS V m j - sS V m (i + x))) (t - i))) j (fun fuel t s ht hp => by
    obtain ⟨p1, rfl⟩ := hp
    have hst := sS_mono ht hj
    refine ⟨_, ⟨by omega, rfl⟩, ?_⟩
    try dsimp only
    rw [lp_X5_sumBy_30, if_neg (pn_nle ht (by omega)), r4, Option.bind_some, pu_aI q4 (show t < 12 by omega) (by decide), hW t (by omega), Option.bind_some, r3, Option.bind_some, pu_aI q3 (show j < 12 by omega) (by decide), hS j hj, Option.bind_some, Option.bind_some, pu_aI q3 (show t < 12 by omega) (by decide), hS t (by omega), Option.bind_some, pk_sub (by omega), pk_mul, nI_add, pn_1, show t + 1 - i = t - i + 1 by omega, fb_sm_succ, show i + (t - i) = t by omega]) (fun fuel s hp => by
    try dsimp only
    rw [lp_X5_sumBy_30, if_pos (pn_le (Nat.le_refl _) (by omega))]) (j - i) i (nI 0) fu (by omega) (by omega) ⟨Nat.le_refl _, by rw [Nat.sub_self]; rfl⟩
  obtain ⟨-, rfl⟩ := h1
  exact h2
theorem vc_sb (hfu : 5000 ≤ fu) (hV : pv_ok V) (hm : m < 3) (hR : l_R b V m N) {k i j : Nat} (hk : k < 7) (hj : j < sC V m) (hij : i ≤ j) (hrow : N.2.2.1 (b + 72 + k) (j + 1) = pcN (lL V m k (j + 1))) : f_X5_sumBy fu N (b + 67) (nI (k + 1)) (nI i) (nI j) = some (pcN (ln_c (ln_W V m) (sS V m) (lL V m k) i j)) := by
  obtain ⟨k1, -⟩ := ll_r hR.1
  obtain ⟨l1, l2, l3⟩ := ll_k hR.1 hk
  have c12 := sC_le hV m
  unfold f_X5_sumBy
  rw [pu_gd (ci := 5) k1, l1, Option.bind_some, nI_pred, l2, Option.bind_some, pn_1, pu_aI l3 (show j + 1 < 13 by omega) (by decide), hrow, Option.bind_some]
  unfold ln_c
  cases e : lL V m k (j + 1) with
  | none => rw [if_pos (show pcN none = 2147483647 from rfl)]; rfl
  | some r =>
    have hr := lL_le hV hm (show j + 1 ≤ sC V m by omega) e
    rw [if_neg (show ¬ pcN (some r) = 2147483647 from (pn_mx (n := r) (by omega)).1), vc_30 hfu hV hR hj hij]
    show some (nI _ + nI r) = some (nI (_ + r))
    rw [nI_add]
def l_F (b c : Nat) : Prop := b + 72 ≤ c ∧ c < b + 79
/-- the row of k from i on -/
theorem vc_51 (hfu : 5000 ≤ fu) (hV : pv_ok V) (hm : m < 3) (hR : l_R b V m N) {k i : Nat} (hk : k + 1 < 7) (hi : i < sC V m) (hrow : ∀ j, j ≤ sC V m → N.2.2.1 (b + 72 + k) j = pcN (lL V m k j)) (h0 : N.2.2.1 (b + 72 + (k + 1)) i = pcN none) : ∃ N', (∀ J, lp_X5_fillLeast_51 J fu (b + 67) (nI (k + 1)) (nI i) fu (nI i) N = J N') ∧ pf_f (fun c => c = b + 72 + (k + 1)) N N' ∧ N'.2.2.1 (b + 72 + (k + 1)) i = pcN (lL V m (k + 1) i) ∧ ∀ j, j ≠ i → N'.2.2.1 (b + 72 + (k + 1)) j = N.2.2.1 (b + 72 + (k + 1)) j := by
  have c12 := sC_le hV m
  have bm : ∀ d x, d ≤ sC V m - i → ln_m (ln_c (ln_W V m) (sS V m) (lL V m k) i) i d = some x → x ≤ 10000000 := fun d x hd hx => by
    obtain ⟨⟨j, q1, q2, q3⟩, -⟩ := ln_m_s _ _ hx
    have := lc_le hV hm (show j < sC V m by omega) q3
    omega
  have key : ∀ d e (N1 : gz_M), e + d = sC V m - i → pf_f (fun c => c = b + 72 + (k + 1)) N N1 → N1.2.2.1 (b + 72 + (k + 1)) i = pcN (ln_m (ln_c (ln_W V m) (sS V m) (lL V m k) i) i e) → (∀ j, j ≠ i → N1.2.2.1 (b + 72 + (k + 1)) j = N.2.2.1 (b + 72 + (k + 1)) j) → ∃ N', (∀ J fuel, d < fuel → lp_X5_fillLeast_51 J fu (b + 67) (nI (k + 1)) (nI i) fuel (nI (i + e)) N1 = J N') ∧ pf_f (fun c => c = b + 72 + (k + 1)) N N' ∧ N'.2.2.1 (b + 72 + (k + 1)) i = pcN (lL V m (k + 1) i) ∧ ∀ j, j ≠ i → N'.2.2.1 (b + 72 + (k + 1)) j = N.2.2.1 (b + 72 + (k + 1)) j := by
    intro d
    induction d with
    | zero =>
      intro e N1 he w h1 h2
      have R1 : l_R b V m N1 := hR.fr w.2.1 w.2.2.2.1 (by rw [w.2.2.2.2 _ (by omega)]) (w.2.2.2.2 _ (by omega)) (w.2.2.2.2 _ (by omega))
      obtain ⟨k1, -⟩ := ll_r R1.1
      refine ⟨N1, fun J fuel hf => ?_, w, ?_, h2⟩
      · obtain ⟨g, rfl⟩ : ∃ g, fuel = g + 1 := ⟨fuel - 1, by omega⟩
        rw [lp_X5_fillLeast_51, if_neg (nI_nle (by omega) (by omega)), pu_gI (ci := 5) 6 k1, R1.2.1, Option.bind_some, if_pos (pn_le (by omega) (by omega))]
      · rw [h1, show e = sC V m - i by omega]
        rfl
    | succ d ih =>
      intro e N1 he w h1 h2
      have R1 : l_R b V m N1 := hR.fr w.2.1 w.2.2.2.1 (by rw [w.2.2.2.2 _ (by omega)]) (w.2.2.2.2 _ (by omega)) (w.2.2.2.2 _ (by omega))
      obtain ⟨k1, -⟩ := ll_r R1.1
      obtain ⟨l1, l2, l3⟩ := ll_k R1.1 hk
      have sb := vc_sb hfu hV hm R1 (k := k) (i := i) (j := i + e) (by omega) (by omega) (by omega) (by rw [w.2.2.2.2 _ (by omega)]; exact hrow _ (by omega))
      have mn := pcN_min (u := ln_m (ln_c (ln_W V m) (sS V m) (lL V m k) i) i e) (v := ln_c (ln_W V m) (sS V m) (lL V m k) i (i + e)) (fun x hx => bm e x (by omega) hx) (fun x hx => by have := lc_le hV hm (show i + e < sC V m by omega) hx; omega)
      obtain ⟨N', g1, g2, g3, g4⟩ := ih (e + 1) (gz_sI N1 (b + 72 + (k + 1)) i (pcN (ln_m (ln_c (ln_W V m) (sS V m) (lL V m k) i) i (e + 1)))) (by omega) (w.two rfl) pv_I9 (fun j hj => by rw [pv_I0 hj]; exact h2 j hj)
      refine ⟨N', fun J fuel hf => ?_, g2, g3, g4⟩
      obtain ⟨g, rfl⟩ : ∃ g, fuel = g + 1 := ⟨fuel - 1, by omega⟩
      rw [lp_X5_fillLeast_51, if_neg (nI_nle (by omega) (by omega)), pu_gI (ci := 5) 6 k1, R1.2.1, Option.bind_some, if_neg (pn_nle (by omega) (by omega)), l1, Option.bind_some, l2, Option.bind_some, Option.bind_some, l2, Option.bind_some, pu_aI l3 (show i < 13 by omega) (by decide), h1, Option.bind_some, sb, Option.bind_some, mn, pu_tI _ l3 (show i < 13 by omega) (by decide), Option.bind_some, pn_1]
      exact g1 J g (by omega)
  obtain ⟨N', g1, g2, g3, g4⟩ := key (sC V m - i) 0 N (by omega) pf_f.refl h0 (fun _ _ => rfl)
  exact ⟨N', fun J => g1 J fu (by omega), g2, g3, g4⟩
theorem vc_f30 (hfu : 5000 ≤ fu) (hV : pv_ok V) (hm : m < 3) (hR : l_R b V m N) {k : Nat} (hk : k < 7) (hrow : ∀ k', k' + 1 = k → ∀ j, j ≤ sC V m → N.2.2.1 (b + 72 + k') j = pcN (lL V m k' j)) : ∃ N', (∀ J, lp_X5_fillLeast_30 J fu (b + 67) (nI k) fu (0 : Int32) N = J N') ∧ pf_f (fun c => c = b + 72 + k) N N' ∧ (∀ i, i < sC V m → N'.2.2.1 (b + 72 + k) i = pcN (lL V m k i)) ∧ ∀ j, sC V m ≤ j → N'.2.2.1 (b + 72 + k) j = N.2.2.1 (b + 72 + k) j := by
  have c12 := sC_le hV m
  have key : ∀ d i (N1 : gz_M), i + d = sC V m → pf_f (fun c => c = b + 72 + k) N N1 → (∀ i', i' < i → N1.2.2.1 (b + 72 + k) i' = pcN (lL V m k i')) → (∀ j, sC V m ≤ j → N1.2.2.1 (b + 72 + k) j = N.2.2.1 (b + 72 + k) j) → ∃ N', (∀ J fuel, d < fuel → lp_X5_fillLeast_30 J fu (b + 67) (nI k) fuel (nI i) N1 = J N') ∧ pf_f (fun c => c = b + 72 + k) N N' ∧ (∀ i, i < sC V m → N'.2.2.1 (b + 72 + k) i = pcN (lL V m k i)) ∧ ∀ j, sC V m ≤ j → N'.2.2.1 (b + 72 + k) j = N.2.2.1 (b + 72 + k) j := by
    intro d
    induction d with
    | zero =>
      intro i N1 he w h1 h2
      have R1 : l_R b V m N1 := hR.fr w.2.1 w.2.2.2.1 (by rw [w.2.2.2.2 _ (by omega)]) (w.2.2.2.2 _ (by omega)) (w.2.2.2.2 _ (by omega))
      obtain ⟨k1, -⟩ := ll_r R1.1
      refine ⟨N1, fun J fuel hf => ?_, w, fun i' hi => h1 i' (by omega), h2⟩
      obtain ⟨g, rfl⟩ : ∃ g, fuel = g + 1 := ⟨fuel - 1, by omega⟩
      rw [lp_X5_fillLeast_30, pu_gI (ci := 5) 6 k1, R1.2.1, Option.bind_some, if_pos (pn_le (by omega) (by omega))]
    | succ d ih =>
      intro i N1 he w h1 h2
      have hi : i < sC V m := by omega
      have w2 : pf_f (fun c => c = b + 72 + k) N (gz_sI N1 (b + 72 + k) i 2147483647) := w.two rfl
      have R1 : l_R b V m N1 := hR.fr w.2.1 w.2.2.2.1 (by rw [w.2.2.2.2 _ (by omega)]) (w.2.2.2.2 _ (by omega)) (w.2.2.2.2 _ (by omega))
      have R2 : l_R b V m (gz_sI N1 (b + 72 + k) i 2147483647) := hR.fr w2.2.1 w2.2.2.2.1 (by rw [w2.2.2.2.2 _ (by omega)]) (w2.2.2.2.2 _ (by omega)) (w2.2.2.2.2 _ (by omega))
      obtain ⟨k1, -⟩ := ll_r R1.1
      obtain ⟨l1, l2, l3⟩ := ll_k R1.1 hk
      have hstep : ∃ N2, (∀ J, lp_X5_fillLeast_51 J fu (b + 67) (nI k) (nI i) fu (nI i) (gz_sI N1 (b + 72 + k) i 2147483647) = J N2) ∧ pf_f (fun c => c = b + 72 + k) (gz_sI N1 (b + 72 + k) i 2147483647) N2 ∧ N2.2.2.1 (b + 72 + k) i = pcN (lL V m k i) ∧ ∀ j, j ≠ i → N2.2.2.1 (b + 72 + k) j = (gz_sI N1 (b + 72 + k) i 2147483647).2.2.1 (b + 72 + k) j := by
        cases k with
        | zero =>
          refine ⟨_, fun J => ?_, pf_f.refl, ?_, fun _ _ => rfl⟩
          · obtain ⟨g, hg⟩ : ∃ g, fu = g + 1 := ⟨fu - 1, by omega⟩
            have : ∀ F, F = g + 1 → lp_X5_fillLeast_51 J fu (b + 67) (nI 0) (nI i) F (nI i) (gz_sI N1 (b + 72 + 0) i 2147483647) = J (gz_sI N1 (b + 72 + 0) i 2147483647) := by
              rintro F rfl
              rw [lp_X5_fillLeast_51, if_pos (show nI 0 ≤ 0 by decide)]
            exact this fu hg
          · rw [pv_I9]
            have : lL V m 0 i = none := if_neg (by omega)
            rw [this]
            rfl
        | succ k => exact vc_51 hfu hV hm R2 hk hi (fun j hj => by rw [pv_I1 (by omega), w.2.2.2.2 _ (by omega)]; exact hrow k rfl j hj) pv_I9
      obtain ⟨N2, s1, s2, s3, s4⟩ := hstep
      obtain ⟨N', g1, g2, g3, g4⟩ := ih (i + 1) N2 (by omega) (w2.trans s2 (fun _ q => q) (fun _ q => q)) (fun i' hi' => by
        by_cases q : i' = i
        · rw [q]; exact s3
        · rw [s4 i' q, pv_I0 q]; exact h1 i' (by omega)) (fun j hj => by rw [s4 j (by omega), pv_I0 (by omega)]; exact h2 j hj)
      refine ⟨N', fun J fuel hf => ?_, g2, g3, g4⟩
      obtain ⟨g, rfl⟩ : ∃ g, fuel = g + 1 := ⟨fuel - 1, by omega⟩
      rw [lp_X5_fillLeast_30, pu_gI (ci := 5) 6 k1, R1.2.1, Option.bind_some, if_neg (pn_nle hi (by omega)), l1, Option.bind_some, l2, Option.bind_some, pu_tI _ l3 (show i < 13 by omega) (by decide), Option.bind_some, s1, pn_1]
      exact g1 J g (by omega)
  obtain ⟨N', g1, g2, g3, g4⟩ := key (sC V m) 0 N (by omega) pf_f.refl (fun i' hi => absurd hi (Nat.not_lt_zero i')) (fun _ _ => rfl)
  exact ⟨N', fun J => g1 J fu (by omega), g2, g3, g4⟩
theorem vc_fl2 (hfu : 5000 ≤ fu) (hV : pv_ok V) (hm : m < 3) (hR : l_R b V m N) {n : Nat} (hn : n ≤ 6) : ∃ N', f_X5_fillLeast fu N (b + 67) (nI n) = some N' ∧ pf_f (l_F b) N N' ∧ l_R b V m N' ∧ ∀ k i, k ≤ n → i ≤ sC V m → N'.2.2.1 (b + 72 + k) i = pcN (lL V m k i) := by
  have c12 := sC_le hV m
  obtain ⟨k0, -⟩ := ll_r hR.1
  have key : ∀ d k (N1 : gz_M), k + d = n + 1 → pf_f (l_F b) N N1 → (∀ k' i, k' < k → i ≤ sC V m → N1.2.2.1 (b + 72 + k') i = pcN (lL V m k' i)) → ∃ N', (∀ fuel, d < fuel → lp_X5_fillLeast_2 (fun M26 => some M26) fu (b + 67) (nI n) fuel (nI k) N1 = some N') ∧ pf_f (l_F b) N N' ∧ ∀ k i, k ≤ n → i ≤ sC V m → N'.2.2.1 (b + 72 + k) i = pcN (lL V m k i) := by
    intro d
    induction d with
    | zero =>
      intro k N1 he w h1
      refine ⟨N1, fun fuel hf => ?_, w, fun k' i hk hi => h1 k' i (by omega) hi⟩
      obtain ⟨g, rfl⟩ : ∃ g, fuel = g + 1 := ⟨fuel - 1, by omega⟩
      rw [lp_X5_fillLeast_2, if_pos (nI_lt (by omega) (by omega))]
    | succ d ih =>
      intro k N1 he w h1
      have hk : k < 7 := by omega
      have R1 : l_R b V m N1 := hR.fr w.2.1 w.2.2.2.1 (by rw [w.2.2.2.2 _ (by unfold l_F; omega)]) (w.2.2.2.2 _ (by unfold l_F; omega)) (w.2.2.2.2 _ (by unfold l_F; omega))
      obtain ⟨k1, -⟩ := ll_r R1.1
      obtain ⟨l1, l2, l3⟩ := ll_k R1.1 hk
      have w2 : pf_f (l_F b) N (gz_sI N1 (b + 72 + k) (sC V m) (pcN (lL V m k (sC V m)))) := w.two (by unfold l_F; omega)
      have R2 : l_R b V m (gz_sI N1 (b + 72 + k) (sC V m) (pcN (lL V m k (sC V m)))) := hR.fr w2.2.1 w2.2.2.2.1 (by rw [w2.2.2.2.2 _ (by unfold l_F; omega)]) (w2.2.2.2.2 _ (by unfold l_F; omega)) (w2.2.2.2.2 _ (by unfold l_F; omega))
      obtain ⟨N2, s1, s2, s3, s4⟩ := vc_f30 hfu hV hm R2 hk (fun k' hk' j hj => by rw [pv_I1 (by omega)]; exact h1 k' j (by omega) hj)
      obtain ⟨N', g1, g2, g3⟩ := ih (k + 1) N2 (by omega) (w2.trans s2 (fun _ q => q) (fun c q => by unfold l_F; omega)) (fun k' i hk' hi => by
        by_cases q : k' = k
        · rw [q]
          by_cases q2 : i < sC V m
          · exact s3 i q2
          · rw [s4 i (by omega), show i = sC V m by omega]
            exact pv_I9
        · rw [s2.2.2.2.2 _ (by omega), pv_I1 (by omega)]; exact h1 k' i (by omega) hi)
      have fin : ∀ x : Int32, x = pcN (lL V m k (sC V m)) → ∀ g, d < g → ((gz_tI N1 (b + 72 + k) (nI (sC V m)) x).bind fun M7 => lp_X5_fillLeast_30 (fun (M25 : gz_M) => lp_X5_fillLeast_2 (fun M26 => some M26) fu (b + 67) (nI n) g (nI k + (1 : Int32)) M25) fu (b + 67) (nI k) fu (0 : Int32) M7) = some N' := by
        rintro x rfl g hg
        rw [pu_tI _ l3 (show sC V m < 13 by omega) (by decide), Option.bind_some, s1, pn_1]
        exact g1 g hg
      refine ⟨N', fun fuel hf => ?_, g2, g3⟩
      obtain ⟨g, rfl⟩ : ∃ g, fuel = g + 1 := ⟨fuel - 1, by omega⟩
      rw [lp_X5_fillLeast_2, if_neg (nI_nlt (by omega) (by omega)), l1, Option.bind_some, l2, Option.bind_some, pu_gI (ci := 5) 6 k1, R1.2.1, Option.bind_some]
      simp only [gz_jn]
      by_cases q : k = 0
      · rw [if_pos (show nI k = 0 by rw [q]; rfl)]
        refine fin _ ?_ g (by omega)
        rw [q]
        have : lL V m 0 (sC V m) = some 0 := if_pos rfl
        rw [this]
        rfl
      · rw [if_neg (nI_ne0 (by omega) (by omega))]
        refine fin _ ?_ g (by omega)
        obtain ⟨k', rfl⟩ : ∃ k', k = k' + 1 := ⟨k - 1, by omega⟩
        have : lL V m (k' + 1) (sC V m) = none := by
          show ln_m _ _ (sC V m - sC V m) = none
          rw [Nat.sub_self]
          rfl
        rw [this]
        rfl
  obtain ⟨N', g1, g2, g3⟩ := key (n + 1) 0 N (by omega) pf_f.refl (fun k' i hk => absurd hk (Nat.not_lt_zero k'))
  refine ⟨N', ?_, g2, hR.fr g2.2.1 g2.2.2.2.1 (by rw [g2.2.2.2.2 _ (by unfold l_F; omega)]) (g2.2.2.2.2 _ (by unfold l_F; omega)) (g2.2.2.2.2 _ (by unfold l_F; omega)), g3⟩
  unfold f_X5_fillLeast
  rw [pu_gd (ci := 5) k0]
  exact g1 fu (by omega)
end SV
