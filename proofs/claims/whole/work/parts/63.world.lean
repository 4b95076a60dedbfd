/-! copies of worlds -/
def w_l (w : Nat) (M : gz_M) : Prop := M.2.1 w = (9, 0) ∧ M.2.2.2.2 w 0 = some (w + 1) ∧ M.2.2.2.2 w 1 = some (w + 2) ∧ M.2.1 (w + 1) = (23, 4) ∧ (∀ k, k < 4 → M.2.2.2.2 (w + 1) k = some (w + 8 + 5 * k)) ∧ M.2.1 (w + 2) = (2, 0) ∧ M.2.2.2.2 (w + 2) 0 = some (w + 3) ∧ vl_c (w + 3) M ∧ ∀ k, k < 4 → vl_c (w + 8 + 5 * k) M
theorem w_l.same {w : Nat} {M M' : gz_M} (h : w_l w M) (h0 : M'.2.1 = M.2.1) (h3 : M'.2.2.2.2 = M.2.2.2.2) : w_l w M' := by
  unfold w_l vl_c at h ⊢
  rw [h0, h3]
  exact h
theorem ly_dw : ∀ k, k < 4 → (34, k, 41 + 5 * k) ∈ iv_RC := by decide +kernel
theorem vl_of {b o : Nat} {M : gz_M} (h : iv_L b M) (k0 : iv_KC[o]? = some (8, 0)) (k1 : iv_KC[o + 1]? = some (20, 60)) (k2 : iv_KC[o + 2]? = some (20, 40)) (k3 : iv_KC[o + 3]? = some (20, 3)) (k4 : iv_KC[o + 4]? = some (20, 3)) (r0 : (o, 0, o + 1) ∈ iv_RC) (r1 : (o, 1, o + 2) ∈ iv_RC) (r2 : (o, 2, o + 3) ∈ iv_RC) (r3 : (o, 3, o + 4) ∈ iv_RC) : vl_c (b + o) M := ⟨h.1 _ _ k0, h.1 _ _ k1, h.1 _ _ k2, h.1 _ _ k3, h.1 _ _ k4, h.2 _ _ _ r0, h.2 _ _ _ r1, h.2 _ _ _ r2, h.2 _ _ _ r3⟩
theorem vl_dw : ∀ o, o ∈ [8, 13, 18, 23, 28, 36, 41, 46, 51, 56] → (iv_KC[o]? = some (8, 0) ∧ iv_KC[o + 1]? = some (20, 60) ∧ iv_KC[o + 2]? = some (20, 40) ∧ iv_KC[o + 3]? = some (20, 3) ∧ iv_KC[o + 4]? = some (20, 3)) ∧ (o, 0, o + 1) ∈ iv_RC ∧ (o, 1, o + 2) ∈ iv_RC ∧ (o, 2, o + 3) ∈ iv_RC ∧ (o, 3, o + 4) ∈ iv_RC := by decide +kernel
theorem vl_at {b o : Nat} {M : gz_M} (h : iv_L b M) (ho : o ∈ [8, 13, 18, 23, 28, 36, 41, 46, 51, 56]) : vl_c (b + o) M := by
  obtain ⟨⟨k0, k1, k2, k3, k4⟩, r0, r1, r2, r3⟩ := vl_dw o ho
  exact vl_of h k0 k1 k2 k3 k4 r0 r1 r2 r3
theorem vl_mem : ∀ k, k < 4 → 13 + 5 * k ∈ [8, 13, 18, 23, 28, 36, 41, 46, 51, 56] ∧ 41 + 5 * k ∈ [8, 13, 18, 23, 28, 36, 41, 46, 51, 56] := by decide +kernel
theorem w_5 {b : Nat} {M : gz_M} (h : iv_L b M) : w_l (b + 5) M := by
  refine ⟨h.1 5 _ rfl, h.2 5 0 6 (by decide), h.2 5 1 7 (by decide), h.1 6 _ rfl, fun k hk => ?_, h.1 7 _ rfl, h.2 7 0 8 (by decide), vl_at h (o := 8) (by decide), fun k hk => ?_⟩
  · have e := h.2 _ _ _ (ly_dv1 k hk).1
    rw [← Nat.add_assoc] at e
    exact e
  · have e := vl_at h (vl_mem k hk).1
    rw [← Nat.add_assoc] at e
    exact e
theorem w_33 {b : Nat} {M : gz_M} (h : iv_L b M) : w_l (b + 33) M := by
  refine ⟨h.1 33 _ rfl, h.2 33 0 34 (by decide), h.2 33 1 35 (by decide), h.1 34 _ rfl, fun k hk => ?_, h.1 35 _ rfl, h.2 35 0 36 (by decide), vl_at h (o := 36) (by decide), fun k hk => ?_⟩
  · have e := h.2 _ _ _ (ly_dw k hk)
    rw [← Nat.add_assoc] at e
    exact e
  · have e := vl_at h (vl_mem k hk).2
    rw [← Nat.add_assoc] at e
    exact e
def w28 (w c : Nat) : Prop := w ≤ c ∧ c < w + 28
theorem wc_go (fu : Nat) {w w' : Nat} {V : pv_V} {M : gz_M} (h : w_l w M) (h' : w_l w' M) (hd : w + 28 ≤ w' ∨ w' + 28 ≤ w) (hok : pv_ok V) (hc : pv_c (w' + 3) V M) (h01 : M.2.2.1 (w' + 2) 1 = 0 ∨ M.2.2.1 (w' + 2) 1 = 1) : ∃ M', f_X1_takeFrom fu M (w + 2) (w' + 2) = some M' ∧ pf_f (fun c => w + 2 ≤ c ∧ c < w + 8) M M' ∧ pv_c (w + 3) V M' ∧ ∀ k, 1 ≤ k → k ≤ 6 → M'.2.2.1 (w + 2) k = M.2.2.1 (w' + 2) k := by
  have vy : vy_c (w' + 3) V M := h'.2.2.2.2.2.2.2.1.y hok hc
  obtain ⟨N, n1, n2, n3⟩ := vc_tk fu h.2.2.2.2.2.2.2.1 vy (by omega)
  have k0 : M.2.1 (w + 2) = (2, 0) := h.2.2.2.2.2.1
  have k1 : M.2.1 (w' + 2) = (2, 0) := h'.2.2.2.2.2.1
  have kN : N.2.1 (w + 2) = (2, 0) := by rw [n2.2.1]; exact k0
  have kN' : N.2.1 (w' + 2) = (2, 0) := by rw [n2.2.1]; exact k1
  have eN : N.2.2.1 (w' + 2) = M.2.2.1 (w' + 2) := n2.2.2.2.2 _ (by unfold a5; omega)
  have ne : w' + 2 ≠ w + 2 := by omega
  unfold f_X1_takeFrom
  rw [pu_gd (ci := 1) k0, pu_gR (ci := 1) k0 h.2.2.2.2.2.2.1, Option.bind_some, pu_gR (ci := 1) k1 h'.2.2.2.2.2.2.1, Option.bind_some, n1, Option.bind_some, pu_gI (ci := 1) 1 kN', eN, Option.bind_some, pu_pZ (ci := 1) 1 _ kN h01, Option.bind_some]
  have step : ∀ (k : Nat) (N1 : gz_M) (F : gz_M → Option gz_M), N1.2.1 = N.2.1 → N1.2.2.1 (w' + 2) = M.2.2.1 (w' + 2) → ((gz_gI N1 1 k (w' + 2)).bind fun x => (gz_pI N1 1 k (w + 2) x).bind F) = F (gz_sI N1 (w + 2) k (M.2.2.1 (w' + 2) k)) := fun k N1 F e1 e2 => by
    rw [pu_gI (ci := 1) k (show N1.2.1 (w' + 2) = (2, 0) by rw [e1]; exact kN'), e2, Option.bind_some, pu_pI (ci := 1) k _ (show N1.2.1 (w + 2) = (2, 0) by rw [e1]; exact kN), Option.bind_some]
  have e1 : (gz_sI N (w + 2) 1 (M.2.2.1 (w' + 2) 1)).2.2.1 (w' + 2) = M.2.2.1 (w' + 2) := by rw [pv_I1 ne]; exact eN
  have e2 : (gz_sI (gz_sI N (w + 2) 1 (M.2.2.1 (w' + 2) 1)) (w + 2) 2 (M.2.2.1 (w' + 2) 2)).2.2.1 (w' + 2) = M.2.2.1 (w' + 2) := by rw [pv_I1 ne]; exact e1
  have e3 : (gz_sI (gz_sI (gz_sI N (w + 2) 1 (M.2.2.1 (w' + 2) 1)) (w + 2) 2 (M.2.2.1 (w' + 2) 2)) (w + 2) 3 (M.2.2.1 (w' + 2) 3)).2.2.1 (w' + 2) = M.2.2.1 (w' + 2) := by rw [pv_I1 ne]; exact e2
  have e4 : (gz_sI (gz_sI (gz_sI (gz_sI N (w + 2) 1 (M.2.2.1 (w' + 2) 1)) (w + 2) 2 (M.2.2.1 (w' + 2) 2)) (w + 2) 3 (M.2.2.1 (w' + 2) 3)) (w + 2) 4 (M.2.2.1 (w' + 2) 4)).2.2.1 (w' + 2) = M.2.2.1 (w' + 2) := by rw [pv_I1 ne]; exact e3
  have e5 : (gz_sI (gz_sI (gz_sI (gz_sI (gz_sI N (w + 2) 1 (M.2.2.1 (w' + 2) 1)) (w + 2) 2 (M.2.2.1 (w' + 2) 2)) (w + 2) 3 (M.2.2.1 (w' + 2) 3)) (w + 2) 4 (M.2.2.1 (w' + 2) 4)) (w + 2) 5 (M.2.2.1 (w' + 2) 5)).2.2.1 (w' + 2) = M.2.2.1 (w' + 2) := by rw [pv_I1 ne]; exact e4
  rw [step 2 (gz_sI N (w + 2) 1 (M.2.2.1 (w' + 2) 1)) _ rfl e1, step 3 (gz_sI (gz_sI N (w + 2) 1 (M.2.2.1 (w' + 2) 1)) (w + 2) 2 (M.2.2.1 (w' + 2) 2)) _ rfl e2, step 4 (gz_sI (gz_sI (gz_sI N (w + 2) 1 (M.2.2.1 (w' + 2) 1)) (w + 2) 2 (M.2.2.1 (w' + 2) 2)) (w + 2) 3 (M.2.2.1 (w' + 2) 3)) _ rfl e3, step 5 (gz_sI (gz_sI (gz_sI (gz_sI N (w + 2) 1 (M.2.2.1 (w' + 2) 1)) (w + 2) 2 (M.2.2.1 (w' + 2) 2)) (w + 2) 3 (M.2.2.1 (w' + 2) 3)) (w + 2) 4 (M.2.2.1 (w' + 2) 4)) _ rfl e4, step 6 (gz_sI (gz_sI (gz_sI (gz_sI (gz_sI N (w + 2) 1 (M.2.2.1 (w' + 2) 1)) (w + 2) 2 (M.2.2.1 (w' + 2) 2)) (w + 2) 3 (M.2.2.1 (w' + 2) 3)) (w + 2) 4 (M.2.2.1 (w' + 2) 4)) (w + 2) 5 (M.2.2.1 (w' + 2) 5)) _ rfl e5]
  have w0 : pf_f (fun c => w + 2 ≤ c ∧ c < w + 8) M N := n2.trans pf_f.refl (fun c q => by unfold a5 at q; omega) (fun c (q : False) => q.elim)
  refine ⟨_, rfl, (((((w0.two ?_).two ?_).two ?_).two ?_).two ?_).two ?_, n3.same (fun c q1 q2 => ?_), fun k hk1 hk2 => ?_⟩
  iterate 6 (show w + 2 ≤ w + 2 ∧ w + 2 < w + 8; omega)
  · rw [pv_I1 (by omega), pv_I1 (by omega), pv_I1 (by omega), pv_I1 (by omega), pv_I1 (by omega), pv_I1 (by omega)]
  · have : k = 1 ∨ k = 2 ∨ k = 3 ∨ k = 4 ∨ k = 5 ∨ k = 6 := by omega
    simp only [pu_same]
    rcases this with rfl | rfl | rfl | rfl | rfl | rfl <;> rfl
theorem wc_tk {fu : Nat} (hfu : 5000 ≤ fu) {w w' n : Nat} {V : pv_V} {W : Nat → pv_V} {M : gz_M} (h : w_l w M) (h' : w_l w' M) (hd : w + 28 ≤ w' ∨ w' + 28 ≤ w) (hok : pv_ok V) (hc : pv_c (w' + 3) V M) (h01 : M.2.2.1 (w' + 2) 1 = 0 ∨ M.2.2.1 (w' + 2) 1 = 1) (hn : n ≤ 4) (h2 : M.2.2.1 w' 2 = nI n) (hW : ∀ v, v < n → pv_ok (W v) ∧ pv_c (w' + 8 + 5 * v) (W v) M) : ∃ M', f_X8_takeFrom fu M w w' = some M' ∧ pf_f (w28 w) M M' ∧ M'.2.2.1 w 2 = nI n ∧ (∀ v, v < n → pv_c (w + 8 + 5 * v) (W v) M') ∧ pv_c (w + 3) V M' ∧ ∀ k, 1 ≤ k → k ≤ 6 → M'.2.2.1 (w + 2) k = M.2.2.1 (w' + 2) k := by
  have w0 : pf_f (fun c => c = w ∨ (w + 8 ≤ c ∧ c < w + 28)) M (gz_sI M w 2 (nI n)) := pf_f.one (Or.inl rfl)
  unfold f_X8_takeFrom
  rw [pu_gd (ci := 8) h.1, pu_gI (ci := 8) 2 h'.1, h2, Option.bind_some, pu_pI (ci := 8) 2 _ h.1, Option.bind_some]
  obtain ⟨N, ⟨g1, g2, g3⟩, g4⟩ := pl_up (σ := gz_M) (fun fuel i s => lp_X8_takeFrom_10 (fun (M11 : gz_M) => (gz_gR M11 8 1 w).bind fun x12 => (gz_gR M11 8 1 w').bind fun x13 => (f_X1_takeFrom fu M11 x12 x13).bind fun M14 => some M14) fu w w' fuel i s) (fun M11 => (gz_gR M11 8 1 w).bind fun x12 => (gz_gR M11 8 1 w').bind fun x13 => (f_X1_takeFrom fu M11 x12 x13).bind fun M14 => some M14) (fun i N => pf_f (fun c => c = w ∨ (w + 8 ≤ c ∧ c < w + 28)) M N ∧ N.2.2.1 w 2 = nI n ∧ ∀ v, v < i → pv_c (w + 8 + 5 * v) (W v) N) n (fun fuel i N hi hq => by
    obtain ⟨z1, z2, z3⟩ := hq
    have lN := h.same z1.2.1 z1.2.2.2.1
    have lN' := h'.same z1.2.1 z1.2.2.2.1
    have vN : vy_c (w' + 8 + 5 * i) (W i) N := (lN'.2.2.2.2.2.2.2.2 i (by omega)).y (hW i hi).1 ((hW i hi).2.same (fun c q1 q2 => z1.2.2.2.2 c (by omega)))
    obtain ⟨N1, n1, n2, n3⟩ := vc_tk fu (lN.2.2.2.2.2.2.2.2 i (by omega)) vN (by omega)
    refine ⟨N1, ⟨z1.trans n2 (fun _ q => q) (fun c q => by unfold a5 at q; omega), ?_, fun v hv => ?_⟩, ?_⟩
    · rw [n2.2.2.2.2 _ (by unfold a5; omega)]; exact z2
    · by_cases e : v = i
      · subst e; exact n3
      · exact (z3 v (by omega)).same (fun c q1 q2 => n2.2.2.2.2 _ (by unfold a5; omega))
    · try dsimp only
      rw [lp_X8_takeFrom_10, pu_gI (ci := 8) 2 lN.1, z2, Option.bind_some, if_neg (pn_nle hi (by omega)), pu_gR (ci := 8) lN.1 lN.2.1, Option.bind_some, pu_aR lN.2.2.2.1 (by omega) (show i < 4 by omega) (by omega) (lN.2.2.2.2.1 i (by omega)), Option.bind_some, pu_gR (ci := 8) lN'.1 lN'.2.1, Option.bind_some, pu_aR lN'.2.2.2.1 (by omega) (show i < 4 by omega) (by omega) (lN'.2.2.2.2.1 i (by omega)), Option.bind_some, n1, Option.bind_some, pn_1]) (fun fuel N hq => by
    obtain ⟨z1, z2, z3⟩ := hq
    have lN := h.same z1.2.1 z1.2.2.2.1
    try dsimp only
    rw [lp_X8_takeFrom_10, pu_gI (ci := 8) 2 lN.1, z2, Option.bind_some, if_pos (pn_le (Nat.le_refl _) (by omega))]) n 0 (gz_sI M w 2 (nI n)) fu (by omega) (by omega) ⟨w0, pv_I9, fun v hv => by omega⟩
  have lN := h.same g1.2.1 g1.2.2.2.1
  have lN' := h'.same g1.2.1 g1.2.2.2.1
  have r2 : N.2.2.1 (w' + 2) = M.2.2.1 (w' + 2) := g1.2.2.2.2 _ (by omega)
  obtain ⟨N1, n1, n2, n3, n4⟩ := wc_go fu lN lN' hd hok (hc.same (fun c q1 q2 => g1.2.2.2.2 c (by omega))) (by rw [r2]; exact h01)
  refine ⟨N1, ?_, g1.trans n2 (fun c q => by unfold w28; omega) (fun c q => by unfold w28; omega), ?_, fun v hv => ?_, n3, fun k k1 k2 => ?_⟩
  · refine g4.trans ?_
    rw [pu_gR (ci := 8) lN.1 lN.2.2.1, Option.bind_some, pu_gR (ci := 8) lN'.1 lN'.2.2.1, Option.bind_some, n1, Option.bind_some]
  · rw [n2.2.2.2.2 _ (by omega)]; exact g2
  · exact (g3 v hv).same (fun c q1 q2 => n2.2.2.2.2 _ (by omega))
  · rw [n4 k k1 k2, r2]
