/-! corners: what the class reads ahead -/
theorem ly_k2 : ∀ m, m < 3 → (85, m, 86 + m) ∈ iv_RC ∧ iv_KC[86 + m]? = some (20, 144) := by decide +kernel
theorem lk_h {b m : Nat} {M : gz_M} (h : iv_L b M) (hm : m < 3) : gz_gR M 0 4 (b + 79) = some (b + 85) ∧ gz_aR M (b + 85) (nI m) = some (b + 86 + m) ∧ M.2.1 (b + 86 + m) = (20, 144) := by
  obtain ⟨q1, q2⟩ := ly_k2 m hm
  have e1 := h.2 _ _ _ q1
  have e2 := h.1 _ _ q2
  rw [← Nat.add_assoc] at e1 e2
  exact ⟨pu_gR (ci := 0) (h.1 79 _ rfl) (h.2 79 4 85 (by decide)), pu_aR (h.1 85 _ rfl) (by decide) hm (by decide) e1, e2⟩
theorem lk_r {b : Nat} {M : gz_M} (h : iv_L b M) : M.2.1 (b + 79) = (1, 0) ∧ gz_gR M 0 0 (b + 79) = some (b + 80) ∧ gz_gR M 0 6 (b + 79) = some (b + 90) ∧ gz_gR M 0 7 (b + 79) = some (b + 91) ∧ gz_gR M 0 8 (b + 79) = some (b + 92) ∧ gz_gR M 0 9 (b + 79) = some (b + 93) ∧ M.2.1 (b + 80) = (20, 3) ∧ M.2.1 (b + 90) = (20, 12) ∧ M.2.1 (b + 91) = (20, 12) ∧ M.2.1 (b + 92) = (20, 12) ∧ M.2.1 (b + 93) = (20, 12) :=
  ⟨h.1 79 _ rfl, pu_gR (ci := 0) (h.1 79 _ rfl) (h.2 79 0 80 (by decide)), pu_gR (ci := 0) (h.1 79 _ rfl) (h.2 79 6 90 (by decide)), pu_gR (ci := 0) (h.1 79 _ rfl) (h.2 79 7 91 (by decide)), pu_gR (ci := 0) (h.1 79 _ rfl) (h.2 79 8 92 (by decide)), pu_gR (ci := 0) (h.1 79 _ rfl) (h.2 79 9 93 (by decide)), h.1 80 _ rfl, h.1 90 _ rfl, h.1 91 _ rfl, h.1 92 _ rfl, h.1 93 _ rfl⟩
def shr (V : pv_V) (m i f : Nat) : Option Nat := sp_sh V m (pv_F V (5 * f + m)) (pv_F V (5 * f + 4)) (sS V m i)
def k_z (b : Nat) (V : pv_V) (N : gz_M) : Prop := ∀ m, m < 3 → N.2.2.1 (b + 89) m = nI (sC V m) ∧ ∀ i, i < sC V m → N.2.2.1 (b + 82 + m) i = nI (sS V m i)
theorem k_z.same {b : Nat} {V : pv_V} {N N' : gz_M} (h : k_z b V N) (h1 : ∀ c, c = b + 89 ∨ (b + 82 ≤ c ∧ c < b + 85) → N'.2.2.1 c = N.2.2.1 c) : k_z b V N' := fun m hm => by
  rw [h1 (b + 89) (by omega), h1 (b + 82 + m) (by omega)]
  exact h m hm
section RF
variable {fu a b : Nat} {V : pv_V}
theorem vc_r48 (hfu : 5000 ≤ fu) {N : gz_M} (hL : iv_L b N) (hv : vy_c a V N) (ha : a + 5 ≤ b + 61) (hz : k_z b V N) {f m : Nat} (hf : f < pv_nf V) (hm : m < 3) : ∃ N', (∀ J, lp_X0_readFeet_48 J fu (b + 79) a (nI f) (nI m) fu (0 : Int32) N = J N') ∧ pf_f (fun c => c = b + 86 + m) N N' ∧ (∀ i, i < sC V m → N'.2.2.1 (b + 86 + m) (i * 12 + f) = pc_o (shr V m i f)) ∧ ∀ j, j % 12 ≠ f → N'.2.2.1 (b + 86 + m) j = N.2.2.1 (b + 86 + m) j := by
  have o1 := (vc_ok hv).1
  have c12 := sC_le (vc_ok hv) m
  have key : ∀ d i (N1 : gz_M), i + d = sC V m → pf_f (fun c => c = b + 86 + m) N N1 → (∀ i', i' < i → N1.2.2.1 (b + 86 + m) (i' * 12 + f) = pc_o (shr V m i' f)) → (∀ j, j % 12 ≠ f → N1.2.2.1 (b + 86 + m) j = N.2.2.1 (b + 86 + m) j) → ∃ N', (∀ J fuel, d < fuel → lp_X0_readFeet_48 J fu (b + 79) a (nI f) (nI m) fuel (nI i) N1 = J N') ∧ pf_f (fun c => c = b + 86 + m) N N' ∧ (∀ i', i' < sC V m → N'.2.2.1 (b + 86 + m) (i' * 12 + f) = pc_o (shr V m i' f)) ∧ ∀ j, j % 12 ≠ f → N'.2.2.1 (b + 86 + m) j = N.2.2.1 (b + 86 + m) j := by
    intro d
    induction d with
    | zero =>
      intro i N1 e w h1 h2
      have L1 := hL.same w.2.1 w.2.2.2.1
      have z1 : k_z b V N1 := hz.same (fun c q => w.2.2.2.2 c (by omega))
      obtain ⟨l1, l2, l3, l4, l5⟩ := lk_s L1 hm
      refine ⟨N1, fun J fuel hf => ?_, w, fun i' hi => h1 i' (by omega), h2⟩
      obtain ⟨g, rfl⟩ : ∃ g, fuel = g + 1 := ⟨fuel - 1, by omega⟩
      rw [lp_X0_readFeet_48, l4, Option.bind_some, pu_aI l5 hm (by decide), (z1 m hm).1, Option.bind_some, if_pos (pn_le (by omega) (by omega))]
    | succ d ih =>
      intro i N1 e w h1 h2
      have L1 := hL.same w.2.1 w.2.2.2.1
      have v1 : vy_c a V N1 := hv.fr w (fun c q1 q2 e => by omega)
      have z1 : k_z b V N1 := hz.same (fun c q => w.2.2.2.2 c (by omega))
      have hi : i < sC V m := by omega
      obtain ⟨l1, l2, l3, l4, l5⟩ := lk_s L1 hm
      obtain ⟨r1, r2, r3⟩ := lk_h L1 hm
      have s30 := sS_le hi
      have sh := vc_sh fu v1 (f := f) (m := m) (g := 0) (s := sS V m i) hf hm (by omega) (by omega)
      have sh' : f_X7_share fu N1 a (nI f) (nI m) (0 : Int32) (nI (sS V m i)) = some (pc_o (shr V m i f)) := sh
      have ei : nI i * (12 : Int32) + nI f = nI (i * 12 + f) := by rw [show (12 : Int32) = nI 12 from rfl, pk_mul, nI_add]
      obtain ⟨N', g1, g2, g3, g4⟩ := ih (i + 1) (gz_sI N1 (b + 86 + m) (i * 12 + f) (pc_o (shr V m i f))) (by omega) (w.two rfl) (fun i' hi' => by
        rw [pu_same]
        by_cases q : i' = i
        · rw [if_pos (by rw [q]), q]
        · rw [if_neg (by omega)]; exact h1 i' (by omega)) (fun j hj => by rw [pv_I0 (by omega)]; exact h2 j hj)
      refine ⟨N', fun J fuel hf' => ?_, g2, g3, g4⟩
      obtain ⟨g, rfl⟩ : ∃ g, fuel = g + 1 := ⟨fuel - 1, by omega⟩
      rw [lp_X0_readFeet_48, l4, Option.bind_some, pu_aI l5 hm (by decide), (z1 m hm).1, Option.bind_some, if_neg (pn_nle hi (by omega)), r1, Option.bind_some, r2, Option.bind_some, l1, Option.bind_some, l2, Option.bind_some, pu_aI l3 (show i < 12 by omega) (by decide), (z1 m hm).2 i hi, Option.bind_some, sh', Option.bind_some, ei, pu_tI _ r3 (show i * 12 + f < 144 by omega) (by decide), Option.bind_some, pn_1]
      exact g1 J g (by omega)
  obtain ⟨N', g1, g2, g3, g4⟩ := key (sC V m) 0 N (by omega) pf_f.refl (fun i' hi => absurd hi (Nat.not_lt_zero i')) (fun _ _ => rfl)
  exact ⟨N', fun J => g1 J fu (by omega), g2, g3, g4⟩
def k_h (b c : Nat) : Prop := b + 86 ≤ c ∧ c < b + 89
theorem vc_r40 (hfu : 5000 ≤ fu) {N : gz_M} (hL : iv_L b N) (hv : vy_c a V N) (ha : a + 5 ≤ b + 61) (hz : k_z b V N) {f : Nat} (hf : f < pv_nf V) : ∃ N', (∀ J, lp_X0_readFeet_40 J fu (b + 79) a (nI f) fu (0 : Int32) N = J N') ∧ pf_f (k_h b) N N' ∧ (∀ m i, m < 3 → i < sC V m → N'.2.2.1 (b + 86 + m) (i * 12 + f) = pc_o (shr V m i f)) ∧ ∀ c j, j % 12 ≠ f → N'.2.2.1 c j = N.2.2.1 c j := by
  have key : ∀ d m (N1 : gz_M), m + d = 3 → pf_f (k_h b) N N1 → (∀ m' i, m' < m → i < sC V m' → N1.2.2.1 (b + 86 + m') (i * 12 + f) = pc_o (shr V m' i f)) → (∀ c j, j % 12 ≠ f → N1.2.2.1 c j = N.2.2.1 c j) → ∃ N', (∀ J fuel, d < fuel → lp_X0_readFeet_40 J fu (b + 79) a (nI f) fuel (nI m) N1 = J N') ∧ pf_f (k_h b) N N' ∧ (∀ m' i, m' < 3 → i < sC V m' → N'.2.2.1 (b + 86 + m') (i * 12 + f) = pc_o (shr V m' i f)) ∧ ∀ c j, j % 12 ≠ f → N'.2.2.1 c j = N.2.2.1 c j := by
    intro d
    induction d with
    | zero =>
      intro m N1 e w h1 h2
      refine ⟨N1, fun J fuel hf => ?_, w, fun m' i hm hi => h1 m' i (by omega) hi, h2⟩
      obtain ⟨g, rfl⟩ : ∃ g, fuel = g + 1 := ⟨fuel - 1, by omega⟩
      rw [lp_X0_readFeet_40, if_pos (show (3 : Int32) ≤ nI m by rw [show m = 3 by omega]; decide)]
    | succ d ih =>
      intro m N1 e w h1 h2
      have L1 := hL.same w.2.1 w.2.2.2.1
      have v1 : vy_c a V N1 := hv.fr w (fun c q1 q2 e => by unfold k_h at e; omega)
      have z1 : k_z b V N1 := hz.same (fun c q => w.2.2.2.2 c (by unfold k_h; omega))
      obtain ⟨N2, s1, s2, s3, s4⟩ := vc_r48 hfu L1 v1 ha z1 hf (show m < 3 by omega)
      obtain ⟨N', g1, g2, g3, g4⟩ := ih (m + 1) N2 (by omega) (w.trans s2 (fun _ q => q) (fun c q => by unfold k_h; omega)) (fun m' i hm hi => by
        by_cases q : m' = m
        · rw [q]; rw [q] at hi; exact s3 i hi
        · rw [s2.2.2.2.2 _ (by omega)]; exact h1 m' i (by omega) hi) (fun c j hj => by
        by_cases q : c = b + 86 + m
        · rw [q, s4 j hj]; exact h2 _ j hj
        · rw [s2.2.2.2.2 _ q]; exact h2 c j hj)
      refine ⟨N', fun J fuel hf' => ?_, g2, g3, g4⟩
      obtain ⟨g, rfl⟩ : ∃ g, fuel = g + 1 := ⟨fuel - 1, by omega⟩
      rw [lp_X0_readFeet_40, if_neg (show ¬ (3 : Int32) ≤ nI m from pn_nle (n := 3) (by omega) (by omega)), s1, pn_1]
      exact g1 J g (by omega)
  obtain ⟨N', g1, g2, g3, g4⟩ := key 3 0 N (by omega) pf_f.refl (fun m' i hm => absurd hm (Nat.not_lt_zero m')) (fun _ _ _ => rfl)
  exact ⟨N', fun J => g1 J fu (by omega), g2, g3, g4⟩
/-- all that the search reads -/
def k_R (b : Nat) (V : pv_V) (N : gz_M) : Prop := iv_L b N ∧ k_z b V N ∧ N.2.2.1 (b + 79) 10 = nI (pv_nf V) ∧ N.2.2.1 (b + 79) 11 = nI (pv_out V) ∧ (∀ f, f < pv_nf V → N.2.2.1 (b + 93) f = nI (pv_F V (5 * f + 3))) ∧ (∀ m i f, m < 3 → i < sC V m → f < pv_nf V → N.2.2.1 (b + 86 + m) (i * 12 + f) = pc_o (shr V m i f)) ∧ ∀ f, f < 12 → N.2.2.1 (b + 90) f = 0
def k_Q (b c : Nat) : Prop := c = b + 79 ∨ c = b + 93 ∨ k_h b c
theorem vc_rf (hfu : 5000 ≤ fu) {N : gz_M} (hL : iv_L b N) (hv : vy_c a V N) (ha : a + 5 ≤ b + 61) (hz : k_z b V N) (h0 : ∀ f, f < 12 → N.2.2.1 (b + 90) f = 0) : ∃ N', f_X0_readFeet fu N (b + 79) a = some N' ∧ pf_f (k_Q b) N N' ∧ k_R b V N' := by
  have o1 := (vc_ok hv).1
  obtain ⟨k1, -⟩ := lk_r hL
  have w4 : pf_f (k_Q b) N (gz_sI (gz_sI N (b + 79) 10 (nI (pv_nf V))) (b + 79) 11 (nI (pv_out V))) := (pf_f.one (P := k_Q b) (Or.inl rfl)).two (Or.inl rfl)
  have v2 : vy_c a V (gz_sI N (b + 79) 10 (nI (pv_nf V))) := hv.fr (pf_f.one (P := k_Q b) (Or.inl rfl)) (fun c q1 q2 e => by unfold k_Q k_h at e; omega)
  have k1' : (gz_sI N (b + 79) 10 (nI (pv_nf V))).2.1 (b + 79) = (1, 0) := k1
  have s10 : (gz_sI (gz_sI N (b + 79) 10 (nI (pv_nf V))) (b + 79) 11 (nI (pv_out V))).2.2.1 (b + 79) 10 = nI (pv_nf V) := (pv_I0 (by omega)).trans pv_I9
  have s11 : (gz_sI (gz_sI N (b + 79) 10 (nI (pv_nf V))) (b + 79) 11 (nI (pv_out V))).2.2.1 (b + 79) 11 = nI (pv_out V) := pv_I9
  unfold f_X0_readFeet
  rw [pu_gd (ci := 0) k1, vc_nf hv, Option.bind_some, pu_pI (ci := 0) 10 _ k1, Option.bind_some, vc_out v2, Option.bind_some, pu_pI (ci := 0) 11 _ k1', Option.bind_some]
  generalize gz_sI (gz_sI N (b + 79) 10 (nI (pv_nf V))) (b + 79) 11 (nI (pv_out V)) = N4 at w4 s10 s11
  have key : ∀ d f (N1 : gz_M), f + d = pv_nf V → pf_f (k_Q b) N N1 → N1.2.2.1 (b + 79) = N4.2.2.1 (b + 79) → (∀ g, g < f → N1.2.2.1 (b + 93) g = nI (pv_F V (5 * g + 3))) → (∀ m i g, m < 3 → i < sC V m → g < f → N1.2.2.1 (b + 86 + m) (i * 12 + g) = pc_o (shr V m i g)) → ∃ N', (∀ fuel, d < fuel → lp_X0_readFeet_18 (fun M26 => some M26) fu (b + 79) a fuel (nI f) N1 = some N') ∧ pf_f (k_Q b) N N' ∧ N'.2.2.1 (b + 79) = N4.2.2.1 (b + 79) ∧ (∀ g, g < pv_nf V → N'.2.2.1 (b + 93) g = nI (pv_F V (5 * g + 3))) ∧ ∀ m i g, m < 3 → i < sC V m → g < pv_nf V → N'.2.2.1 (b + 86 + m) (i * 12 + g) = pc_o (shr V m i g) := by
    intro d
    induction d with
    | zero =>
      intro f N1 e w h79 h1 h2
      have k9 : N1.2.1 (b + 79) = (1, 0) := by rw [w.2.1]; exact k1
      refine ⟨N1, fun fuel hf => ?_, w, h79, fun g hg => h1 g (by omega), fun m i g hm hi hg => h2 m i g hm hi (by omega)⟩
      obtain ⟨g, rfl⟩ : ∃ g, fuel = g + 1 := ⟨fuel - 1, by omega⟩
      rw [lp_X0_readFeet_18, pu_gI (ci := 0) 10 k9, h79, s10, Option.bind_some, if_pos (pn_le (by omega) (by omega))]
    | succ d ih =>
      intro f N1 e w h79 h1 h2
      have hf : f < pv_nf V := by omega
      have L1 := hL.same w.2.1 w.2.2.2.1
      obtain ⟨r1, r2, r3, r4, r5, r6, r7, r8, r9, r10, r11⟩ := lk_r L1
      have v1 : vy_c a V N1 := hv.fr w (fun c q1 q2 e => by unfold k_Q k_h at e; omega)
      have e3 : f_X7_footPart fu N1 a (nI f) (3 : Int32) = some (nI (pv_F V (5 * f + 3))) := vc_fp fu v1 hf (m := 3) (by omega)
      have w2 : pf_f (k_Q b) N (gz_sI N1 (b + 93) f (nI (pv_F V (5 * f + 3)))) := w.two (Or.inr (Or.inl rfl))
      have L2 := hL.same w2.2.1 w2.2.2.2.1
      have v2 : vy_c a V (gz_sI N1 (b + 93) f (nI (pv_F V (5 * f + 3)))) := hv.fr w2 (fun c q1 q2 e => by unfold k_Q k_h at e; omega)
      have z2 : k_z b V (gz_sI N1 (b + 93) f (nI (pv_F V (5 * f + 3)))) := hz.same (fun c q => w2.2.2.2.2 c (by unfold k_Q k_h; omega))
      obtain ⟨N3, s1, s2, s3, s4⟩ := vc_r40 hfu L2 v2 ha z2 hf
      have i3 : ∀ c, c ≠ b + 93 → ¬ k_h b c → N3.2.2.1 c = N1.2.2.1 c := fun c q1 q2 => by rw [s2.2.2.2.2 c q2, pv_I1 q1]
      obtain ⟨N', g1, g2, g3, g4, g5⟩ := ih (f + 1) N3 (by omega) (w2.trans s2 (fun _ q => q) (fun c q => Or.inr (Or.inr q))) (by rw [i3 _ (by omega) (by unfold k_h; omega)]; exact h79) (fun g hg => by
        rw [s2.2.2.2.2 _ (by unfold k_h; omega), pu_same]
        by_cases q : g = f
        · rw [if_pos q, q]
        · rw [if_neg q]; exact h1 g (by omega)) (fun m i g hm hi hg => by
        by_cases q : g = f
        · rw [q]; exact s3 m i hm hi
        · rw [s4 _ _ (by omega), pv_I1 (by omega)]; exact h2 m i g hm hi (by omega))
      refine ⟨N', fun fuel hf' => ?_, g2, g3, g4, g5⟩
      obtain ⟨g, rfl⟩ : ∃ g, fuel = g + 1 := ⟨fuel - 1, by omega⟩
      rw [lp_X0_readFeet_18, pu_gI (ci := 0) 10 r1, h79, s10, Option.bind_some, if_neg (pn_nle hf (by omega)), r6, Option.bind_some, e3, Option.bind_some, pu_tI _ r11 (show f < 12 by omega) (by decide), Option.bind_some, s1, pn_1]
      exact g1 g (by omega)
  obtain ⟨N', g1, g2, g3, g4, g5⟩ := key (pv_nf V) 0 N4 (by omega) w4 rfl (fun g hg => absurd hg (Nat.not_lt_zero g)) (fun m i g _ _ hg => absurd hg (Nat.not_lt_zero g))
  refine ⟨N', g1 fu (by omega), g2, hL.same g2.2.1 g2.2.2.2.1, hz.same (fun c q => g2.2.2.2.2 c (by unfold k_Q k_h; omega)), by rw [g3]; exact s10, by rw [g3]; exact s11, g4, g5, fun f hf => by rw [g2.2.2.2.2 _ (by unfold k_Q k_h; omega)]; exact h0 f hf⟩
end RF
