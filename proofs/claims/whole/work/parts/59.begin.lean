/-! copies of valleys -/
theorem pu_cpI {M : gz_M} {a0 a z0 z n : Nat} (h0 : M.2.1 a0 = (20, z0)) (h1 : M.2.1 a = (20, z)) (hn0 : n ≤ z0) (hn1 : n ≤ z) (hz : n < 2 ^ 31) : ∃ M', gz_cpI M a0 (0 : Int32) a (0 : Int32) (nI n) = some M' ∧ pIo a 0 (M.2.2.1 a0) M n M' := by
  have e0 : (0 : Int32).toNatClampNeg = 0 := by decide
  unfold gz_cpI
  rw [e0, nI_clamp hz, h0, h1, if_pos ⟨rfl, rfl, by decide, by decide, nI_pos hz, by show 0 + n ≤ z0; omega, by show 0 + n ≤ z; omega⟩]
  refine ⟨_, rfl, rfl, rfl, rfl, rfl, fun d hd => gz_u1_ne hd, fun j => ?_⟩
  show gz_u1 M.2.2.1 a (va_cpy (M.2.2.1 a0) (M.2.2.1 a) 0 0 n) a j = _
  rw [gz_u1_eq]
  by_cases c : 0 ≤ j ∧ j < 0 + n
  · rw [pk_cpy_in c.1 c.2, if_pos c, Nat.zero_add]
  · rw [pk_cpy_out (by omega), if_neg c]
def a5 (a c : Nat) : Prop := a ≤ c ∧ c < a + 5
theorem vc_tk (fu : Nat) {a a' : Nat} {V : pv_V} {M : gz_M} (h : vl_c a M) (hv : vy_c a' V M) (hd : a + 5 ≤ a' ∨ a' + 5 ≤ a) : ∃ M', f_X7_takeFrom fu M a a' = some M' ∧ pf_f (a5 a) M M' ∧ pv_c a V M' := by
  obtain ⟨o1, o2, o3⟩ := vc_ok hv
  have hq : ∀ c, a' ≤ c → c < a' + 5 → ¬ a5 a c := fun c q1 q2 => by unfold a5; omega
  have w1 : pf_f (a5 a) M (gz_sI M a 4 (nI (pv_nf V))) := pf_f.one (by unfold a5; omega)
  have w2 : pf_f (a5 a) M (gz_sI (gz_sI M a 4 (nI (pv_nf V))) a 5 (nI (pv_nl V))) := w1.two (by unfold a5; omega)
  have w3 : pf_f (a5 a) M (gz_sI (gz_sI (gz_sI M a 4 (nI (pv_nf V))) a 5 (nI (pv_nl V))) a 6 (nI (pv_out V))) := w2.two (by unfold a5; omega)
  have w4 : pf_f (a5 a) M (gz_sI (gz_sI (gz_sI (gz_sI M a 4 (nI (pv_nf V))) a 5 (nI (pv_nl V))) a 6 (nI (pv_out V))) a 7 (nI (pv_gr V))) := w3.two (by unfold a5; omega)
  have k4 : (gz_sI (gz_sI (gz_sI (gz_sI M a 4 (nI (pv_nf V))) a 5 (nI (pv_nl V))) a 6 (nI (pv_out V))) a 7 (nI (pv_gr V))).2.2.1 a 4 = nI (pv_nf V) ∧ (gz_sI (gz_sI (gz_sI (gz_sI M a 4 (nI (pv_nf V))) a 5 (nI (pv_nl V))) a 6 (nI (pv_out V))) a 7 (nI (pv_gr V))).2.2.1 a 5 = nI (pv_nl V) ∧ (gz_sI (gz_sI (gz_sI (gz_sI M a 4 (nI (pv_nf V))) a 5 (nI (pv_nl V))) a 6 (nI (pv_out V))) a 7 (nI (pv_gr V))).2.2.1 a 6 = nI (pv_out V) ∧ (gz_sI (gz_sI (gz_sI (gz_sI M a 4 (nI (pv_nf V))) a 5 (nI (pv_nl V))) a 6 (nI (pv_out V))) a 7 (nI (pv_gr V))).2.2.1 a 7 = nI (pv_gr V) := by
    simp only [pu_same]
    exact ⟨rfl, rfl, rfl, rfl⟩
  have v1 := hv.fr w1 hq
  have v2 := hv.fr w2 hq
  have v3 := hv.fr w3 hq
  have e1 := pu_pI (ci := 7) 4 (nI (pv_nf V)) h.1
  have e2 := pu_pI (ci := 7) 5 (nI (pv_nl V)) (h.same w1.2.1 w1.2.2.2.1).1
  have e3 := pu_pI (ci := 7) 6 (nI (pv_out V)) (h.same w2.2.1 w2.2.2.2.1).1
  have e4 := pu_pI (ci := 7) 7 (nI (pv_gr V)) (h.same w3.2.1 w3.2.2.2.1).1
  unfold f_X7_takeFrom
  rw [h.gd, vc_nf hv, Option.bind_some, e1, Option.bind_some, vc_nl v1, Option.bind_some, e2, Option.bind_some, vc_out v2, Option.bind_some, e3, Option.bind_some, vc_gr v3, Option.bind_some, e4, Option.bind_some]
  clear e1 e2 e3 e4 v1 v2 v3 w1 w2 w3
  generalize gz_sI (gz_sI (gz_sI (gz_sI M a 4 (nI (pv_nf V))) a 5 (nI (pv_nl V))) a 6 (nI (pv_out V))) a 7 (nI (pv_gr V)) = N at w4 k4
  obtain ⟨k4, k5, k6, k7⟩ := k4
  have v4 := hv.fr w4 hq
  have l4 : vl_c a N := h.same w4.2.1 w4.2.2.2.1
  obtain ⟨N1, n1, q1⟩ := pu_cpI (n := pv_nf V * 5) v4.1.2.1 l4.2.1 (by omega) (by omega) (by omega)
  have w5 : pf_f (a5 a) M N1 := w4.trans (q1.f (P := a5 a) (by unfold a5; omega)) (fun _ q => q) (fun _ q => q)
  have v5 := hv.fr w5 hq
  have l5 : vl_c a N1 := h.same w5.2.1 w5.2.2.2.1
  obtain ⟨N2, n2, q2⟩ := pu_cpI (n := pv_nl V * 4) v5.1.2.2.1 l5.2.2.1 (by omega) (by omega) (by omega)
  have w6 : pf_f (a5 a) M N2 := w5.trans (q2.f (P := a5 a) (by unfold a5; omega)) (fun _ q => q) (fun _ q => q)
  have v6 := hv.fr w6 hq
  have l6 : vl_c a N2 := h.same w6.2.1 w6.2.2.2.1
  obtain ⟨N3, n3, q3⟩ := pu_cpI (n := 3) v6.1.2.2.2.1 l6.2.2.2.1 (by omega) (by omega) (by omega)
  have w7 : pf_f (a5 a) M N3 := w6.trans (q3.f (P := a5 a) (by unfold a5; omega)) (fun _ q => q) (fun _ q => q)
  have v7 := hv.fr w7 hq
  have l7 : vl_c a N3 := h.same w7.2.1 w7.2.2.2.1
  obtain ⟨N4, n4, q4⟩ := pu_cpI (n := 3) v7.1.2.2.2.2.1 l7.2.2.2.2.1 (by omega) (by omega) (by omega)
  have w8 : pf_f (a5 a) M N4 := w7.trans (q4.f (P := a5 a) (by unfold a5; omega)) (fun _ q => q) (fun _ q => q)
  have g4 : gz_gI N 7 4 a = some (nI (pv_nf V)) := by rw [pu_gI (ci := 7) 4 l4.1, k4]
  have g5 : gz_gI N1 7 5 a = some (nI (pv_nl V)) := by rw [pu_gI (ci := 7) 5 l5.1, q1.2.2.2.2.1 a (by omega), k5]
  have m5 : nI (pv_nf V) * (5 : Int32) = nI (pv_nf V * 5) := pk_mul _ 5
  have m4 : nI (pv_nl V) * (4 : Int32) = nI (pv_nl V * 4) := pk_mul _ 4
  have n3' : gz_cpI N2 (a' + 3) (0 : Int32) (a + 3) (0 : Int32) (3 : Int32) = some N3 := n3
  have n4' : gz_cpI N3 (a' + 4) (0 : Int32) (a + 4) (0 : Int32) (3 : Int32) = some N4 := n4
  rw [pu_gR (ci := 7) v4.1.1 v4.1.2.2.2.2.2.1, Option.bind_some, pu_gR (ci := 7) l4.1 l4.2.2.2.2.2.1, Option.bind_some, g4, Option.bind_some, m5, n1, Option.bind_some, pu_gR (ci := 7) v5.1.1 v5.1.2.2.2.2.2.2.1, Option.bind_some, pu_gR (ci := 7) l5.1 l5.2.2.2.2.2.2.1, Option.bind_some, g5, Option.bind_some, m4, n2, Option.bind_some, pu_gR (ci := 7) v6.1.1 v6.1.2.2.2.2.2.2.2.1, Option.bind_some, pu_gR (ci := 7) l6.1 l6.2.2.2.2.2.2.2.1, Option.bind_some, n3', Option.bind_some, pu_gR (ci := 7) v7.1.1 v7.1.2.2.2.2.2.2.2.2, Option.bind_some, pu_gR (ci := 7) l7.1 l7.2.2.2.2.2.2.2.2, Option.bind_some, n4', Option.bind_some]
  have ra : N4.2.2.1 a = N.2.2.1 a := by rw [q4.2.2.2.2.1 _ (by omega), q3.2.2.2.2.1 _ (by omega), q2.2.2.2.2.1 _ (by omega), q1.2.2.2.2.1 _ (by omega)]
  refine ⟨N4, rfl, w8, ?_, ?_, ?_, ?_, fun m hm => ?_, fun m hm => ?_, fun j hj => ?_, fun j hj => ?_⟩
  · rw [ra]; exact k4
  · rw [ra]; exact k5
  · rw [ra]; exact k6
  · rw [ra]; exact k7
  · rw [q4.2.2.2.2.1 _ (by omega), q3.2.2.2.2.2, if_pos (by omega)]; exact v6.2.2.2.2.2.2.1 m hm
  · rw [q4.2.2.2.2.2, if_pos (by omega)]; exact v7.2.2.2.2.2.2.2.1 m hm
  · rw [q4.2.2.2.2.1 _ (by omega), q3.2.2.2.2.1 _ (by omega), q2.2.2.2.2.1 _ (by omega), q1.2.2.2.2.2, if_pos (by omega)]; exact v4.2.2.2.2.2.2.2.2.1 j hj
  · rw [q4.2.2.2.2.1 _ (by omega), q3.2.2.2.2.1 _ (by omega), q2.2.2.2.2.2, if_pos (by omega)]; exact v5.2.2.2.2.2.2.2.2.2 j hj
theorem vm_over {fu : Nat} (hfu : 5000 ≤ fu) {M : gz_M} {a a' n : Nat} (h0 : M.2.1 a = (20, n)) (h1 : M.2.1 a' = (20, n)) (hd : a ≠ a') (hn : n ≤ 1000) : ∃ M', f_X10_over fu M a a' = some M' ∧ pIo a' 0 (M.2.2.1 a) M n M' := by
  unfold f_X10_over
  obtain ⟨M', g1, g2⟩ := pl_up (σ := gz_M) (fun fuel i s => lp_X10_over_2 (fun M6 => some M6) a a' fuel i s) (fun s => some s) (fun i s => pIo a' 0 (M.2.2.1 a) M i s) n (fun fuel i s hi hp => by
    refine ⟨_, hp.step, ?_⟩
    have k0 : s.2.1 a = (20, n) := by rw [hp.2.1]; exact h0
    have k1 : s.2.1 a' = (20, n) := by rw [hp.2.1]; exact h1
    try dsimp only
    rw [lp_X10_over_2, pu_ln k0 (by omega), Option.bind_some, if_neg (pn_nle hi (by omega)), pu_aI k0 hi (by omega), Option.bind_some, pu_tI _ k1 hi (by omega), Option.bind_some, pn_1, hp.2.2.2.2.1 a hd, Nat.zero_add]) (fun fuel s hp => by
    have k0 : s.2.1 a = (20, n) := by rw [hp.2.1]; exact h0
    try dsimp only
    rw [lp_X10_over_2, pu_ln k0 (by omega), Option.bind_some, if_pos (pn_le (Nat.le_refl _) (by omega))]) n 0 M fu (by omega) (by omega) pIo.zero
  exact ⟨M', g2, g1⟩
/-- the valley k of the reference at mo goes to the valley k' of that at mo' -/
def m3 (mo k c : Nat) : Prop := c = mo + 20 + k ∨ c = mo + 26 + k ∨ c = mo + 32 + k
theorem vm_cp {fu : Nat} (hfu : 5000 ≤ fu) {M : gz_M} {mo k mo' k' : Nat} (h : vl_m mo k M) (h' : vl_m mo' k' M) (hd : mo + 20 + k ≠ mo' + 20 + k' ∧ (mo = mo' ∨ mo + 43 ≤ mo' ∨ mo' + 43 ≤ mo)) : ∃ A B C, f_X10_over fu M (mo + 20 + k) (mo' + 20 + k') = some A ∧ f_X10_over fu A (mo + 26 + k) (mo' + 26 + k') = some B ∧ f_X10_over fu B (mo + 32 + k) (mo' + 32 + k') = some C ∧ pf_f (m3 mo' k') M A ∧ pf_f (m3 mo' k') M B ∧ pf_f (m3 mo' k') M C ∧ ∀ V, pv_ok V → pv_m mo k V M → pv_m mo' k' V C := by
  have hk := h.2
  have hk' := h'.2
  obtain ⟨A, a1, a2⟩ := vm_over hfu h.1.2.2.2.2.1 h'.1.2.2.2.2.1 hd.1 (by omega)
  have wA : pf_f (m3 mo' k') M A := a2.f (by unfold m3; omega)
  have hA := h.same wA.2.1 wA.2.2.2.1
  have hA' := h'.same wA.2.1 wA.2.2.2.1
  obtain ⟨B, b1, b2⟩ := vm_over hfu hA.1.2.2.2.2.2.1 hA'.1.2.2.2.2.2.1 (by omega) (by omega)
  have wB : pf_f (m3 mo' k') M B := wA.trans (b2.f (P := m3 mo' k') (by unfold m3; omega)) (fun _ q => q) (fun _ q => q)
  have hB := h.same wB.2.1 wB.2.2.2.1
  have hB' := h'.same wB.2.1 wB.2.2.2.1
  obtain ⟨C, c1, c2⟩ := vm_over hfu hB.1.2.2.2.2.2.2.1 hB'.1.2.2.2.2.2.2.1 (by omega) (by omega)
  have wC : pf_f (m3 mo' k') M C := wB.trans (c2.f (P := m3 mo' k') (by unfold m3; omega)) (fun _ q => q) (fun _ q => q)
  refine ⟨A, B, C, a1, b1, c1, wA, wB, wC, fun V hV hm => ?_⟩
  obtain ⟨p1, p2, p3, p4, p5, p6, p7, p8⟩ := hm
  have o1 := hV.1
  have o2 := hV.2.1
  have r1 : ∀ j, j < 10 → C.2.2.1 (mo' + 20 + k') j = M.2.2.1 (mo + 20 + k) j := fun j hj => by rw [c2.2.2.2.2.1 _ (by omega), b2.2.2.2.2.1 _ (by omega), a2.2.2.2.2.2, if_pos (by omega), Nat.sub_zero]
  have r2 : ∀ j, j < 60 → C.2.2.1 (mo' + 26 + k') j = M.2.2.1 (mo + 26 + k) j := fun j hj => by rw [c2.2.2.2.2.1 _ (by omega), b2.2.2.2.2.2, if_pos (by omega), a2.2.2.2.2.1 _ (by omega), Nat.sub_zero]
  have r3 : ∀ j, j < 40 → C.2.2.1 (mo' + 32 + k') j = M.2.2.1 (mo + 32 + k) j := fun j hj => by rw [c2.2.2.2.2.2, if_pos (by omega), b2.2.2.2.2.1 _ (by omega), a2.2.2.2.2.1 _ (by omega), Nat.sub_zero]
  refine ⟨?_, ?_, ?_, ?_, fun m hm => ?_, fun m hm => ?_, fun j hj => ?_, fun j hj => ?_⟩
  · rw [r1 _ (by omega)]; exact p1
  · rw [r1 _ (by omega)]; exact p2
  · rw [r1 _ (by omega)]; exact p3
  · rw [r1 _ (by omega)]; exact p4
  · rw [r1 _ (by omega)]; exact p5 m hm
  · rw [r1 _ (by omega)]; exact p6 m hm
  · rw [r2 _ (by omega)]; exact p7 j hj
  · rw [r3 _ (by omega)]; exact p8 j hj
/-! the going-through -/
def pc_G (b c : Nat) : Prop := (b + 7 ≤ c ∧ c < b + 13) ∨ c = b + 110 ∨ c = b + 134 ∨ c = b + 140 ∨ c = b + 146
theorem pi_I.going {b : Nat} {M M' : gz_M} (h : pi_I b M) (w : pf_f (pc_G b) M M') (hf : ∀ k, ¬ (15 ≤ k ∧ k ≤ 19) → M'.2.2.1 (b + 110) k = M.2.2.1 (b + 110) k) (hg : pg_g (b + 5) (b + 110) M') : pi_I b M' := by
  obtain ⟨h1, h2, h3, h4, h5, h6, ⟨⟨n, hn, n1, n2, n3⟩, h7⟩, h8⟩ := h
  obtain ⟨w1, w2, w3, w4, w5⟩ := w
  have w6 : ∀ c, c < b + 7 ∨ (b + 13 ≤ c ∧ c < b + 110) ∨ (b + 111 ≤ c ∧ c < b + 134) ∨ (b + 135 ≤ c ∧ c < b + 140) ∨ (b + 141 ≤ c ∧ c < b + 146) ∨ b + 147 ≤ c → M'.2.2.1 c = M.2.2.1 c := fun c q => w5 c (by unfold pc_G; omega)
  refine ⟨h1.same w2 w4, h2.same w2 w4, by omega, h4.same (w6 _ (by omega)) (w6 _ (by omega)) (w6 _ (by omega)), h5.same (w6 _ (by omega)) (w6 _ (by omega)) (hf 9 (by omega)) (w6 _ (by omega)), h6.same (fun c q => ⟨w6 _ (by omega), by rw [w3]⟩), ⟨⟨n, hn, by rw [w6 _ (by omega)]; exact n1, by rw [hf 11 (by omega)]; exact n2, fun v hv => ?_⟩, hg⟩, h8.same (by omega) w2 w4 (by rw [w6 _ (by omega)]) (fun c q => w6 _ (by omega))⟩
  obtain ⟨U, u1, u2, u3⟩ := n3 v hv
  exact ⟨U, u1, u2.same (fun c q1 q2 => w6 _ (by omega)), u3.same (w6 _ (by omega)) (w6 _ (by omega)) (w6 _ (by omega))⟩
theorem lc_g {b : Nat} {M : gz_M} (h : iv_L b M) : gz_gR M 9 3 b = some (b + 5) ∧ gz_gR M 8 1 (b + 5) = some (b + 7) ∧ M.2.1 (b + 7) = (2, 0) ∧ gz_gR M 1 0 (b + 7) = some (b + 8) ∧ vl_c (b + 8) M := ⟨lc_R h 3 5 (by decide), pu_gR (ci := 8) (h.1 5 _ rfl) (h.2 5 1 7 (by decide)), h.1 7 _ rfl, pu_gR (ci := 1) (h.1 7 _ rfl) (h.2 7 0 8 (by decide)), h.1 8 _ rfl, h.1 9 _ rfl, h.1 10 _ rfl, h.1 11 _ rfl, h.1 12 _ rfl, h.2 8 0 9 (by decide), h.2 8 1 10 (by decide), h.2 8 2 11 (by decide), h.2 8 3 12 (by decide)⟩
theorem vl_mk {mo k : Nat} {M : gz_M} (h : iv_O mo M) (hk : k < 5) : vl_m mo k M := by
  obtain ⟨h1, h2, h3⟩ := ly_dm1 k hk
  obtain ⟨h4, h5, h6⟩ := ly_dm2 k hk
  have e : ∀ n, mo + (n + k) = mo + n + k := fun n => by omega
  have q1 := h.1 _ _ h4
  have q2 := h.1 _ _ h5
  have q3 := h.1 _ _ h6
  have r1 := h.2 _ _ _ h1
  have r2 := h.2 _ _ _ h2
  have r3 := h.2 _ _ _ h3
  rw [e] at q1 q2 q3 r1 r2 r3
  exact ⟨⟨h.1 0 _ rfl, h.1 19 _ rfl, h.1 25 _ rfl, h.1 31 _ rfl, q1, q2, q3, h.2 0 12 19 (by decide), h.2 0 13 25 (by decide), h.2 0 14 31 (by decide), r1, r2, r3⟩, hk⟩
theorem vc_beg (fu : Nat) {b k n : Nat} {V : pv_V} {M : gz_M} (hv : vb b k V M) : ∃ M1, f_X1_start fu M (b + 7) (b + 13 + 5 * k) (nI k) (nI n) = some M1 ∧ pf_f (fun c => b + 7 ≤ c ∧ c < b + 13) M M1 ∧ pv_c (b + 8) V M1 ∧ M1.2.2.1 (b + 7) 1 = 1 ∧ M1.2.2.1 (b + 7) 2 = nI k ∧ M1.2.2.1 (b + 7) 3 = nI n ∧ M1.2.2.1 (b + 7) 4 = 0 ∧ M1.2.2.1 (b + 7) 5 = -1 ∧ M1.2.2.1 (b + 7) 6 = -1 := by
  have hk := hv.2.2.1
  obtain ⟨g1, g2, g3, g4, g5⟩ := lc_g hv.1
  obtain ⟨N, n1, n2, n3⟩ := vc_tk fu g5 hv.c (by omega)
  have kN : N.2.1 (b + 7) = (2, 0) := by rw [n2.2.1]; exact g3
  unfold f_X1_start
  rw [pu_gd (ci := 1) g3, g4, Option.bind_some, n1, Option.bind_some, pu_pZ (ci := 1) 1 1 kN (Or.inr rfl), Option.bind_some, pu_pI (ci := 1) 2 _ (show (gz_sI N (b + 7) 1 1).2.1 (b + 7) = (2, 0) from kN), Option.bind_some, pu_pI (ci := 1) 3 _ (show (gz_sI (gz_sI N (b + 7) 1 1) (b + 7) 2 (nI k)).2.1 (b + 7) = (2, 0) from kN), Option.bind_some, pu_pI (ci := 1) 4 _ (show (gz_sI (gz_sI (gz_sI N (b + 7) 1 1) (b + 7) 2 (nI k)) (b + 7) 3 (nI n)).2.1 (b + 7) = (2, 0) from kN), Option.bind_some, pu_pI (ci := 1) 5 _ (show (gz_sI (gz_sI (gz_sI (gz_sI N (b + 7) 1 1) (b + 7) 2 (nI k)) (b + 7) 3 (nI n)) (b + 7) 4 0).2.1 (b + 7) = (2, 0) from kN), Option.bind_some, pu_pI (ci := 1) 6 _ (show (gz_sI (gz_sI (gz_sI (gz_sI (gz_sI N (b + 7) 1 1) (b + 7) 2 (nI k)) (b + 7) 3 (nI n)) (b + 7) 4 0) (b + 7) 5 (-1)).2.1 (b + 7) = (2, 0) from kN), Option.bind_some]
  have w : pf_f (fun c => b + 7 ≤ c ∧ c < b + 13) M N := n2.trans pf_f.refl (fun c q => by unfold a5 at q; omega) (fun c (q : False) => q.elim)
  refine ⟨_, rfl, (((((w.two ?_).two ?_).two ?_).two ?_).two ?_).two ?_, n3.same (fun c q1 q2 => ?_), ?_⟩
  iterate 6 (show b + 7 ≤ b + 7 ∧ b + 7 < b + 13; omega)
  · rw [pv_I1 (by omega), pv_I1 (by omega), pv_I1 (by omega), pv_I1 (by omega), pv_I1 (by omega), pv_I1 (by omega)]
  · simp only [pu_same]
    exact ⟨rfl, rfl, rfl, rfl, rfl, rfl⟩
theorem vm_beg {fu : Nat} (hfu : 5000 ≤ fu) {b k n : Nat} {V : pv_V} {M : gz_M} (hk : k < 4) (hO : iv_O (b + 110) M) (hy : vy_m (b + 110) k V M) : ∃ M2, (∀ x1 : Int32, ¬ x1 = 0 → f_X10_isMany fu M (b + 110) (nI k) (nI n) (10 : Int32) = some x1 → f_X10_begin fu M (b + 110) (nI k) (nI n) = some (nI (2 ^ pv_nl V), M2)) ∧ pf_f (fun c => c = b + 110 ∨ c = b + 134 ∨ c = b + 140 ∨ c = b + 146) M M2 ∧ pv_m (b + 110) 4 V M2 ∧ (∀ j, ¬ (15 ≤ j ∧ j ≤ 19) → M2.2.2.1 (b + 110) j = M.2.2.1 (b + 110) j) ∧ M2.2.2.1 (b + 110) 15 = nI k ∧ M2.2.2.1 (b + 110) 16 = nI n ∧ M2.2.2.1 (b + 110) 17 = 0 ∧ M2.2.2.1 (b + 110) 18 = -1 := by
  have hok := vm_ok hy
  have h1 := Nat.one_le_two_pow (n := pv_nl V)
  have l4 := vl_mk hO (show 4 < 5 by omega)
  obtain ⟨A, B, C, c1, c2, c3, wA, wB, wC, hC⟩ := vm_cp hfu hy.l l4 (by omega)
  have hC := hC V hok hy.2.2.2
  have kC : C.2.1 (b + 110) = (11, 0) := by rw [wC.2.1]; exact ly_m0 hO
  have vA : vl_m (b + 110) k A := hy.l.same wA.2.1 wA.2.2.2.1
  have lA : vl_m (b + 110) 4 A := l4.same wA.2.1 wA.2.2.2.1
  have vB : vl_m (b + 110) k B := hy.l.same wB.2.1 wB.2.2.2.1
  have lB : vl_m (b + 110) 4 B := l4.same wB.2.1 wB.2.2.2.1
  have w : pf_f (fun c => c = b + 110 ∨ c = b + 134 ∨ c = b + 140 ∨ c = b + 146) M C := wC.trans pf_f.refl (fun c q => by unfold m3 at q; omega) (fun c (q : False) => q.elim)
  have w2 : pf_f (fun c => c = b + 110 ∨ c = b + 134 ∨ c = b + 140 ∨ c = b + 146) M (gz_sI (gz_sI (gz_sI (gz_sI (gz_sI C (b + 110) 15 (nI k)) (b + 110) 16 (nI n)) (b + 110) 17 0) (b + 110) 18 (-1)) (b + 110) 19 0) := ((((w.two (Or.inl rfl)).two (Or.inl rfl)).two (Or.inl rfl)).two (Or.inl rfl)).two (Or.inl rfl)
  refine ⟨gz_sI (gz_sI (gz_sI (gz_sI (gz_sI C (b + 110) 15 (nI k)) (b + 110) 16 (nI n)) (b + 110) 17 0) (b + 110) 18 (-1)) (b + 110) 19 0, fun x1 hx e => ?_, w2, ?_, fun j hj => ?_, ?_⟩
  · have y3 : vy_m (b + 110) k V (gz_sI (gz_sI (gz_sI (gz_sI (gz_sI C (b + 110) 15 (nI k)) (b + 110) 16 (nI n)) (b + 110) 17 0) (b + 110) 18 (-1)) (b + 110) 19 0) := (hy.l.same w2.2.1 w2.2.2.2.1).y hok (hy.2.2.2.same (w2.2.2.2.2 _ (by omega)) (w2.2.2.2.2 _ (by omega)) (w2.2.2.2.2 _ (by omega)))
    have v4 : gz_aR M (b + 110 + 19) (4 : Int32) = some (b + 110 + 20 + 4) := (vl_v l4).2.1
    have f4 : gz_aR A (b + 110 + 25) (4 : Int32) = some (b + 110 + 26 + 4) := (vl_f lA).2.1
    have s4 : gz_aR B (b + 110 + 31) (4 : Int32) = some (b + 110 + 32 + 4) := (vl_l lB).2.1
    unfold f_X10_begin
    rw [hO.g, e, Option.bind_some, if_neg hx, (vl_v l4).1, Option.bind_some, (vl_v hy.l).2.1, Option.bind_some, Option.bind_some, v4, Option.bind_some, c1, Option.bind_some, (vl_f lA).1, Option.bind_some, (vl_f vA).2.1, Option.bind_some, Option.bind_some, f4, Option.bind_some, c2, Option.bind_some, (vl_l lB).1, Option.bind_some, (vl_l vB).2.1, Option.bind_some, Option.bind_some, s4, Option.bind_some, c3, Option.bind_some, pu_pI (ci := 10) 15 _ kC, Option.bind_some, pu_pI (ci := 10) 16 _ (show (gz_sI C (b + 110) 15 (nI k)).2.1 (b + 110) = (11, 0) from kC), Option.bind_some, pu_pI (ci := 10) 17 _ (show (gz_sI (gz_sI C (b + 110) 15 (nI k)) (b + 110) 16 (nI n)).2.1 (b + 110) = (11, 0) from kC), Option.bind_some, pu_pI (ci := 10) 18 _ (show (gz_sI (gz_sI (gz_sI C (b + 110) 15 (nI k)) (b + 110) 16 (nI n)) (b + 110) 17 0).2.1 (b + 110) = (11, 0) from kC), Option.bind_some, pu_pI (ci := 10) 19 _ (show (gz_sI (gz_sI (gz_sI (gz_sI C (b + 110) 15 (nI k)) (b + 110) 16 (nI n)) (b + 110) 17 0) (b + 110) 18 (-1)).2.1 (b + 110) = (11, 0) from kC), Option.bind_some, vm_all fu y3, Option.bind_some, pn_pow, pn_1, show 2 ^ pv_nl V - 1 + 1 = 2 ^ pv_nl V by omega]
  · refine hC.same ?_ ?_ ?_ <;> rw [pv_I1 (by omega), pv_I1 (by omega), pv_I1 (by omega), pv_I1 (by omega), pv_I1 (by omega)]
  · simp only [pu_same]
    rw [if_neg (by omega), if_neg (by omega), if_neg (by omega), if_neg (by omega), if_neg (by omega), wC.2.2.2.2 _ (by unfold m3; omega)]
  · simp only [pu_same]
    exact ⟨rfl, rfl, rfl, rfl⟩
theorem op_begin (b : Nat) {fu : Nat} (hfu : 5000 ≤ fu) : gz_op_begin (pi_I b) fu b (b + 110) := by
  intro M v n hI
  rcases pg_val hI v with ⟨k, V, rfl, hv⟩ | hz
  · have hok := hv.ok
    have o1 := hok.1
    have o2 := hok.2.1
    have op2 : 2 ^ pv_nl V ≤ 2 ^ 10 := Nat.pow_le_pow_right (by omega) o2
    by_cases hc : (0 ≤ n ∧ n ≤ 10)
    · have c1 := hc
      obtain ⟨n, hn, rfl⟩ := pu_num (n := 10) (by decide) c1
      have hk := hv.2.2.1
      obtain ⟨M1, q1, w1, p1, p2, p3, p4, p5, p6, p7⟩ := vc_beg fu (n := n) hv
      have L1 := hv.1.same w1.2.1 w1.2.2.2.1
      have O1 := hv.2.1.same w1.2.1 w1.2.2.2.1
      have y1 : vy_m (b + 110) k V M1 := hv.m.fr w1 (fun c z1 z2 => by omega)
      obtain ⟨M2, s1, w2, t1, t2, t3, t4, t5, t6⟩ := vm_beg (b := b) (n := n) hfu hk O1 y1
      have hm : f_X10_isMany fu M1 (b + 110) (nI k) (nI n) (10 : Int32) = some 1 := by
        have e := hv.nM fu (nI n) 10
        rw [if_pos c1] at e
        rw [← e]
        unfold f_X10_isMany f_X10_isValley
        rw [hv.gM, O1.g, hv.gM, O1.g, pu_gI (ci := 10) 11 (ly_m0 hv.2.1), pu_gI (ci := 10) 11 (ly_m0 O1), w1.2.2.2.2 _ (by omega)]
        rfl
      obtain ⟨g1, g2, g3, g4, g5⟩ := lc_g hv.1
      obtain ⟨k1, k2, k3, k4, k5⟩ := lc_g L1
      have hs : f_X1_sets fu M1 (b + 7) = some (nI (2 ^ pv_nl V)) := by
        unfold f_X1_sets
        rw [pu_gd (ci := 1) k3, k4, Option.bind_some, pu_gI (ci := 7) 5 k5.1, p1.2.1, Option.bind_some, pn_shl (by omega)]
      refine ⟨nI (2 ^ pv_nl V), M1, M2, ?_, s1 1 (by decide) hm, ?_⟩
      · simp only [f_X9_begin, gz_jn, hv.gC, hv.vC fu, hv.fC fu, hv.lC fu, hv.sC fu, pu_within, pu_shelf, pu_count, Option.bind_some, pu_ii, pu_10, if_true, gz_b2, if_pos c1, hv.p2, hv.p3, g1, g2, q1, k1, k2, hs]
      · have h10 : n ≤ 10 := hn
        refine hI.going (w1.trans w2 (fun c q => by unfold pc_G; omega) (fun c q => by unfold pc_G; omega)) (fun j hj => ?_) ⟨V, hok, p1.same (fun c z1 z2 => w2.2.2.2.2 _ (by omega)), Or.inr ⟨?_, k, n, 0, hk, h10, Nat.zero_le _, ?_, t3, ?_, t4, ?_, t5, t1, Or.inl ⟨?_, ?_, t6⟩⟩⟩
        · rw [t2 j hj, w1.2.2.2.2 _ (by omega)]
        · rw [w2.2.2.2.2 _ (by omega)]; exact p2
        · rw [w2.2.2.2.2 _ (by omega)]; exact p3
        · rw [w2.2.2.2.2 _ (by omega)]; exact p4
        · rw [w2.2.2.2.2 _ (by omega)]; exact p5
        · rw [w2.2.2.2.2 _ (by omega)]; exact p6
        · rw [w2.2.2.2.2 _ (by omega)]; exact p7
    · obtain ⟨M1, M2, r1, r2, r3, hw⟩ := pu_rfw fu hI 0 (by decide) (-2) pu_k2
      refine ⟨-2, M1, M2, ?_, ?_, r3⟩
      · simp only [f_X9_begin, gz_jn, hv.gC, hv.vC fu, hv.fC fu, hv.lC fu, hv.sC fu, pu_within, pu_shelf, pu_count, Option.bind_some, pu_ii, pu_10, if_true, gz_b2, r1, if_neg hc]
      · have hv' := hv.same hw
        simp only [f_X10_begin, gz_jn, hv'.gM, hv'.vM fu, hv'.fM fu, hv'.lM fu, hv'.sM fu, hv'.nM fu, pn_0_1, pn_0_2, pn_0_3, pn_0_4, pn_0_5, pn_0_7, pn_0_10, pn_0_40, pn_1_4, pn_1_6, pn_1_9, Option.bind_some, pu_ii, pu_10, if_true, gz_b2, r2, if_neg hc]
  · obtain ⟨M1, M2, r1, r2, r3, hw⟩ := pu_rfw fu hI 0 (by decide) (-2) pu_k2
    refine ⟨-2, M1, M2, ?_, ?_, r3⟩
    · simp only [f_X9_begin, gz_jn, hz.gC, hz.vC fu, hz.fC fu, hz.lC fu, hz.sC fu, pu_within, pu_shelf, pu_count, Option.bind_some, pu_ii, pu_10, if_true, gz_b2, r1]
    · have hv' := hz.same hw
      simp only [f_X10_begin, gz_jn, hv'.gM, hv'.vM fu, hv'.fM fu, hv'.lM fu, hv'.sM fu, hv'.nM fu, pn_0_1, pn_0_2, pn_0_3, pn_0_4, pn_0_5, pn_0_7, pn_0_10, pn_0_40, pn_1_4, pn_1_6, pn_1_9, Option.bind_some, pu_ii, pu_10, if_true, gz_b2, r2]
