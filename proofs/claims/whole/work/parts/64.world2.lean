/-! copies of worlds: the reference -/
theorem vy_over5 {mo : Nat} {M M' : gz_M} (h : iv_O mo M) (h0 : M'.2.1 = M.2.1) (h3 : M'.2.2.2.2 = M.2.2.2.2) {k : Nat} (hk : k < 5) : vl_m mo k M' := vl_mk (h.same h0 h3) hk
def mQ (mo c : Nat) : Prop := mo + 20 ≤ c ∧ c < mo + 37
theorem mc_tk {fu : Nat} (hfu : 5000 ≤ fu) {mo mo' : Nat} {M : gz_M} (h : iv_O mo M) (h' : iv_O mo' M) (hd : mo + 43 ≤ mo' ∨ mo' + 43 ≤ mo) : ∃ M', f_X10_takeFrom fu M mo mo' = some M' ∧ pf_f (fun c => c = mo ∨ mQ mo c) M M' ∧ (∀ k, k = 11 ∨ (15 ≤ k ∧ k ≤ 19) → M'.2.2.1 mo k = M.2.2.1 mo' k) ∧ (∀ k, ¬ (k = 11 ∨ (15 ≤ k ∧ k ≤ 19)) → M'.2.2.1 mo k = M.2.2.1 mo k) ∧ ∀ v, v < 5 → ∀ V, pv_ok V → pv_m mo' v V M → pv_m mo v V M' := by
  have ne : mo' ≠ mo := by omega
  have k0 := ly_m0 h
  have k1 := ly_m0 h'
  have w0 : pf_f (fun c => c = mo ∨ mQ mo c) M (gz_sI M mo 11 (M.2.2.1 mo' 11)) := pf_f.one (Or.inl rfl)
  unfold f_X10_takeFrom
  rw [h.g, pu_gI (ci := 10) 11 k1, Option.bind_some, pu_pI (ci := 10) 11 _ k0, Option.bind_some]
  generalize hJ : (fun (M20 : gz_M) => (gz_gI M20 10 15 mo').bind fun x21 => (gz_pI M20 10 15 mo x21).bind fun M22 => (gz_gI M22 10 16 mo').bind fun x23 => (gz_pI M22 10 16 mo x23).bind fun M24 => (gz_gI M24 10 17 mo').bind fun x25 => (gz_pI M24 10 17 mo x25).bind fun M26 => (gz_gI M26 10 18 mo').bind fun x27 => (gz_pI M26 10 18 mo x27).bind fun M28 => (gz_gI M28 10 19 mo').bind fun x29 => (gz_pI M28 10 19 mo x29).bind fun M30 => some M30) = J
  obtain ⟨N, ⟨g1, g2, g3⟩, g4⟩ := pl_up (σ := gz_M) (fun fuel i s => lp_X10_takeFrom_10 J fu mo mo' fuel i s) J (fun i N => pf_f (fun c => c = mo ∨ mQ mo c) M N ∧ N.2.2.1 mo = (gz_sI M mo 11 (M.2.2.1 mo' 11)).2.2.1 mo ∧ ∀ v, v < i → ∀ V, pv_ok V → pv_m mo' v V M → pv_m mo v V N) 5 (fun fuel i N hi hq => by
    obtain ⟨z1, z2, z3⟩ := hq
    have l := vy_over5 h z1.2.1 z1.2.2.2.1 hi
    have l' := vy_over5 h' z1.2.1 z1.2.2.2.1 hi
    obtain ⟨A, B, C, c1, c2, c3, wA, wB, wC, hC⟩ := vm_cp hfu l' l (by omega)
    have lA := l.same wA.2.1 wA.2.2.2.1
    have lA' := l'.same wA.2.1 wA.2.2.2.1
    have lB := l.same wB.2.1 wB.2.2.2.1
    have lB' := l'.same wB.2.1 wB.2.2.2.1
    refine ⟨C, ⟨z1.trans wC (fun _ q => q) (fun c q => by unfold m3 at q; unfold mQ; omega), ?_, fun v hv V hV hm => ?_⟩, ?_⟩
    · rw [wC.2.2.2.2 _ (by unfold m3; omega)]; exact z2
    · by_cases e : v = i
      · subst e
        exact hC V hV (hm.same (z1.2.2.2.2 _ (by unfold mQ; omega)) (z1.2.2.2.2 _ (by unfold mQ; omega)) (z1.2.2.2.2 _ (by unfold mQ; omega)))
      · exact (z3 v (by omega) V hV hm).same (wC.2.2.2.2 _ (by unfold m3; omega)) (wC.2.2.2.2 _ (by unfold m3; omega)) (wC.2.2.2.2 _ (by unfold m3; omega))
    · try dsimp only
      rw [lp_X10_takeFrom_10, if_neg (show ¬ (5 : Int32) ≤ nI i from pn_nle (n := 5) hi (by omega)), (vl_v l').1, Option.bind_some, (vl_v l').2.1, Option.bind_some, (vl_v l).1, Option.bind_some, (vl_v l).2.1, Option.bind_some, c1, Option.bind_some, (vl_f lA').1, Option.bind_some, (vl_f lA').2.1, Option.bind_some, (vl_f lA).1, Option.bind_some, (vl_f lA).2.1, Option.bind_some, c2, Option.bind_some, (vl_l lB').1, Option.bind_some, (vl_l lB').2.1, Option.bind_some, (vl_l lB).1, Option.bind_some, (vl_l lB).2.1, Option.bind_some, c3, Option.bind_some, pn_1]) (fun fuel N hq => by
    try dsimp only
    rw [lp_X10_takeFrom_10, if_pos (show (5 : Int32) ≤ nI 5 by decide)]) 5 0 (gz_sI M mo 11 (M.2.2.1 mo' 11)) fu (by omega) (by omega) ⟨w0, rfl, fun v hv => by omega⟩
  have kN : N.2.1 mo = (11, 0) := by rw [g1.2.1]; exact k0
  have kN' : N.2.1 mo' = (11, 0) := by rw [g1.2.1]; exact k1
  have eN : N.2.2.1 mo' = M.2.2.1 mo' := g1.2.2.2.2 _ (by unfold mQ; omega)
  have step : ∀ (k : Nat) (N1 : gz_M) (F : gz_M → Option gz_M), N1.2.1 = N.2.1 → N1.2.2.1 mo' = M.2.2.1 mo' → ((gz_gI N1 10 k mo').bind fun x => (gz_pI N1 10 k mo x).bind F) = F (gz_sI N1 mo k (M.2.2.1 mo' k)) := fun k N1 F e1 e2 => by
    rw [pu_gI (ci := 10) k (show N1.2.1 mo' = (11, 0) by rw [e1]; exact kN'), e2, Option.bind_some, pu_pI (ci := 10) k _ (show N1.2.1 mo = (11, 0) by rw [e1]; exact kN), Option.bind_some]
  have e1 : (gz_sI N mo 15 (M.2.2.1 mo' 15)).2.2.1 mo' = M.2.2.1 mo' := by rw [pv_I1 ne]; exact eN
  have e2 : (gz_sI (gz_sI N mo 15 (M.2.2.1 mo' 15)) mo 16 (M.2.2.1 mo' 16)).2.2.1 mo' = M.2.2.1 mo' := by rw [pv_I1 ne]; exact e1
  have e3 : (gz_sI (gz_sI (gz_sI N mo 15 (M.2.2.1 mo' 15)) mo 16 (M.2.2.1 mo' 16)) mo 17 (M.2.2.1 mo' 17)).2.2.1 mo' = M.2.2.1 mo' := by rw [pv_I1 ne]; exact e2
  have e4 : (gz_sI (gz_sI (gz_sI (gz_sI N mo 15 (M.2.2.1 mo' 15)) mo 16 (M.2.2.1 mo' 16)) mo 17 (M.2.2.1 mo' 17)) mo 18 (M.2.2.1 mo' 18)).2.2.1 mo' = M.2.2.1 mo' := by rw [pv_I1 ne]; exact e3
  refine ⟨gz_sI (gz_sI (gz_sI (gz_sI (gz_sI N mo 15 (M.2.2.1 mo' 15)) mo 16 (M.2.2.1 mo' 16)) mo 17 (M.2.2.1 mo' 17)) mo 18 (M.2.2.1 mo' 18)) mo 19 (M.2.2.1 mo' 19), ?_, ((((g1.two (Or.inl rfl)).two (Or.inl rfl)).two (Or.inl rfl)).two (Or.inl rfl)).two (Or.inl rfl), fun k hk => ?_, fun k hk => ?_, fun v hv V hV hm => ?_⟩
  · refine g4.trans ?_
    subst hJ
    try dsimp only
    rw [step 15 N _ rfl eN, step 16 (gz_sI N mo 15 (M.2.2.1 mo' 15)) _ rfl e1, step 17 (gz_sI (gz_sI N mo 15 (M.2.2.1 mo' 15)) mo 16 (M.2.2.1 mo' 16)) _ rfl e2, step 18 (gz_sI (gz_sI (gz_sI N mo 15 (M.2.2.1 mo' 15)) mo 16 (M.2.2.1 mo' 16)) mo 17 (M.2.2.1 mo' 17)) _ rfl e3, step 19 (gz_sI (gz_sI (gz_sI (gz_sI N mo 15 (M.2.2.1 mo' 15)) mo 16 (M.2.2.1 mo' 16)) mo 17 (M.2.2.1 mo' 17)) mo 18 (M.2.2.1 mo' 18)) _ rfl e4]
  · have : k = 11 ∨ k = 15 ∨ k = 16 ∨ k = 17 ∨ k = 18 ∨ k = 19 := by omega
    simp only [pu_same, g2]
    rcases this with rfl | rfl | rfl | rfl | rfl | rfl <;> rfl
  · simp only [pu_same, g2]
    rw [if_neg (by omega), if_neg (by omega), if_neg (by omega), if_neg (by omega), if_neg (by omega), if_neg (by omega)]
  · refine (g3 v hv V hV hm).same ?_ ?_ ?_ <;> rw [pv_I1 (by omega), pv_I1 (by omega), pv_I1 (by omega), pv_I1 (by omega), pv_I1 (by omega)]
