/-! says -/
theorem op_says (b : Nat) {fu : Nat} (hfu : 5000 ≤ fu) : gz_op_says (pi_I b) fu b (b + 110) := by
  intro M p0 p1 hI
  obtain ⟨h1, h2, h3, h4, h5, h6, h7, h8⟩ := id hI
  by_cases hc : (0 ≤ p0 ∧ p0 ≤ 7) ∧ (0 ≤ p1 ∧ p1 ≤ 5)
  · obtain ⟨c0, c1⟩ := hc
    obtain ⟨s, hs, rfl⟩ := pu_sh8 c0
    rcases pg_sh hI hs with hf | ⟨t, n, hr⟩ | ⟨t, l, a, ht⟩
    · obtain ⟨M1, M2, r1, r2, r3, hw⟩ := pu_rfw fu hI 2 (by decide) (-4) pu_k4
      have hf' := hf.same hw
      refine ⟨-4, M1, M2, ?_, ?_, r3⟩
      · simp only [f_X9_says, gz_jn, hf.1.gC, pu_shelf, pu_within, if_pos c0, if_pos c1, Option.bind_some, pu_10, hf.1.p1, hf.1.p2, (hf.rr fu).1, (hf.rr fu).2.1, (hf.rr fu).2.2, if_true, r1, gz_b2]
      · simp only [f_X10_says, gz_jn, hf'.1.gM, pn_0_7, pn_0_5, if_pos c0, if_pos c1, Option.bind_some, pu_10, hf'.1.m0, hf'.sh, r2, gz_b2]
        rfl
    · obtain ⟨M1, M2, r1, r2, r3, hw⟩ := pu_rfw fu hI 1 (by decide) (-3) pu_k3
      have hf' := hr.same hw
      refine ⟨-3, M1, M2, ?_, ?_, r3⟩
      · simp only [f_X9_says, gz_jn, hr.1.gC, pu_shelf, pu_within, if_pos c0, if_pos c1, Option.bind_some, pu_10, hr.1.p1, hr.1.p2, (hr.rr fu).1, (hr.rr fu).2.1, (hr.rr fu).2.2, if_true, r1, gz_b2]
      · simp only [f_X10_says, gz_jn, hf'.1.gM, pn_0_7, pn_0_5, if_pos c0, if_pos c1, Option.bind_some, pu_10, hf'.1.m0, hf'.sh, r2, gz_b2]
        rfl
    · obtain ⟨w, hw0, rfl⟩ := pu_num (n := 5) (by decide) c1
      have ht0 := ht.2.1
      have ht1 := ht.2.2.1
      have hts : t = 1 ∨ t = 2 ∨ t = 3 ∨ t = 4 ∨ t = 5 := by omega
      have hws : w = 0 ∨ w = 1 ∨ w = 2 ∨ w = 3 ∨ w = 4 ∨ w = 5 := by omega
      have eC : ∀ (R3 R4 : Int32 × gz_M), f_X9_refuse fu M b (-3) = some R3 → f_X9_refuse fu M b (-4) = some R4 → f_X9_says fu M b (nI s) (nI w) = (f_X4_isOfKind fu M (b + 94 + 2 * s) (nI w)).bind fun x7 => if x7 = 0 then some R3 else (f_X4_saysAs fu M (b + 94 + 2 * s) (nI w)).bind fun x11 => some (x11, M) := by
        intro R3 R4 e3 e4
        simp only [f_X9_says, gz_jn, ht.1.gC, pu_shelf, pu_within, if_pos c0, if_pos c1, Option.bind_some, pu_10, ht.1.p1, ht.1.p2, (ht.rr fu).1, (ht.rr fu).2.1, (ht.rr fu).2.2, if_true, gz_b2, e3]
      obtain ⟨A1, A2, a1, a2, a3, aw⟩ := pu_rfw fu hI 1 (by decide) (-3) pu_k3
      obtain ⟨B1, B2, b1, b2, b3, bw⟩ := pu_rfw fu hI 2 (by decide) (-4) pu_k4
      have ht' := ht.same aw
      have eM : ∀ M', sT b s t l a M' → f_X10_says fu M' (b + 110) (nI s) (nI w) = (if (nI w = 0 ∨ nI t = nI w ∨ (nI w = 1 ∧ ¬ nI t = 3)) then (if nI w = 0 then some (nI l, M') else if nI w = 1 then some ((if nI t = 2 then 2 else if nI t = 4 then 3 else if nI t = 5 then 4 else 1), M') else some (nI a, M')) else (f_X10_refuse fu M' (b + 110) (-3)).bind fun q => some (q.1, q.2)) := by
        intro M' h'
        simp only [f_X10_says, gz_jn, h'.1.gM, pn_0_7, pn_0_5, if_pos c0, if_pos c1, Option.bind_some, pu_10, h'.1.m0, h'.sh, h'.1.m5, h'.tk, h'.1.m6, h'.tl, h'.1.m7, h'.ta, gz_b2]
        rcases hts with rfl | rfl | rfl | rfl | rfl <;> rcases hws with rfl | rfl | rfl | rfl | rfl | rfl <;> rfl
      rw [eC _ _ a1 b1]
      simp only [f_X4_isOfKind, f_X4_saysAs, gz_jn, ht.1.gd, ht.ct, ht.la, ht.ba, Option.bind_some]
      clear eC
      rcases hts with rfl | rfl | rfl | rfl | rfl <;> rcases hws with rfl | rfl | rfl | rfl | rfl | rfl <;> first
        | exact ⟨-3, A1, A2, rfl, by rw [eM _ ht', a2]; rfl, a3⟩
        | exact ⟨_, M, M, rfl, by rw [eM _ ht]; rfl, hI⟩
  · obtain ⟨M1, M2, r1, r2, r3, hw⟩ := pu_rfw fu hI 0 (by decide) (-2) pu_k2
    have hO := h2.same hw.2.1 hw.2.2.2.1
    refine ⟨-2, M1, M2, ?_, ?_, r3⟩
    · simp only [f_X9_says, gz_jn, h1.g, pu_shelf, pu_within, Option.bind_some, pu_ii, r1, gz_b2, pu_n2 hc]
    · simp only [f_X10_says, gz_jn, hO.g, pn_0_7, pn_0_5, Option.bind_some, pu_ii, r2, gz_b2, pu_n2 hc]
/-! copy -/
def pLo (c off : Nat) (g : Nat → Int64) (M : gz_M) (n : Nat) (M' : gz_M) : Prop := M'.1 = M.1 ∧ M'.2.1 = M.2.1 ∧ M'.2.2.1 = M.2.2.1 ∧ M'.2.2.2.2 = M.2.2.2.2 ∧ (∀ d, d ≠ c → M'.2.2.2.1 d = M.2.2.2.1 d) ∧ ∀ j, M'.2.2.2.1 c j = if off ≤ j ∧ j < off + n then g (j - off) else M.2.2.2.1 c j
theorem pLo.zero {c off : Nat} {g : Nat → Int64} {M : gz_M} : pLo c off g M 0 M := ⟨rfl, rfl, rfl, rfl, fun _ _ => rfl, fun j => (if_neg (by omega)).symm⟩
theorem pLo.step {c off n : Nat} {g : Nat → Int64} {M M' : gz_M} (h : pLo c off g M n M') : pLo c off g M (n + 1) (gz_sL M' c (off + n) (g n)) := by
  obtain ⟨h1, h2, h3, h4, h5, h6⟩ := h
  refine ⟨h1, h2, h3, h4, fun d hd => (pv_L2 hd).trans (h5 d hd), fun j => ?_⟩
  rw [pu_sL_at]
  by_cases e : j = off + n
  · subst e
    rw [if_pos ⟨rfl, rfl⟩, if_pos (by omega), show off + n - off = n by omega]
  · rw [if_neg (fun q => e q.2), h6 j]
    by_cases q : off ≤ j ∧ j < off + n
    · rw [if_pos q, if_pos (by omega)]
    · rw [if_neg q, if_neg (by omega)]
theorem sR.span (fu : Nat) {b s t z : Nat} {M : gz_M} (h : sR b s t z M) (i n : Int32) : ((∃ i' n' : Nat, i = nI i' ∧ n = nI n' ∧ i' + n' ≤ z) ∧ f_X4_hasSpan fu M (b + 94 + 2 * s) i n = some 1) ∨ ((¬ ∃ i' n' : Nat, i = nI i' ∧ n = nI n' ∧ i' + n' ≤ z) ∧ f_X4_hasSpan fu M (b + 94 + 2 * s) i n = some 0) := by
  have hz := h.2.2.1
  unfold f_X4_hasSpan
  simp only [gz_jn, h.1.gd, h.sz, Option.bind_some, pu_z0, pu_z1]
  by_cases c1 : i < 0
  · refine Or.inr ⟨?_, by rw [if_pos c1]⟩
    rintro ⟨i', n', rfl, rfl, h3⟩
    exact nI_pos (by omega) c1
  · obtain ⟨i', hi, rfl⟩ := nI_of c1
    rw [if_neg c1]
    by_cases c2 : z < i'
    · refine Or.inr ⟨?_, by rw [if_pos (nI_lt c2 hi)]⟩
      rintro ⟨i2, n', e, rfl, h3⟩
      have := (nI_eq hi (by omega)).mp e
      omega
    · rw [if_neg (nI_nlt (by omega) (by omega))]
      by_cases c3 : n < 0
      · refine Or.inr ⟨?_, by rw [if_pos c3]⟩
        rintro ⟨i2, n', e, rfl, h3⟩
        exact nI_pos (by omega) c3
      · obtain ⟨n', hn, rfl⟩ := nI_of c3
        rw [if_neg c3, pk_sub (by omega)]
        by_cases c4 : z - i' < n'
        · refine Or.inr ⟨?_, by rw [if_pos (nI_lt c4 hn)]⟩
          rintro ⟨i2, n2, e, e2, h3⟩
          have := (nI_eq hi (by omega)).mp e
          have := (nI_eq hn (by omega)).mp e2
          omega
        · exact Or.inl ⟨⟨i', n', rfl, rfl, by omega⟩, by rw [if_neg (nI_nlt (by omega) (by omega))]⟩
/-- the reference's test of the places -/
theorem pu_span {α : Type} {i j n : Int32} {y z : Nat} (hy : y ≤ 40) (hz : z ≤ 40) {S R : α} (hc : ¬ ∃ i' j' n' : Nat, i = nI i' ∧ j = nI j' ∧ n = nI n' ∧ i' + n' ≤ y ∧ j' + n' ≤ z) : (if n < 0 then R else if i < 0 then R else if j < 0 then R else if nI y < n then R else if nI z < n then R else if nI y - n < i then R else if j ≤ nI z - n then S else R) = R := by
  by_cases c1 : n < 0
  · rw [if_pos c1]
  · by_cases c2 : i < 0
    · rw [if_neg c1, if_pos c2]
    · by_cases c3 : j < 0
      · rw [if_neg c1, if_neg c2, if_pos c3]
      · obtain ⟨n', hn, rfl⟩ := nI_of c1
        obtain ⟨i', hi, rfl⟩ := nI_of c2
        obtain ⟨j', hj, rfl⟩ := nI_of c3
        rw [if_neg c1, if_neg c2, if_neg c3]
        by_cases d1 : y < n'
        · rw [if_pos (nI_lt d1 hn)]
        · by_cases d2 : z < n'
          · rw [if_neg (nI_nlt (by omega) (by omega)), if_pos (nI_lt d2 hn)]
          · rw [if_neg (nI_nlt (by omega) (by omega)), if_neg (nI_nlt (by omega) (by omega)), pk_sub (by omega), pk_sub (by omega)]
            by_cases d3 : y - n' < i'
            · rw [if_pos (nI_lt d3 hi)]
            · rw [if_neg (nI_nlt (by omega) (by omega))]
              by_cases d4 : j' ≤ z - n'
              · exact absurd ⟨i', j', n', rfl, rfl, rfl, by omega, by omega⟩ hc
              · rw [if_neg (nI_ge (by omega) hj)]
theorem n_02 : ((0 : Int32) = 2) = False := eq_false (by decide)
theorem n_12 : ((1 : Int32) = 2) = False := eq_false (by decide)
theorem n_01 : ((0 : Int32) = 1) = False := eq_false (by decide)
theorem n_20 : ((2 : Int32) = 0) = False := eq_false (by decide)
theorem n_21 : ((2 : Int32) = 1) = False := eq_false (by decide)
theorem n_30 : ((-3 : Int32) = 0) = False := eq_false (by decide)
theorem n_40 : ((-4 : Int32) = 0) = False := eq_false (by decide)
theorem op_copy (b : Nat) {fu : Nat} (hfu : 5000 ≤ fu) : gz_op_copy (pi_I b) fu b (b + 110) := by
  intro M p0 p1 i j n hI
  obtain ⟨h1, h2, h3, h4, h5, h6, h7, h8⟩ := id hI
  by_cases hc : (0 ≤ p0 ∧ p0 ≤ 7) ∧ (0 ≤ p1 ∧ p1 ≤ 7)
  · obtain ⟨c0, c1⟩ := hc
    obtain ⟨s, hs, rfl⟩ := pu_sh8 c0
    obtain ⟨u, hu, rfl⟩ := pu_sh8 c1
    obtain ⟨A1, A2, a1, a2, a3, aw⟩ := pu_rfw fu hI 1 (by decide) (-3) pu_k3
    obtain ⟨B1, B2, b1, b2, b3, bw⟩ := pu_rfw fu hI 2 (by decide) (-4) pu_k4
    obtain ⟨C1, C2, e1, e2, e3, ew⟩ := pu_rfw fu hI 0 (by decide) (-2) pu_k2
    have hO2 := h2.same (ew.2.1) ew.2.2.2.1
    rcases pg_sh hI hs with hf | ⟨t, y, hr⟩ | ⟨t, l, a, ht⟩
    · rcases pg_sh hI hu with gf | ⟨t', z, gr⟩ | ⟨t', l', a', gt⟩
      · have hx' := hf.same bw
        have hy' := gf.same bw
        refine ⟨-4, B1, B2, ?_, ?_, b3⟩
        · simp only [f_X9_copy, f_X9_pairRefusal, gz_jn, h1.g, pu_shelf, if_pos c0, if_pos c1, Option.bind_some, pu_10, hf.1.p1, hf.1.p2, gf.1.p2, (hf.rr fu).1, (hf.rr fu).2.1, (hf.rr fu).2.2, (gf.rr fu).1, (gf.rr fu).2.1, (gf.rr fu).2.2, if_true, gz_b2, n_02, n_12, n_01, n_20, n_21, n_30, n_40, if_false, b1]
        · simp only [f_X10_copy, gz_jn, hx'.1.gM, pn_0_7, if_pos c0, if_pos c1, Option.bind_some, pu_10, hx'.1.m0, hx'.sh, hy'.sh, if_true, gz_b2, n_02, n_12, n_01, n_20, n_21, n_30, n_40, if_false, b2]
      · have hx' := hf.same bw
        have hy' := gr.same bw
        refine ⟨-4, B1, B2, ?_, ?_, b3⟩
        · simp only [f_X9_copy, f_X9_pairRefusal, gz_jn, h1.g, pu_shelf, if_pos c0, if_pos c1, Option.bind_some, pu_10, hf.1.p1, hf.1.p2, gr.1.p2, (hf.rr fu).1, (hf.rr fu).2.1, (hf.rr fu).2.2, (gr.rr fu).1, (gr.rr fu).2.1, (gr.rr fu).2.2, if_true, gz_b2, n_02, n_12, n_01, n_20, n_21, n_30, n_40, if_false, b1]
        · simp only [f_X10_copy, gz_jn, hx'.1.gM, pn_0_7, if_pos c0, if_pos c1, Option.bind_some, pu_10, hx'.1.m0, hx'.sh, hy'.sh, if_true, gz_b2, n_02, n_12, n_01, n_20, n_21, n_30, n_40, if_false, b2]
      · have hx' := hf.same aw
        have hy' := gt.same aw
        refine ⟨-3, A1, A2, ?_, ?_, a3⟩
        · simp only [f_X9_copy, f_X9_pairRefusal, gz_jn, h1.g, pu_shelf, if_pos c0, if_pos c1, Option.bind_some, pu_10, hf.1.p1, hf.1.p2, gt.1.p2, (hf.rr fu).1, (hf.rr fu).2.1, (hf.rr fu).2.2, (gt.rr fu).1, (gt.rr fu).2.1, (gt.rr fu).2.2, if_true, gz_b2, n_02, n_12, n_01, n_20, n_21, n_30, n_40, if_false, a1]
        · simp only [f_X10_copy, gz_jn, hx'.1.gM, pn_0_7, if_pos c0, if_pos c1, Option.bind_some, pu_10, hx'.1.m0, hx'.sh, hy'.sh, if_true, gz_b2, n_02, n_12, n_01, n_20, n_21, n_30, n_40, if_false, a2]
    · rcases pg_sh hI hu with gf | ⟨t', z, gr⟩ | ⟨t', l', a', gt⟩
      · have hx' := hr.same bw
        have hy' := gf.same bw
        refine ⟨-4, B1, B2, ?_, ?_, b3⟩
        · simp only [f_X9_copy, f_X9_pairRefusal, gz_jn, h1.g, pu_shelf, if_pos c0, if_pos c1, Option.bind_some, pu_10, hr.1.p1, hr.1.p2, gf.1.p2, (hr.rr fu).1, (hr.rr fu).2.1, (hr.rr fu).2.2, (gf.rr fu).1, (gf.rr fu).2.1, (gf.rr fu).2.2, if_true, gz_b2, n_02, n_12, n_01, n_20, n_21, n_30, n_40, if_false, b1]
        · simp only [f_X10_copy, gz_jn, hx'.1.gM, pn_0_7, if_pos c0, if_pos c1, Option.bind_some, pu_10, hx'.1.m0, hx'.sh, hy'.sh, if_true, gz_b2, n_02, n_12, n_01, n_20, n_21, n_30, n_40, if_false, b2]
      · have hty := hr.2.1
        have htz := gr.2.1
        have hy := hr.2.2.1
        have hz := gr.2.2.1
        by_cases ett : nI t = nI t'
        · by_cases hcs : ∃ i' j' n' : Nat, i = nI i' ∧ j = nI j' ∧ n = nI n' ∧ i' + n' ≤ y ∧ j' + n' ≤ z
          · obtain ⟨i', j', n', rfl, rfl, rfl, g1, g2⟩ := hcs
            have hsp : f_X4_hasSpan fu M (b + 94 + 2 * s) (nI i') (nI n') = some 1 := by
              rcases hr.span fu (nI i') (nI n') with ⟨-, q⟩ | ⟨q, -⟩
              · exact q
              · exact absurd ⟨i', n', rfl, rfl, g1⟩ q
            have hsq : f_X4_hasSpan fu M (b + 94 + 2 * u) (nI j') (nI n') = some 1 := by
              rcases gr.span fu (nI j') (nI n') with ⟨-, q⟩ | ⟨q, -⟩
              · exact q
              · exact absurd ⟨j', n', rfl, rfl, g2⟩ q
            have hcp : gz_cpL M (b + 95 + 2 * s) (nI i') (b + 95 + 2 * u) (nI j') (nI n') = some (M.1, M.2.1, M.2.2.1, gz_u1 M.2.2.2.1 (b + 95 + 2 * u) (va_cpy (M.2.2.2.1 (b + 95 + 2 * s)) (M.2.2.2.1 (b + 95 + 2 * u)) i' j' n'), M.2.2.2.2) := by
              unfold gz_cpL
              rw [nI_clamp (by omega), nI_clamp (by omega), nI_clamp (by omega), hr.1.kl, gr.1.kl, if_pos ⟨rfl, rfl, nI_pos (by omega), nI_pos (by omega), nI_pos (by omega), by show i' + n' ≤ 40; omega, by show j' + n' ≤ 40; omega⟩]
            generalize hM1 : (M.1, M.2.1, M.2.2.1, gz_u1 M.2.2.2.1 (b + 95 + 2 * u) (va_cpy (M.2.2.2.1 (b + 95 + 2 * s)) (M.2.2.2.1 (b + 95 + 2 * u)) i' j' n'), M.2.2.2.2) = M1 at hcp
            have k1 : M1.2.1 = M.2.1 := by rw [← hM1]
            have r1 : M1.2.2.2.2 = M.2.2.2.2 := by rw [← hM1]
            have i1 : M1.2.2.1 = M.2.2.1 := by rw [← hM1]
            have z1 : M1.1 = M.1 := by rw [← hM1]
            have l1 : ∀ c, c ≠ b + 95 + 2 * u → M1.2.2.2.1 c = M.2.2.2.1 c := fun c hc => by rw [← hM1]; exact if_neg hc
            have l2 : M1.2.2.2.1 (b + 95 + 2 * u) = va_cpy (M.2.2.2.1 (b + 95 + 2 * s)) (M.2.2.2.1 (b + 95 + 2 * u)) i' j' n' := by rw [← hM1]; exact if_pos rfl
            have hO : iv_O (b + 110) M1 := h2.same k1 r1
            have mv : ∀ st, iv_O (b + 110) st → gz_gR st 10 4 (b + 110) = some (b + 123) ∧ st.2.1 (b + 123) = (21, 40) := fun st h => ⟨lm_R h 4 13 (by decide), h.1 13 _ rfl⟩
            obtain ⟨M2, f1, f2⟩ := pl_up (fun fuel k st => lp_X10_copy_191 (fun M34 => lp_X10_copy_225 (fun M42 => some (nI n', M42)) (b + 110) (nI u) (nI j') (nI n') fu (0 : Int32) M34) (b + 110) (nI s) (nI i') (nI n') fuel k st) (fun M34 => lp_X10_copy_225 (fun M42 => some (nI n', M42)) (b + 110) (nI u) (nI j') (nI n') fu (0 : Int32) M34) (pLo (b + 123) 0 (fun k => M1.2.2.2.1 (b + 115 + s) (i' + k)) M1) n' (fun fuel k st hk hp => ⟨gz_sL st (b + 123) (0 + k) (M1.2.2.2.1 (b + 115 + s) (i' + k)), hp.step, by
              have hO' : iv_O (b + 110) st := hO.same hp.2.1 hp.2.2.2.1
              have hv : gz_aL st (b + 115 + s) (nI (i' + k)) = some (M1.2.2.2.1 (b + 115 + s) (i' + k)) := by
                rw [pu_aL (ly_ms hO' hs).2.2 (by omega) (by decide), hp.2.2.2.2.1 _ (by omega)]
              rw [lp_X10_copy_191, if_neg (pn_nle hk (by omega)), (mv st hO').1, Option.bind_some, (ly_ms hO' hs).1, Option.bind_some, (ly_ms hO' hs).2.1, Option.bind_some, nI_add, hv, Option.bind_some, pu_tL _ (mv st hO').2 (by omega) (by decide), Option.bind_some, pn_1, Nat.zero_add]⟩) (fun fuel st hp => by
              rw [lp_X10_copy_191, if_pos (pn_le (Nat.le_refl _) (by omega))]) n' 0 M1 fu (by omega) (by omega) pLo.zero
            have hO2 : iv_O (b + 110) M2 := hO.same f1.2.1 f1.2.2.2.1
            obtain ⟨M3, f3, f4⟩ := pl_up (fun fuel k st => lp_X10_copy_225 (fun M42 => some (nI n', M42)) (b + 110) (nI u) (nI j') (nI n') fuel k st) (fun M42 => some (nI n', M42)) (pLo (b + 115 + u) j' (fun k => M2.2.2.2.1 (b + 123) k) M2) n' (fun fuel k st hk hp => ⟨gz_sL st (b + 115 + u) (j' + k) (M2.2.2.2.1 (b + 123) k), hp.step, by
              have hO' : iv_O (b + 110) st := hO2.same hp.2.1 hp.2.2.2.1
              have hv : gz_aL st (b + 123) (nI k) = some (M2.2.2.2.1 (b + 123) k) := by
                rw [pu_aL (mv st hO').2 (by omega) (by decide), hp.2.2.2.2.1 _ (by omega)]
              rw [lp_X10_copy_225, if_neg (pn_nle hk (by omega)), (ly_ms hO' hu).1, Option.bind_some, (ly_ms hO' hu).2.1, Option.bind_some, (mv st hO').1, Option.bind_some, hv, Option.bind_some, nI_add, pu_tL _ (ly_ms hO' hu).2.2 (by omega) (by decide), Option.bind_some, pn_1]⟩) (fun fuel st hp => by
              rw [lp_X10_copy_225, if_pos (pn_le (Nat.le_refl _) (by omega))]) n' 0 M2 fu (by omega) (by omega) pLo.zero
            refine ⟨nI n', M1, M3, ?_, ?_, ?_⟩
            · simp only [f_X9_copy, f_X9_pairRefusal, gz_jn, h1.g, pu_shelf, if_pos c0, if_pos c1, Option.bind_some, pu_10, hr.1.p1, hr.1.p2, gr.1.p2, (hr.rr fu).1, (hr.rr fu).2.1, (hr.rr fu).2.2, (gr.rr fu).1, (gr.rr fu).2.1, (gr.rr fu).2.2, if_true, gz_b2, hr.ct, gr.ct, if_pos ett, hsp, hsq, hr.1.el, gr.1.el, hcp]
            · have a0 : M1.2.2.1 (b + 111) s = 1 := by rw [i1]; exact hr.2.2.2.2.2.1
              have a0' : M1.2.2.1 (b + 111) u = 1 := by rw [i1]; exact gr.2.2.2.2.2.1
              have aa1 : M1.2.2.1 (b + 112) s = nI t := by rw [i1]; exact hr.2.2.2.2.2.2.1
              have aa1' : M1.2.2.1 (b + 112) u = nI t' := by rw [i1]; exact gr.2.2.2.2.2.2.1
              have aa2 : M1.2.2.1 (b + 113) s = nI y := by rw [i1]; exact hr.2.2.2.2.2.2.2
              have aa2' : M1.2.2.1 (b + 113) u = nI z := by rw [i1]; exact gr.2.2.2.2.2.2.2
              have g8 := ly_m8 hO hs
              have g8' := ly_m8 hO hu
              simp only [f_X10_copy, gz_jn, hO.g, pn_0_7, if_pos c0, if_pos c1, Option.bind_some, pu_10, g8.1, g8.2.1, g8'.2.1, a0, a0', g8.2.2.1, g8.2.2.2.1, g8'.2.2.2.1, aa1, aa1', g8.2.2.2.2.1, g8.2.2.2.2.2.1, g8'.2.2.2.2.2.1, aa2, aa2', if_pos ett, if_true, n_12, if_false, if_neg (nI_pos (n := n') (by omega)), if_neg (nI_pos (n := i') (by omega)), if_neg (nI_pos (n := j') (by omega)), if_neg (nI_nlt (a := y) (b := n') (by omega) (by omega)), if_neg (nI_nlt (a := z) (b := n') (by omega) (by omega)), pk_sub (show n' ≤ y by omega), pk_sub (show n' ≤ z by omega), if_neg (nI_nlt (a := y - n') (b := i') (by omega) (by omega)), if_pos (nI_le (a := j') (b := z - n') (by omega) (by omega))]
              exact f2.trans f4
            · have kf : M3.2.1 = M.2.1 := f3.2.1.trans (f1.2.1.trans k1)
              have rf : M3.2.2.2.2 = M.2.2.2.2 := f3.2.2.2.1.trans (f1.2.2.2.1.trans r1)
              have jf : M3.2.2.1 = M.2.2.1 := f3.2.2.1.trans (f1.2.2.1.trans i1)
              refine hI.shelf (s := u) (f3.1.trans (f1.1.trans z1)) kf rf hu (fun c _ _ _ _ _ _ _ => by rw [jf]) (fun c q1 q2 q3 => by rw [f3.2.2.2.2.1 c q2, f1.2.2.2.2.1 c q3, l1 c q1]) (fun c q k hks => by rw [jf]) ⟨fun k hk => ?_, ?_⟩
              · rw [f3.2.2.2.2.1 _ (by omega), f1.2.2.2.2.1 _ (by omega), l2, f3.2.2.2.2.2 k]
                dsimp only
                rw [f1.2.2.2.2.2]
                by_cases q : j' ≤ k ∧ k < j' + n'
                · rw [if_pos q, pk_cpy_in q.1 q.2, if_pos (by omega), l1 _ (by omega), Nat.sub_zero]
                  exact (h6 s hs).1 _ (by omega)
                · rw [if_neg q, pk_cpy_out (by omega), f1.2.2.2.2.1 _ (by omega), l1 _ (by omega)]
                  exact (h6 u hu).1 _ hk
              · rw [jf]; exact (h6 u hu).2
          · have hx' := hr.same ew
            have hy' := gr.same ew
            refine ⟨-2, C1, C2, ?_, ?_, e3⟩
            · simp only [f_X9_copy, f_X9_pairRefusal, gz_jn, h1.g, pu_shelf, if_pos c0, if_pos c1, Option.bind_some, pu_10, hr.1.p1, hr.1.p2, gr.1.p2, (hr.rr fu).1, (hr.rr fu).2.1, (hr.rr fu).2.2, (gr.rr fu).1, (gr.rr fu).2.1, (gr.rr fu).2.2, if_true, gz_b2, hr.ct, gr.ct, if_pos ett, e1]
              rcases hr.span fu i n with ⟨⟨i', n', x1, x2, x3⟩, q⟩ | ⟨-, q⟩
              · rcases gr.span fu j n with ⟨⟨j', n2, y1, y2, y3⟩, q'⟩ | ⟨-, q'⟩
                · exact absurd ⟨i', j', n', x1, y1, x2, x3, by
                    have : n' = n2 := by
                      rw [x2] at y2
                      exact (nI_eq (by omega) (by omega)).mp y2
                    omega⟩ hcs
                · rw [q, Option.bind_some, pu_10, q', Option.bind_some, if_pos rfl]
              · rw [q, Option.bind_some, if_pos rfl]
            · simp only [f_X10_copy, gz_jn, hx'.1.gM, pn_0_7, if_pos c0, if_pos c1, Option.bind_some, pu_10, hx'.1.m0, hx'.sh, hy'.sh, hx'.1.m1, hx'.st, hy'.st, hx'.1.m2, hx'.sn, hy'.sn, if_pos ett, if_true, gz_b2, n_12, if_false, e2]
              exact pu_span hy hz hcs
        · have hx' := hr.same aw
          have hy' := gr.same aw
          refine ⟨-3, A1, A2, ?_, ?_, a3⟩
          · simp only [f_X9_copy, f_X9_pairRefusal, gz_jn, h1.g, pu_shelf, if_pos c0, if_pos c1, Option.bind_some, pu_10, hr.1.p1, hr.1.p2, gr.1.p2, (hr.rr fu).1, (hr.rr fu).2.1, (hr.rr fu).2.2, (gr.rr fu).1, (gr.rr fu).2.1, (gr.rr fu).2.2, if_true, gz_b2, hr.ct, gr.ct, if_neg ett, n_30, if_false, a1]
          · simp only [f_X10_copy, gz_jn, hx'.1.gM, pn_0_7, if_pos c0, if_pos c1, Option.bind_some, pu_10, hx'.1.m0, hx'.sh, hy'.sh, hx'.1.m1, hx'.st, hy'.st, if_neg ett, if_true, gz_b2, n_12, if_false, a2]
      · have hx' := hr.same aw
        have hy' := gt.same aw
        refine ⟨-3, A1, A2, ?_, ?_, a3⟩
        · simp only [f_X9_copy, f_X9_pairRefusal, gz_jn, h1.g, pu_shelf, if_pos c0, if_pos c1, Option.bind_some, pu_10, hr.1.p1, hr.1.p2, gt.1.p2, (hr.rr fu).1, (hr.rr fu).2.1, (hr.rr fu).2.2, (gt.rr fu).1, (gt.rr fu).2.1, (gt.rr fu).2.2, if_true, gz_b2, n_02, n_12, n_01, n_20, n_21, n_30, n_40, if_false, a1]
        · simp only [f_X10_copy, gz_jn, hx'.1.gM, pn_0_7, if_pos c0, if_pos c1, Option.bind_some, pu_10, hx'.1.m0, hx'.sh, hy'.sh, if_true, gz_b2, n_02, n_12, n_01, n_20, n_21, n_30, n_40, if_false, a2]
    · rcases pg_sh hI hu with gf | ⟨t', z, gr⟩ | ⟨t', l', a', gt⟩
      · have hx' := ht.same aw
        have hy' := gf.same aw
        refine ⟨-3, A1, A2, ?_, ?_, a3⟩
        · simp only [f_X9_copy, f_X9_pairRefusal, gz_jn, h1.g, pu_shelf, if_pos c0, if_pos c1, Option.bind_some, pu_10, ht.1.p1, ht.1.p2, gf.1.p2, (ht.rr fu).1, (ht.rr fu).2.1, (ht.rr fu).2.2, (gf.rr fu).1, (gf.rr fu).2.1, (gf.rr fu).2.2, if_true, gz_b2, n_02, n_12, n_01, n_20, n_21, n_30, n_40, if_false, a1]
        · simp only [f_X10_copy, gz_jn, hx'.1.gM, pn_0_7, if_pos c0, if_pos c1, Option.bind_some, pu_10, hx'.1.m0, hx'.sh, hy'.sh, if_true, gz_b2, n_02, n_12, n_01, n_20, n_21, n_30, n_40, if_false, a2]
      · have hx' := ht.same aw
        have hy' := gr.same aw
        refine ⟨-3, A1, A2, ?_, ?_, a3⟩
        · simp only [f_X9_copy, f_X9_pairRefusal, gz_jn, h1.g, pu_shelf, if_pos c0, if_pos c1, Option.bind_some, pu_10, ht.1.p1, ht.1.p2, gr.1.p2, (ht.rr fu).1, (ht.rr fu).2.1, (ht.rr fu).2.2, (gr.rr fu).1, (gr.rr fu).2.1, (gr.rr fu).2.2, if_true, gz_b2, n_02, n_12, n_01, n_20, n_21, n_30, n_40, if_false, a1]
        · simp only [f_X10_copy, gz_jn, hx'.1.gM, pn_0_7, if_pos c0, if_pos c1, Option.bind_some, pu_10, hx'.1.m0, hx'.sh, hy'.sh, if_true, gz_b2, n_02, n_12, n_01, n_20, n_21, n_30, n_40, if_false, a2]
      · have hx' := ht.same aw
        have hy' := gt.same aw
        refine ⟨-3, A1, A2, ?_, ?_, a3⟩
        · simp only [f_X9_copy, f_X9_pairRefusal, gz_jn, h1.g, pu_shelf, if_pos c0, if_pos c1, Option.bind_some, pu_10, ht.1.p1, ht.1.p2, gt.1.p2, (ht.rr fu).1, (ht.rr fu).2.1, (ht.rr fu).2.2, (gt.rr fu).1, (gt.rr fu).2.1, (gt.rr fu).2.2, if_true, gz_b2, n_02, n_12, n_01, n_20, n_21, n_30, n_40, if_false, a1]
        · simp only [f_X10_copy, gz_jn, hx'.1.gM, pn_0_7, if_pos c0, if_pos c1, Option.bind_some, pu_10, hx'.1.m0, hx'.sh, hy'.sh, if_true, gz_b2, n_02, n_12, n_01, n_20, n_21, n_30, n_40, if_false, a2]
  · obtain ⟨M1, M2, r1, r2, r3, hw⟩ := pu_rfw fu hI 0 (by decide) (-2) pu_k2
    have hO := h2.same hw.2.1 hw.2.2.2.1
    refine ⟨-2, M1, M2, ?_, ?_, r3⟩
    · simp only [f_X9_copy, gz_jn, h1.g, pu_shelf, pu_within, Option.bind_some, pu_ii, r1, gz_b2, pu_n2 hc]
    · simp only [f_X10_copy, gz_jn, hO.g, pn_0_7, Option.bind_some, pu_ii, r2, gz_b2, pu_n2 hc]
