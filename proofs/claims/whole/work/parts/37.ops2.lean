theorem pu_ii {α : Type} {c : Prop} [Decidable c] {A B : α} : (if (if c then (1 : Int32) else 0) = 0 then A else B) = if c then B else A := by
  by_cases h : c
  · simp [h]
  · simp [h]
theorem pu_n4 {α : Type} {a b c d : Prop} [Decidable a] [Decidable b] [Decidable c] [Decidable d] {S R : α} (h : ¬ (a ∧ b ∧ c ∧ d)) : (if a then (if b then (if c then (if d then S else R) else R) else R) else R) = R := by
  by_cases h1 : a <;> by_cases h2 : b <;> by_cases h3 : c <;> by_cases h4 : d <;> simp [h1, h2, h3, h4] <;> exact absurd ⟨h1, h2, h3, h4⟩ h
theorem pu_n3 {α : Type} {a b c : Prop} [Decidable a] [Decidable b] [Decidable c] {S R : α} (h : ¬ (a ∧ b ∧ c)) : (if a then (if b then (if c then S else R) else R) else R) = R := by
  by_cases h1 : a <;> by_cases h2 : b <;> by_cases h3 : c <;> simp [h1, h2, h3] <;> exact absurd ⟨h1, h2, h3⟩ h
theorem pu_n2 {α : Type} {a b : Prop} [Decidable a] [Decidable b] {S R : α} (h : ¬ (a ∧ b)) : (if a then (if b then S else R) else R) = R := by
  by_cases h1 : a <;> by_cases h2 : b <;> simp [h1, h2] <;> exact absurd ⟨h1, h2⟩ h
theorem pu_rfx (fu : Nat) {b : Nat} {M : gz_M} (h : pi_I b M) (k : Nat) (hk : k < 5) (r : Int32) (hr : -2 - nI k = r) : ∃ M1 M2, f_X9_refuse fu M b r = some (r, M1) ∧ f_X10_refuse fu M1 (b + 110) r = some (r, M2) ∧ pi_I b M2 ∧ M1.2.1 = M.2.1 ∧ M1.2.2.2.2 = M.2.2.2.2 ∧ M1.2.2.2.1 = M.2.2.2.1 ∧ ∀ c, c ≠ b + 61 → M1.2.2.1 c = M.2.2.1 c := by
  obtain ⟨M1, M2, q1, q2, q3⟩ := pu_rf2 fu h hk
  have e := pu_rfC fu h.1 hk
  rw [q1] at e
  cases e
  rw [hr] at q1 q2
  exact ⟨_, M2, q1, q2, q3, rfl, rfl, rfl, fun c hc => gz_u2_ne hc⟩
theorem pu_k2 : (-2 : Int32) - nI 0 = -2 := by decide
theorem pu_k3 : (-2 : Int32) - nI 1 = -3 := by decide
theorem pu_k4 : (-2 : Int32) - nI 2 = -4 := by decide
theorem pu_k5 : (-2 : Int32) - nI 3 = -5 := by decide
theorem pu_k6 : (-2 : Int32) - nI 4 = -6 := by decide
/-- the shelf s was written, and nothing else that the invariant speaks of -/
theorem pi_I.shelf {b s : Nat} {M M' : gz_M} (h : pi_I b M) (hz : M'.1 = M.1) (h0 : M'.2.1 = M.2.1) (h3 : M'.2.2.2.2 = M.2.2.2.2) (hs : s < 8) (hI : ∀ c, c ≠ b + 94 + 2 * s → c ≠ b + 111 → c ≠ b + 112 → c ≠ b + 113 → c ≠ b + 124 → c ≠ b + 125 → c ≠ b + 126 → M'.2.2.1 c = M.2.2.1 c) (hL : ∀ c, c ≠ b + 95 + 2 * s → c ≠ b + 115 + s → c ≠ b + 123 → M'.2.2.2.1 c = M.2.2.2.1 c)
    (hj : ∀ c, (c = b + 111 ∨ c = b + 112 ∨ c = b + 113 ∨ c = b + 124 ∨ c = b + 125 ∨ c = b + 126) → ∀ j, j ≠ s → M'.2.2.1 c j = M.2.2.1 c j) (hn : pi_s1 b s M') : pi_I b M' := by
  obtain ⟨h1, h2, h3', h4, h5, h6, h7, h8⟩ := h
  have hI2 : ∀ c, c < b + 94 ∨ c = b + 110 ∨ c = b + 127 ∨ c = b + 128 ∨ b + 129 ≤ c → M'.2.2.1 c = M.2.2.1 c := fun c q => hI c (by omega) (by omega) (by omega) (by omega) (by omega) (by omega) (by omega)
  refine ⟨h1.same h0 h3, h2.same h0 h3, by rw [hz]; exact h3', h4.same (hI2 _ (by omega)) (hI2 _ (by omega)) (hI2 _ (by omega)), h5.same (hI2 _ (by omega)) (hI2 _ (by omega)) (by rw [hI2 _ (by omega)]) (hI2 _ (by omega)), fun t ht => ?_, h7.same (fun c q1 q2 => hI2 _ (by omega)) (fun k q => by rw [hI2 _ (by omega)]) (fun c q1 q2 => hI2 _ (by omega)), h8.same (by omega) h0 h3 (by rw [hI2 _ (by omega)]) (fun c q => hI2 _ (by omega))⟩
  by_cases e : t = s
  · subst e; exact hn
  · exact (h6 t ht).same (hI _ (by omega) (by omega) (by omega) (by omega) (by omega) (by omega) (by omega)) (hL _ (by omega) (by omega) (by omega)) (hL _ (by omega) (by omega) (by omega)) (fun c q => hj c q t e)
theorem op_tool (b fu : Nat) : gz_op_tool (pi_I b) fu b (b + 110) := by
  intro M p0 p1 p2 p3 hI
  obtain ⟨h1, h2, h3, h4, h5, h6, h7, h8⟩ := id hI
  have i0 : ∀ M, f_X10_in fu M p0.toInt64 (0 : Int64) (7 : Int64) = some (if 0 ≤ p0 ∧ p0 ≤ 7 then 1 else 0) := fun M => pu_in fu M p0 0 7
  have i1 : ∀ M, f_X10_in fu M p1.toInt64 (1 : Int64) (5 : Int64) = some (if 1 ≤ p1 ∧ p1 ≤ 5 then 1 else 0) := fun M => pu_in fu M p1 1 5
  have i2 : ∀ M, f_X10_in fu M p2.toInt64 (0 : Int64) (9 : Int64) = some (if 0 ≤ p2 ∧ p2 ≤ 9 then 1 else 0) := fun M => pu_in fu M p2 0 9
  have i3 : ∀ M, f_X10_in fu M p3.toInt64 (0 : Int64) (30 : Int64) = some (if 0 ≤ p3 ∧ p3 ≤ 30 then 1 else 0) := fun M => pu_in fu M p3 0 30
  have kb : M.2.1 b = (10, 0) := ly_c0 h1
  have km : M.2.1 (b + 110) = (11, 0) := ly_m0 h2
  by_cases hc : (0 ≤ p0 ∧ p0 ≤ 7) ∧ (1 ≤ p1 ∧ p1 ≤ 5) ∧ (0 ≤ p2 ∧ p2 ≤ 9) ∧ (0 ≤ p3 ∧ p3 ≤ 30)
  · obtain ⟨c0, c1, c2, c3⟩ := hc
    obtain ⟨s, hs, rfl⟩ := pu_sh8 c0
    obtain ⟨t, ht, rfl⟩ := pu_num (a := p1) (n := 5) (by decide) ⟨Int32.le_trans (by decide) c1.1, c1.2⟩
    have ht1 : 1 ≤ t := (nI_leI (a := 1) (by decide) (by omega)).mp c1.1
    obtain ⟨l, hl, rfl⟩ := pu_num (n := 9) (by decide) c2
    obtain ⟨a, ha, rfl⟩ := pu_num (n := 30) (by decide) c3
    obtain ⟨a1, a2, a3, a4, a5⟩ := ly_sh h1 hs
    have k1 : M.2.1 (b + 111) = (20, 8) := h2.1 1 _ rfl
    have k2 : M.2.1 (b + 124) = (20, 8) := h2.1 14 _ rfl
    have k3 : M.2.1 (b + 125) = (20, 8) := h2.1 15 _ rfl
    have k4 : M.2.1 (b + 126) = (20, 8) := h2.1 16 _ rfl
    have r1 : M.2.2.2.2 (b + 110) 0 = some (b + 111) := h2.2 0 0 1 (by decide)
    have r2 : M.2.2.2.2 (b + 110) 5 = some (b + 124) := h2.2 0 5 14 (by decide)
    have r3 : M.2.2.2.2 (b + 110) 6 = some (b + 125) := h2.2 0 6 15 (by decide)
    have r4 : M.2.2.2.2 (b + 110) 7 = some (b + 126) := h2.2 0 7 16 (by decide)
    refine ⟨1, gz_sI (gz_sI (gz_sI (gz_sI M (b + 94 + 2 * s) 1 (10 + nI t)) (b + 94 + 2 * s) 2 0) (b + 94 + 2 * s) 3 (nI l)) (b + 94 + 2 * s) 4 (nI a), gz_sI (gz_sI (gz_sI (gz_sI (gz_sI (gz_sI (gz_sI (gz_sI M (b + 94 + 2 * s) 1 (10 + nI t)) (b + 94 + 2 * s) 2 0) (b + 94 + 2 * s) 3 (nI l)) (b + 94 + 2 * s) 4 (nI a)) (b + 111) s 2) (b + 124) s (nI t)) (b + 125) s (nI l)) (b + 126) s (nI a), ?_, ?_, ?_⟩
    · simp only [f_X9_tool, gz_jn, pu_shelf, pu_within, Option.bind_some, pu_ii]
      rw [if_pos c0, if_pos c1, if_pos c2, if_pos c3]
      simp [pv_gd, kb, a1, a2, zz_bt fu a3]
    · simp only [f_X10_tool, gz_jn, i0, i1, i2, i3, Option.bind_some, pu_ii]
      rw [if_pos c0, if_pos c1, if_pos c2, if_pos c3]
      simp [pv_gd, pv_gR, pv_tI, pv_k1, pv_r1, km, k1, k2, k3, k4, r1, r2, r3, r4, hs]
    · have e2 : (10 : Int32) + nI t = nI (10 + t) := nI_add 10 t
      refine hI.shelf rfl rfl rfl hs (fun c q1 q2 q3 q4 q5 q6 q7 => ?_) (fun c _ _ _ => rfl) (fun c q j hjs => ?_) ⟨(h6 s hs).1, Or.inr (Or.inr ⟨t, l, a, ht1, ht, hl, ha, ?_, ?_, ?_, ?_, ?_, ?_, ?_⟩)⟩
      · simp [pv_I1, q1, q2, q3, q4, q5, q6, q7]
      · simp (disch := omega) only [pu_sI_at, if_neg]
        repeat rw [if_neg (by omega)]
      all_goals (simp only [pu_sI_at]; repeat (first | rw [if_pos (by omega)] | rw [if_neg (by omega)]))
      all_goals (first | exact e2 | rfl)
  · obtain ⟨M1, M2, r1, r2, r3, r4, r5, -, -⟩ := pu_rfx fu hI 0 (by decide) (-2) pu_k2
    refine ⟨-2, M1, M2, ?_, ?_, r3⟩
    · simp only [f_X9_tool, gz_jn, pu_shelf, pu_within, Option.bind_some, pu_ii, r1, gz_b2, pu_n4 hc]
      rw [pv_gd (by rw [kb])]
    · simp only [f_X10_tool, gz_jn, i0, i1, i2, i3, Option.bind_some, pu_ii, r2, gz_b2, pu_n4 hc]
      rw [pv_gd (by rw [r4, km])]
