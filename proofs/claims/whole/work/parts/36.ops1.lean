theorem ly_dec1 : ∀ s, s < 8 → (4, s, 94 + 2 * s) ∈ iv_RC ∧ (94 + 2 * s, 0, 95 + 2 * s) ∈ iv_RC ∧ iv_KC[94 + 2 * s]? = some (5, 0) ∧ iv_KC[95 + 2 * s]? = some (21, 40) := by decide
theorem ly_dec2 : ∀ s, s < 8 → (4, s, 5 + s) ∈ iv_RM ∧ iv_KM[5 + s]? = some (21, 40) := by decide
/-- the shelf s of the class -/
theorem ly_sh {b : Nat} {M : gz_M} (h : iv_L b M) {s : Nat} (hs : s < 8) : gz_gR M 9 2 b = some (b + 4) ∧ gz_aR M (b + 4) (nI s) = some (b + 94 + 2 * s) ∧ M.2.1 (b + 94 + 2 * s) = (5, 0) ∧ M.2.1 (b + 95 + 2 * s) = (21, 40) ∧ M.2.2.2.2 (b + 94 + 2 * s) 0 = some (b + 95 + 2 * s) := by
  obtain ⟨h1, h2, h3, h4⟩ := ly_dec1 s hs
  have e1 := h.2 _ _ _ h1
  have e2 := h.2 _ _ _ h2
  have e3 := h.1 _ _ h3
  have e4 := h.1 _ _ h4
  rw [← Nat.add_assoc] at e1 e2 e3 e4
  rw [← Nat.add_assoc] at e2
  refine ⟨pu_gR (h.1 0 _ rfl) (h.2 0 2 4 (by decide)), pu_aR (h.1 4 _ rfl) (by decide) hs (by decide) e1, e3, e4, e2⟩
/-- the reference's row of the shelf s -/
theorem ly_ms {b : Nat} {M : gz_M} (h : iv_O (b + 110) M) {s : Nat} (hs : s < 8) : gz_gR M 10 3 (b + 110) = some (b + 114) ∧ gz_aR M (b + 114) (nI s) = some (b + 115 + s) ∧ M.2.1 (b + 115 + s) = (21, 40) := by
  obtain ⟨h1, h2⟩ := ly_dec2 s hs
  have e1 := h.2 _ _ _ h1
  have e2 := h.1 _ _ h2
  have q : b + 110 + (5 + s) = b + 115 + s := by omega
  rw [q] at e1 e2
  exact ⟨pu_gR (h.1 0 _ rfl) (h.2 0 3 4 (by decide)), pu_aR (h.1 4 _ rfl) (by decide) hs (by decide) e1, e2⟩
/-- the reference's rows of eight -/
theorem ly_m8 {b : Nat} {M : gz_M} (h : iv_O (b + 110) M) {s : Nat} (hs : s < 8) : gz_gR M 10 0 (b + 110) = some (b + 111) ∧ gz_aI M (b + 111) (nI s) = some (M.2.2.1 (b + 111) s) ∧ gz_gR M 10 1 (b + 110) = some (b + 112) ∧ gz_aI M (b + 112) (nI s) = some (M.2.2.1 (b + 112) s) ∧ gz_gR M 10 2 (b + 110) = some (b + 113) ∧ gz_aI M (b + 113) (nI s) = some (M.2.2.1 (b + 113) s) ∧ gz_gR M 10 5 (b + 110) = some (b + 124) ∧ gz_aI M (b + 124) (nI s) = some (M.2.2.1 (b + 124) s) ∧ gz_gR M 10 6 (b + 110) = some (b + 125) ∧ gz_aI M (b + 125) (nI s) = some (M.2.2.1 (b + 125) s) ∧ gz_gR M 10 7 (b + 110) = some (b + 126) ∧ gz_aI M (b + 126) (nI s) = some (M.2.2.1 (b + 126) s) :=
  ⟨pu_gR (h.1 0 _ rfl) (h.2 0 0 1 (by decide)), pu_aI (h.1 1 _ rfl) hs (by decide), pu_gR (h.1 0 _ rfl) (h.2 0 1 2 (by decide)), pu_aI (h.1 2 _ rfl) hs (by decide), pu_gR (h.1 0 _ rfl) (h.2 0 2 3 (by decide)), pu_aI (h.1 3 _ rfl) hs (by decide), pu_gR (h.1 0 _ rfl) (h.2 0 5 14 (by decide)), pu_aI (h.1 14 _ rfl) hs (by decide), pu_gR (h.1 0 _ rfl) (h.2 0 6 15 (by decide)), pu_aI (h.1 15 _ rfl) hs (by decide), pu_gR (h.1 0 _ rfl) (h.2 0 7 16 (by decide)), pu_aI (h.1 16 _ rfl) hs (by decide)⟩
theorem ly_c0 {b : Nat} {M : gz_M} (h : iv_L b M) : M.2.1 b = (10, 0) := h.1 0 _ rfl
theorem ly_m0 {b : Nat} {M : gz_M} (h : iv_O b M) : M.2.1 b = (11, 0) := h.1 0 _ rfl
theorem lc_R {b : Nat} {M : gz_M} (h : iv_L b M) (k t : Nat) (hm : (0, k, t) ∈ iv_RC) : gz_gR M 9 k b = some (b + t) := pu_gR (ly_c0 h) (h.2 0 k t hm)
theorem lm_R {b : Nat} {M : gz_M} (h : iv_O b M) (k t : Nat) (hm : (0, k, t) ∈ iv_RM) : gz_gR M 10 k b = some (b + t) := pu_gR (ly_m0 h) (h.2 0 k t hm)
/-! refusals -/
theorem pu_rfC (fu : Nat) {b k : Nat} {M : gz_M} (h : iv_L b M) (hk : k < 5) : f_X9_refuse fu M b (-2 - nI k) = some (-2 - nI k, gz_sI M (b + 61) k (M.2.2.1 (b + 61) k + 1)) := by
  have e : (-2 : Int32) - (-2 - nI k) = nI k := by
    have : ∀ k, k < 5 → (-2 : Int32) - (-2 - nI k) = nI k := by decide
    exact this k hk
  have e2 : ¬ nI k < 0 := nI_pos (by omega)
  have e3 : ¬ nI 5 ≤ nI k := nI_ge (by omega) (by decide)
  have k61 : M.2.1 (b + 61) = (20, 5) := h.1 61 _ rfl
  unfold f_X9_refuse
  rw [pu_gd (ci := 9) (ly_c0 h), e]
  simp only [gz_jn, if_neg e2, lc_R h 6 61 (by decide), Option.bind_some, pu_ln k61 (by decide), if_neg e3, pu_aI k61 hk (by decide), pu_tI _ k61 hk (by decide)]
theorem pu_rfM (fu : Nat) {b k : Nat} {M : gz_M} (h : iv_O (b + 110) M) (hk : k < 5) : f_X10_refuse fu M (b + 110) (-2 - nI k) = some (-2 - nI k, gz_sI M (b + 128) (k + 2) (M.2.2.1 (b + 128) (k + 2) + 1)) := by
  have e : (0 : Int32) - (-2 - nI k) = nI (k + 2) := by
    have : ∀ k, k < 5 → (0 : Int32) - (-2 - nI k) = nI (k + 2) := by decide
    exact this k hk
  unfold f_X10_refuse
  rw [pu_gd (ci := 10) (ly_m0 h), e, pu_gR (h.1 0 _ rfl) (h.2 0 10 18 (by decide))]
  simp only [Option.bind_some]
  rw [pu_aI (M := M) (a := b + 110 + 18) (h.1 18 _ rfl) (i := k + 2) (by omega) (by decide)]
  simp only [Option.bind_some]
  rw [pu_tI _ (h.1 18 _ rfl) (by omega) (by decide)]
  rfl
/-- both refuse -/
theorem pu_rf2 (fu : Nat) {b k : Nat} {M : gz_M} (h : pi_I b M) (hk : k < 5) : ∃ M1 M2, f_X9_refuse fu M b (-2 - nI k) = some (-2 - nI k, M1) ∧ f_X10_refuse fu M1 (b + 110) (-2 - nI k) = some (-2 - nI k, M2) ∧ pi_I b M2 := by
  obtain ⟨h1, h2, h3, h4, h5, h6, h7, h8⟩ := h
  refine ⟨_, _, pu_rfC fu h1 hk, pu_rfM fu (h2.same rfl rfl) hk, ?_⟩
  generalize hM1 : gz_sI M (b + 61) k (M.2.2.1 (b + 61) k + 1) = M1
  have g0 : M1.2.1 = M.2.1 := by rw [← hM1]; rfl
  have g3 : M1.2.2.2.2 = M.2.2.2.2 := by rw [← hM1]; rfl
  have gz : M1.1 = M.1 := by rw [← hM1]; rfl
  have gL : M1.2.2.2.1 = M.2.2.2.1 := by rw [← hM1]; rfl
  have gI : ∀ c, c ≠ b + 61 → M1.2.2.1 c = M.2.2.1 c := fun c hc => by rw [← hM1]; exact gz_u2_ne hc
  have hI : ∀ c, c ≠ b + 61 → c ≠ b + 128 → (gz_sI M1 (b + 128) (k + 2) (M1.2.2.1 (b + 128) (k + 2) + 1)).2.2.1 c = M.2.2.1 c := fun c q1 q2 => by rw [← gI c q1]; exact gz_u2_ne q2
  refine ⟨h1.same g0 g3, h2.same g0 g3, by show b + 153 ≤ M1.1; rw [gz]; exact h3, ?_, h5.same (hI _ (by omega) (by omega)) (hI _ (by omega) (by omega)) (by rw [hI _ (by omega) (by omega)]) (hI _ (by omega) (by omega)), h6.same (fun c q => ⟨hI _ (by omega) (by omega), by show M1.2.2.2.1 c = _; rw [gL]⟩), h7.same (fun c q1 q2 => hI _ (by omega) (by omega)) (fun k q => by rw [hI _ (by omega) (by omega)]) (fun c q1 q2 => hI _ (by omega) (by omega)), h8.same (by show M.1 ≤ M1.1; omega) g0 g3 (by rw [hI _ (by omega) (by omega)]) (fun c q => hI _ (by omega) (by omega))⟩
  refine ⟨fun j hj => ?_, fun j hj => by rw [hI _ (by omega) (by omega)]; exact h4.2 j hj⟩
  have e1 : (gz_sI M1 (b + 128) (k + 2) (M1.2.2.1 (b + 128) (k + 2) + 1)).2.2.1 (b + 61) j = M1.2.2.1 (b + 61) j := by rw [pu_sI_at, if_neg (by omega)]
  rw [e1, pu_sI_at, ← hM1, pu_sI_at, pu_sI_at, pu_sI_at]
  by_cases e : j = k
  · subst e
    rw [if_pos ⟨rfl, rfl⟩, if_pos ⟨rfl, rfl⟩, if_neg (by omega), h4.1 j hj]
  · rw [if_neg (by omega), if_neg (by omega), if_neg (by omega), h4.1 j hj]
/-! shelves -/
theorem pu_sh8 {p : Int32} (h : 0 ≤ p ∧ p ≤ 7) : ∃ s : Nat, s < 8 ∧ p = nI s := by
  obtain ⟨k, h1, h2⟩ := pu_num (n := 7) (by decide) h
  exact ⟨k, by omega, h2⟩
theorem op_holds (b fu : Nat) : gz_op_holds (pi_I b) fu b (b + 110) := by
  intro M p hI
  obtain ⟨h1, h2, h3, h4, h5, h6, h7, h8⟩ := id hI
  have hin := pu_in fu M p 0 7
  by_cases hp : 0 ≤ p ∧ p ≤ 7
  · obtain ⟨s, hs, rfl⟩ := pu_sh8 hp
    obtain ⟨a1, a2, a3, a4, a5⟩ := ly_sh h1 hs
    obtain ⟨m1, m2, m3, m4, m5, m6, m7, m8, m9⟩ := ly_m8 h2 hs
    obtain ⟨-, hsh⟩ := h6 s hs
    rw [if_pos hp] at hin
    refine ⟨M.2.2.1 (b + 94 + 2 * s) 1, ?_, ?_, hI⟩
    · unfold f_X9_holds gz_jn
      rw [pu_gd (ci := 9) (ly_c0 h1), pu_shelf, if_pos hp]
      simp only [Option.bind_some, a1, a2, pu_gI 1 a3]
      rfl
    · unfold f_X10_holds gz_jn
      rw [pu_gd (ci := 10) (ly_m0 h2)]
      rw [show f_X10_in fu M (nI s).toInt64 (0 : Int64) (7 : Int64) = some 1 from hin]
      simp only [Option.bind_some, m1, m2, m3, m4, m7, m8]
      rcases hsh with ⟨q1, q2⟩ | ⟨t, n, q1, q2, q3, q4, q5, q6, q7⟩ | ⟨t, l, a, q1, q2, q3, q4, q5, q6, q7, q8, q9, q10, q11⟩
      · rw [q1, q2]; rfl
      · rw [q3, q5, q6]; rfl
      · rw [q5, q8, q9, ← nI_add]; rfl
  · rw [if_neg hp] at hin
    refine ⟨-1, ?_, ?_, hI⟩
    · unfold f_X9_holds gz_jn
      rw [pu_gd (ci := 9) (ly_c0 h1), pu_shelf, if_neg hp]
      rfl
    · unfold f_X10_holds gz_jn
      rw [pu_gd (ci := 10) (ly_m0 h2)]
      rw [show f_X10_in fu M p.toInt64 (0 : Int64) (7 : Int64) = some 0 from hin]
      rfl
theorem op_wipe (b fu : Nat) : gz_op_wipe (pi_I b) fu b (b + 110) := by
  intro M hI
  obtain ⟨h1, h2, h3, h4, ⟨n, t1, t2, t3, t4⟩, h6, h7, h8⟩ := id hI
  have k1 : M.2.1 (b + 1) = (7, 0) := h1.1 1 _ rfl
  refine ⟨nI n, gz_sI M (b + 1) 1 0, gz_sI (gz_sI M (b + 1) 1 0) (b + 110) 9 0, ?_, ?_, ?_⟩
  · simp only [f_X9_wipe, gz_jn, pu_gd (ci := 9) (ly_c0 h1), lc_R h1 0 1 (by decide), Option.bind_some, pu_gI (ci := 6) 1 k1, pu_pI (ci := 6) 1 0 k1, t2]
  · have k0 : (gz_sI M (b + 1) 1 0).2.1 (b + 110) = (11, 0) := ly_m0 h2
    have e : (gz_sI M (b + 1) 1 0).2.2.1 (b + 110) 9 = nI n := by rw [pu_sI_at, if_neg (by omega)]; exact t3
    simp only [f_X10_wipe, gz_jn, pu_gd (ci := 10) k0, Option.bind_some, pu_gI (ci := 10) 9 k0, pu_pI (ci := 10) 9 0 k0, e]
  · have hI2 : ∀ c, c ≠ b + 1 → c ≠ b + 110 → (gz_sI (gz_sI M (b + 1) 1 0) (b + 110) 9 0).2.2.1 c = M.2.2.1 c := fun c q1 q2 => (gz_u2_ne q2).trans (gz_u2_ne q1)
    have hf : ∀ k, k ≠ 9 → (gz_sI (gz_sI M (b + 1) 1 0) (b + 110) 9 0).2.2.1 (b + 110) k = M.2.2.1 (b + 110) k := fun k q => by rw [pu_sI_at, if_neg (by omega), pu_sI_at, if_neg (by omega)]
    refine ⟨h1.same rfl rfl, h2.same rfl rfl, h3, h4.same (hI2 _ (by omega) (by omega)) (hI2 _ (by omega) (by omega)) (hI2 _ (by omega) (by omega)), ⟨0, by omega, ?_, ?_, fun j hj => by omega⟩, h6.same (fun c q => ⟨hI2 _ (by omega) (by omega), rfl⟩), h7.same (fun c q1 q2 => hI2 _ (by omega) (by omega)) (fun k q => hf k (by omega)) (fun c q1 q2 => hI2 _ (by omega) (by omega)), h8.same (Nat.le_refl _) rfl rfl (by rw [hI2 _ (by omega) (by omega)]) (fun c q => hI2 _ (by omega) (by omega))⟩
    · rw [pu_sI_at, if_neg (by omega), pu_sI_at, if_pos ⟨rfl, rfl⟩]; rfl
    · rw [pu_sI_at, if_pos ⟨rfl, rfl⟩]; rfl
theorem pu_isRow (fu : Nat) {a : Nat} {M : gz_M} (h : M.2.1 a = (5, 0)) : f_X4_isRow fu M a = some (if 0 ≤ M.2.2.1 a 1 ∧ M.2.2.1 a 1 ≤ 4 then 1 else 0) := by
  unfold f_X4_isRow
  rw [pu_gd (ci := 4) h]
  simp only [gz_jn, gz_z, pu_gI (ci := 4) 1 h, Option.bind_some]
  by_cases h1 : M.2.2.1 a 1 < 0
  · have : ¬ 0 ≤ M.2.2.1 a 1 := Int32.not_le.mpr h1
    simp [h1, this]
  · have h1' : 0 ≤ M.2.2.1 a 1 := Int32.not_lt.mp h1
    by_cases h2 : 4 < M.2.2.1 a 1
    · have : ¬ M.2.2.1 a 1 ≤ 4 := Int32.not_le.mpr h2
      simp [h1, h2, this]
    · have : M.2.2.1 a 1 ≤ 4 := Int32.not_lt.mp h2
      simp [h1, h2, h1', this]
theorem pu_isTool (fu : Nat) {a : Nat} {M : gz_M} (h : M.2.1 a = (5, 0)) : f_X4_isTool fu M a = some (if 10 ≤ M.2.2.1 a 1 then 1 else 0) := by
  unfold f_X4_isTool
  rw [pu_gd (ci := 4) h]
  simp only [gz_jn, gz_z, pu_gI (ci := 4) 1 h, Option.bind_some]
  by_cases h1 : M.2.2.1 a 1 < 10
  · have : ¬ 10 ≤ M.2.2.1 a 1 := Int32.not_le.mpr h1
    simp [h1, this]
  · have : 10 ≤ M.2.2.1 a 1 := Int32.not_lt.mp h1
    simp [h1, this]
theorem pu_isFree (fu : Nat) {a : Nat} {M : gz_M} (h : M.2.1 a = (5, 0)) : f_X4_isFree fu M a = some (if M.2.2.1 a 1 = -1 then 1 else 0) := by
  unfold f_X4_isFree
  rw [pu_gd (ci := 4) h]
  simp only [gz_jn, gz_z, pu_gI (ci := 4) 1 h, Option.bind_some]
  by_cases h1 : M.2.2.1 a 1 = -1
  · simp [h1]
  · simp [h1]
/-- what the class's shelf tells of itself, in the three cases -/
theorem pu_kinds (fu : Nat) {a : Nat} {M : gz_M} (h : M.2.1 a = (5, 0)) : (M.2.2.1 a 1 = -1 → f_X4_isRow fu M a = some 0 ∧ f_X4_isTool fu M a = some 0 ∧ f_X4_isFree fu M a = some 1) ∧ (∀ t : Nat, t ≤ 4 → M.2.2.1 a 1 = nI t → f_X4_isRow fu M a = some 1 ∧ f_X4_isTool fu M a = some 0 ∧ f_X4_isFree fu M a = some 0) ∧ ∀ t : Nat, 1 ≤ t → t ≤ 5 → M.2.2.1 a 1 = nI (10 + t) → f_X4_isRow fu M a = some 0 ∧ f_X4_isTool fu M a = some 1 ∧ f_X4_isFree fu M a = some 0 := by
  rw [pu_isRow fu h, pu_isTool fu h, pu_isFree fu h]
  refine ⟨fun e => ?_, fun t ht e => ?_, fun t h1 h2 e => ?_⟩
  · rw [e]; exact ⟨rfl, rfl, rfl⟩
  · rw [e]
    have : ∀ t, t ≤ 4 → (0 ≤ nI t ∧ nI t ≤ 4) ∧ ¬ (10 ≤ nI t) ∧ ¬ nI t = -1 := by decide
    obtain ⟨q1, q2, q3⟩ := this t ht
    rw [if_pos q1, if_neg q2, if_neg q3]
    exact ⟨rfl, rfl, rfl⟩
  · rw [e]
    have : ∀ t, t ≤ 5 → 1 ≤ t → ¬ (0 ≤ nI (10 + t) ∧ nI (10 + t) ≤ 4) ∧ (10 ≤ nI (10 + t)) ∧ ¬ nI (10 + t) = -1 := by decide
    obtain ⟨q1, q2, q3⟩ := this t h2 h1
    rw [if_neg q1, if_pos q2, if_neg q3]
    exact ⟨rfl, rfl, rfl⟩
