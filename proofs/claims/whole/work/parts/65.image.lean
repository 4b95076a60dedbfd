/-! image and back -/
theorem pu_gQ {M : gz_M} {a ci n : Nat} (k : Nat) (h : M.2.1 a = (ci + 1, n)) : gz_gQ M ci k a = some (M.2.2.2.2 a k) := by unfold gz_gQ; rw [h]; exact if_pos rfl
theorem pw_un {w' mo' : Nat} {M : gz_M} (h : pw_w w' mo' M) : ∃ (n : Nat) (V : pv_V) (W : Nat → pv_V), n ≤ 4 ∧ M.2.2.1 w' 2 = nI n ∧ M.2.2.1 mo' 11 = nI n ∧ (∀ v, v < n → pv_ok (W v) ∧ pv_c (w' + 8 + 5 * v) (W v) M ∧ pv_m mo' v (W v) M) ∧ pv_ok V ∧ pv_c (w' + 3) V M ∧ (M.2.2.1 (w' + 2) 1 = 0 ∨ M.2.2.1 (w' + 2) 1 = 1) ∧ ∀ (w mo : Nat) (M' : gz_M), pv_c (w + 3) V M' → (∀ k, 1 ≤ k → k ≤ 6 → M'.2.2.1 (w + 2) k = M.2.2.1 (w' + 2) k) → (∀ k, 15 ≤ k → k ≤ 19 → M'.2.2.1 mo k = M.2.2.1 mo' k) → (pv_m mo' 4 V M → pv_m mo 4 V M') → pg_g w mo M' := by
  obtain ⟨⟨n, hn, n1, n2, n3⟩, V, v1, v2, v3⟩ := h
  have hch : ∀ v, ∃ U : pv_V, v < n → pv_ok U ∧ pv_c (w' + 8 + 5 * v) U M ∧ pv_m mo' v U M := fun v => by
    by_cases c : v < n
    · obtain ⟨U, hU⟩ := n3 v c
      exact ⟨U, fun _ => hU⟩
    · exact ⟨V, fun q => absurd q c⟩
  obtain ⟨W, hW⟩ := Classical.axiomOfChoice hch
  refine ⟨n, V, W, hn, n1, n2, hW, v1, v2, ?_, fun w mo M' e1 e2 e3 e4 => ⟨V, v1, e1, ?_⟩⟩
  · rcases v3 with ⟨q, -⟩ | ⟨q, -⟩
    · exact Or.inl q
    · exact Or.inr q
  · rcases v3 with ⟨q1, q2⟩ | ⟨q1, g, n', x, q2, q3, q4, q5, q6, q7, q8, q9, q10, q11, q12⟩
    · exact Or.inl ⟨(e2 1 (by omega) (by omega)).trans q1, (e3 15 (by omega) (by omega)).trans q2⟩
    · refine Or.inr ⟨(e2 1 (by omega) (by omega)).trans q1, g, n', x, q2, q3, q4, (e2 2 (by omega) (by omega)).trans q5, (e3 15 (by omega) (by omega)).trans q6, (e2 3 (by omega) (by omega)).trans q7, (e3 16 (by omega) (by omega)).trans q8, (e2 4 (by omega) (by omega)).trans q9, (e3 17 (by omega) (by omega)).trans q10, e4 q11, ?_⟩
      rcases q12 with ⟨p1, p2, p3⟩ | ⟨b, t, p0, p1, p2, p3, p4, p5⟩
      · exact Or.inl ⟨(e2 5 (by omega) (by omega)).trans p1, (e2 6 (by omega) (by omega)).trans p2, (e3 18 (by omega) (by omega)).trans p3⟩
      · exact Or.inr ⟨b, t, p0, p1, (e2 5 (by omega) (by omega)).trans p2, (e3 18 (by omega) (by omega)).trans p3, (e2 6 (by omega) (by omega)).trans p4, (e3 19 (by omega) (by omega)).trans p5⟩
theorem ly_rc : ∀ e, e ∈ iv_RC → e.1 < 110 := by decide +kernel
theorem ly_rm : ∀ e, e ∈ iv_RM → e.1 < 43 ∧ ¬ (e.1 = 0 ∧ e.2.1 = 20) := by decide +kernel
theorem im_mk (fu : Nat) {b : Nat} {M : gz_M} (hL : iv_L b M) (hO : iv_O (b + 110) M) (hz : b + 153 ≤ M.1) (hk : M.2.2.2.2 (b + 110) 20 = none ∨ ∃ ka, M.2.2.2.2 (b + 110) 20 = some ka ∧ b + 153 ≤ ka ∧ ka + 43 ≤ M.1 ∧ iv_O ka M) : ∃ (ka : Nat) (N : gz_M), f_X10_image fu M (b + 110) = ((f_X10_takeFrom fu N ka (b + 110)).bind fun M7 => some ((1 : Int32), M7)) ∧ N.2.2.2.2 (b + 110) 20 = some ka ∧ iv_L b N ∧ iv_O (b + 110) N ∧ iv_O ka N ∧ b + 153 ≤ ka ∧ ka + 43 ≤ N.1 ∧ ∀ c, c < b + 153 → N.2.2.1 c = M.2.2.1 c ∧ N.2.2.2.1 c = M.2.2.2.1 c := by
  rcases hk with hk | ⟨ka, k1, k2, k3, k4⟩
  · obtain ⟨N0, e, h⟩ := st_new10 fu M
    have kk := iv_of h kr10_eq
    obtain ⟨s1, -, -, -, -, -, s7, -, -⟩ := h
    have kb : N0.2.1 (b + 110) = (11, 0) := by rw [(s7 _ (by omega)).1]; exact ly_m0 hO
    have lc : iv_KC.length = 110 := by decide
    have lm : iv_KM.length = 43 := by decide
    refine ⟨M.1, gz_sR N0 (b + 110) 20 (some M.1), ?_, ?_, ⟨fun o p ho => ?_, fun o k t ht => ?_⟩, ⟨fun o p ho => ?_, fun o k t ht => ?_⟩, ⟨fun o p ho => ?_, fun o k t ht => ?_⟩, hz, ?_, fun c hc => ?_⟩
    · unfold f_X10_image
      rw [hO.g]
      simp only [gz_jn]
      rw [pu_gQ (ci := 10) 20 (ly_m0 hO), hk, Option.bind_some]
      show ((f_X10_init fu (gz_nw M 10) M.1).bind fun M2 => (gz_pR M2 10 20 (b + 110) M.1).bind fun M3 => (gz_gR M3 10 20 (b + 110)).bind fun x6 => (f_X10_takeFrom fu M3 x6 (b + 110)).bind fun M7 => some ((1 : Int32), M7)) = _
      rw [e, Option.bind_some, pu_pR (ci := 10) 20 _ kb, Option.bind_some, pu_gR (ci := 10) (t := M.1) (show (gz_sR N0 (b + 110) 20 (some M.1)).2.1 (b + 110) = (11, 0) from kb) (by rw [pu_sR_at, if_pos ⟨rfl, rfl⟩]), Option.bind_some]
    · rw [pu_sR_at, if_pos ⟨rfl, rfl⟩]
    · have hl : o < iv_KC.length := (List.getElem?_eq_some_iff.mp ho).1
      show N0.2.1 (b + o) = p
      rw [(s7 _ (by omega)).1]
      exact hL.1 o p ho
    · have hl : o < 110 := ly_rc _ ht
      rw [pu_sR_at, if_neg (by omega), (s7 _ (by omega)).2.2.2]
      exact hL.2 o k t ht
    · have hl : o < iv_KM.length := (List.getElem?_eq_some_iff.mp ho).1
      show N0.2.1 (b + 110 + o) = p
      rw [(s7 _ (by omega)).1]
      exact hO.1 o p ho
    · have hl : o < 43 := (ly_rm _ ht).1
      have hn : ¬ (o = 0 ∧ k = 20) := (ly_rm _ ht).2
      rw [pu_sR_at, if_neg (by omega), (s7 _ (by omega)).2.2.2]
      exact hO.2 o k t ht
    · exact kk.1 o p ho
    · rw [pu_sR_at, if_neg (by omega)]
      exact kk.2 o k t ht
    · show M.1 + 43 ≤ N0.1
      omega
    · exact ⟨(s7 c (by omega)).2.1, (s7 c (by omega)).2.2.1⟩
  · refine ⟨ka, M, ?_, k1, hL, hO, k4, k2, k3, fun c _ => ⟨rfl, rfl⟩⟩
    unfold f_X10_image
    rw [hO.g]
    simp only [gz_jn]
    rw [pu_gQ (ci := 10) 20 (ly_m0 hO), k1, Option.bind_some]
    show ((gz_gR M 10 20 (b + 110)).bind fun x6 => (f_X10_takeFrom fu M x6 (b + 110)).bind fun M7 => some ((1 : Int32), M7)) = _
    rw [pu_gR (ci := 10) (ly_m0 hO) k1, Option.bind_some]
theorem op_image (b : Nat) {fu : Nat} (hfu : 5000 ≤ fu) : gz_op_image (pi_I b) fu b (b + 110) := by
  intro M hI
  obtain ⟨h1, h2, h3, h4, h5, h6, h7, h8⟩ := id hI
  obtain ⟨n, V, W, hn, n1, n2, hW, v1, v2, v3, v4⟩ := pw_un h7
  obtain ⟨M0, a1, a2, a3, a4, a5', a6⟩ := wc_tk hfu (w_33 h1) (w_5 h1) (by omega) v1 v2 v3 hn n1 (fun v hv => ⟨(hW v hv).1, (hW v hv).2.1⟩)
  have kb : M0.2.1 b = (10, 0) := by rw [a2.2.1]; exact ly_c0 h1
  have L1 : iv_L b (gz_sI M0 b 5 1) := h1.same a2.2.1 a2.2.2.2.1
  have O1 : iv_O (b + 110) (gz_sI M0 b 5 1) := h2.same a2.2.1 a2.2.2.2.1
  have z1 : (gz_sI M0 b 5 1).1 = M.1 := a2.1
  have r1 : (gz_sI M0 b 5 1).2.2.2.2 = M.2.2.2.2 := a2.2.2.2.1
  obtain ⟨ka, N, i1, i2, i3, i4, i5, i6, i7, i8⟩ := im_mk fu L1 O1 (by omega) (by
    rw [r1]
    rcases h8 with ⟨-, q⟩ | ⟨ka, -, q1, q2, q3, q4, -⟩
    · exact Or.inl q
    · exact Or.inr ⟨ka, q1, q2, by omega, q4.same a2.2.1 a2.2.2.2.1⟩)
  obtain ⟨M2, t1, t2, t3, t4, t5⟩ := mc_tk hfu i5 i4 (Or.inr (by omega))
  have qA : ∀ c, c < b + 153 → M2.2.2.1 c = N.2.2.1 c := fun c q1 => t2.2.2.2.2 c (by unfold mQ; omega)
  have qB : ∀ c, c < b + 153 → c ≠ b → N.2.2.1 c = M0.2.2.1 c := fun c q1 q2 => by rw [(i8 c q1).1, pv_I1 q2]
  have qC : ∀ c, ¬ (b + 33 ≤ c ∧ c < b + 61) → M0.2.2.1 c = M.2.2.1 c := fun c q1 => a2.2.2.2.2 c (by unfold w28; omega)
  have q : ∀ c, c < b + 153 → c ≠ b → ¬ (b + 33 ≤ c ∧ c < b + 61) → M2.2.2.1 c = M.2.2.1 c := fun c q1 q2 q3 => by rw [qA c q1, qB c q1 q2, qC c q3]
  have qL : ∀ c, c < b + 153 → M2.2.2.2.1 c = M.2.2.2.1 c := fun c q1 => by
    rw [t2.2.2.1, (i8 c q1).2]
    show M0.2.2.2.1 c = _
    rw [a2.2.2.1]
  refine ⟨1, gz_sI M0 b 5 1, M2, ?_, ?_, ?_⟩
  · unfold f_X9_image
    rw [h1.g, lc_R h1 4 33 (by decide), Option.bind_some, lc_R h1 3 5 (by decide), Option.bind_some, a1, Option.bind_some, pu_pZ (ci := 9) 5 1 kb (Or.inr rfl), Option.bind_some]
  · rw [i1, t1, Option.bind_some]
  · refine ⟨i3.same t2.2.1 t2.2.2.2.1, i4.same t2.2.1 t2.2.2.2.1, by rw [t2.1]; omega, h4.same (q _ (by omega) (by omega) (by omega)) (q _ (by omega) (by omega) (by omega)) (q _ (by omega) (by omega) (by omega)), h5.same (q _ (by omega) (by omega) (by omega)) (q _ (by omega) (by omega) (by omega)) (by rw [q _ (by omega) (by omega) (by omega)]) (q _ (by omega) (by omega) (by omega)), h6.same (fun c w => ⟨q c (by omega) (by omega) (by omega), qL c (by omega)⟩), h7.same (fun c q1 q2 => q c (by omega) (by omega) (by omega)) (fun k _ => by rw [q _ (by omega) (by omega) (by omega)]) (fun c q1 q2 => q c (by omega) (by omega) (by omega)), Or.inr ⟨ka, ?_, ?_, i6, by rw [t2.1]; exact i7, i5.same t2.2.1 t2.2.2.2.1, ⟨n, hn, ?_, ?_, fun v hv => ⟨W v, (hW v hv).1, ?_, ?_⟩⟩, v4 (b + 33) ka M2 ?_ (fun k k1 k2 => ?_) (fun k k1 k2 => ?_) (fun z => ?_)⟩⟩
    · rw [qA b (by omega), (i8 b (by omega)).1]
      exact pv_I9
    · rw [t2.2.2.2.1]; exact i2
    · rw [qA _ (by omega), qB _ (by omega) (by omega)]; exact a3
    · rw [t3 11 (Or.inl rfl), qB _ (by omega) (by omega), qC _ (by omega)]; exact n2
    · exact (a4 v hv).same (fun c q1 q2 => by rw [qA _ (by omega), qB _ (by omega) (by omega)])
    · exact t5 v (by omega) (W v) (hW v hv).1 ((hW v hv).2.2.same (by rw [qB _ (by omega) (by omega), qC _ (by omega)]) (by rw [qB _ (by omega) (by omega), qC _ (by omega)]) (by rw [qB _ (by omega) (by omega), qC _ (by omega)]))
    · exact a5'.same (fun c q1 q2 => by rw [qA _ (by omega), qB _ (by omega) (by omega)])
    · rw [qA _ (by omega), qB _ (by omega) (by omega)]
      exact a6 k k1 k2
    · rw [t3 k (Or.inr ⟨k1, k2⟩), qB _ (by omega) (by omega), qC _ (by omega)]
    · exact t5 4 (by omega) V v1 (z.same (by rw [qB _ (by omega) (by omega), qC _ (by omega)]) (by rw [qB _ (by omega) (by omega), qC _ (by omega)]) (by rw [qB _ (by omega) (by omega), qC _ (by omega)]))
theorem op_back (b : Nat) {fu : Nat} (hfu : 5000 ≤ fu) : gz_op_back (pi_I b) fu b (b + 110) := by
  intro M hI
  obtain ⟨h1, h2, h3, h4, h5, h6, h7, h8⟩ := id hI
  rcases id h8 with ⟨k1, k2⟩ | ⟨ka, k1, k2, k3, k4, k5, k6⟩
  · obtain ⟨M1, M2, r1, r2, r3, hw⟩ := pu_rfw fu hI 3 (by decide) (-5) pu_k5
    have O1 : iv_O (b + 110) M1 := h2.same hw.2.1 hw.2.2.2.1
    refine ⟨-5, M1, M2, ?_, ?_, r3⟩
    · unfold f_X9_back
      rw [h1.g, pu_gI (ci := 9) 5 (ly_c0 h1), k1, Option.bind_some, if_pos rfl, r1]
      rfl
    · unfold f_X10_back
      rw [O1.g, pu_gQ (ci := 10) 20 (ly_m0 O1), hw.2.2.2.1, k2, Option.bind_some]
      show gz_b2 (f_X10_refuse fu M1 (b + 110) (-5 : Int32)) (fun x1 M2 => some (x1, M2)) = _
      rw [r2]
      rfl
  · obtain ⟨n, V, W, hn, n1, n2, hW, v1, v2, v3, v4⟩ := pw_un k6
    obtain ⟨M1, a1, a2, a3, a4, a5', a6⟩ := wc_tk hfu (w_5 h1) (w_33 h1) (by omega) v1 v2 v3 hn n1 (fun v hv => ⟨(hW v hv).1, (hW v hv).2.1⟩)
    have O1 : iv_O (b + 110) M1 := h2.same a2.2.1 a2.2.2.2.1
    have K1 : iv_O ka M1 := k5.same a2.2.1 a2.2.2.2.1
    obtain ⟨M2, t1, t2, t3, t4, t5⟩ := mc_tk hfu O1 K1 (Or.inl (by omega))
    have qA : ∀ c, c ≠ b + 110 → ¬ (b + 130 ≤ c ∧ c < b + 147) → M2.2.2.1 c = M1.2.2.1 c := fun c q1 q2 => t2.2.2.2.2 c (by unfold mQ; omega)
    have qB : ∀ c, ¬ (b + 5 ≤ c ∧ c < b + 33) → M1.2.2.1 c = M.2.2.1 c := fun c q1 => a2.2.2.2.2 c (by unfold w28; omega)
    have q : ∀ c, ¬ (b + 5 ≤ c ∧ c < b + 33) → c ≠ b + 110 → ¬ (b + 130 ≤ c ∧ c < b + 147) → M2.2.2.1 c = M.2.2.1 c := fun c q1 q2 q3 => by rw [qA c q2 q3, qB c q1]
    have e0 : M2.2.1 = M.2.1 := t2.2.1.trans a2.2.1
    have e3 : M2.2.2.2.2 = M.2.2.2.2 := t2.2.2.2.1.trans a2.2.2.2.1
    have eL : M2.2.2.2.1 = M.2.2.2.1 := t2.2.2.1.trans a2.2.2.1
    have ez : M2.1 = M.1 := t2.1.trans a2.1
    refine ⟨1, M1, M2, ?_, ?_, ?_⟩
    · unfold f_X9_back
      rw [h1.g, pu_gI (ci := 9) 5 (ly_c0 h1), k1, Option.bind_some, if_neg (by decide), lc_R h1 3 5 (by decide), Option.bind_some, lc_R h1 4 33 (by decide), Option.bind_some, a1, Option.bind_some]
    · unfold f_X10_back
      rw [O1.g, pu_gQ (ci := 10) 20 (ly_m0 O1), a2.2.2.2.1, k2, Option.bind_some]
      show ((gz_gR M1 10 20 (b + 110)).bind fun x3 => (f_X10_takeFrom fu M1 (b + 110) x3).bind fun M4 => some ((1 : Int32), M4)) = _
      rw [pu_gR (ci := 10) (ly_m0 O1) (by rw [a2.2.2.2.1]; exact k2), Option.bind_some, t1, Option.bind_some]
    · refine ⟨h1.same e0 e3, h2.same e0 e3, by omega, h4.same (q _ (by omega) (by omega) (by omega)) (q _ (by omega) (by omega) (by omega)) (q _ (by omega) (by omega) (by omega)), h5.same (q _ (by omega) (by omega) (by omega)) (q _ (by omega) (by omega) (by omega)) ?_ (q _ (by omega) (by omega) (by omega)), h6.same (fun c w => ⟨q c (by omega) (by omega) (by omega), by rw [eL]⟩), ⟨⟨n, hn, ?_, ?_, fun v hv => ⟨W v, (hW v hv).1, ?_, ?_⟩⟩, v4 (b + 5) (b + 110) M2 ?_ (fun k k1 k2 => ?_) (fun k k1 k2 => ?_) (fun z => ?_)⟩, h8.same (by omega) e0 e3 (by rw [q _ (by omega) (by omega) (by omega)]) (fun c w => q c (by omega) (by omega) (by omega))⟩
      · rw [t4 9 (by omega), qB _ (by omega)]
      · rw [qA _ (by omega) (by omega)]; exact a3
      · rw [t3 11 (Or.inl rfl), qB _ (by omega)]; exact n2
      · exact (a4 v hv).same (fun c q1 q2 => qA _ (by omega) (by omega))
      · exact t5 v (by omega) (W v) (hW v hv).1 ((hW v hv).2.2.same (qB _ (by omega)) (qB _ (by omega)) (qB _ (by omega)))
      · exact a5'.same (fun c q1 q2 => qA _ (by omega) (by omega))
      · rw [qA _ (by omega) (by omega)]
        exact a6 k k1 k2
      · rw [t3 k (Or.inr ⟨k1, k2⟩), qB _ (by omega)]
      · exact t5 4 (by omega) V v1 (z.same (qB _ (by omega)) (qB _ (by omega)) (qB _ (by omega)))
