/-! the layout: kinds and references of the class's cells (from its own address), and of the reference's -/
def iv_KC : List (Nat × Nat) := [(10, 0), (7, 0), (20, 250), (3, 0), (22, 8), (9, 0), (23, 4), (2, 0), (8, 0), (20, 60), (20, 40), (20, 3), (20, 3), (8, 0), (20, 60), (20, 40), (20, 3), (20, 3), (8, 0), (20, 60), (20, 40), (20, 3), (20, 3), (8, 0), (20, 60), (20, 40), (20, 3), (20, 3), (8, 0), (20, 60), (20, 40), (20, 3), (20, 3), (9, 0), (23, 4), (2, 0), (8, 0), (20, 60), (20, 40), (20, 3), (20, 3), (8, 0), (20, 60), (20, 40), (20, 3), (20, 3), (8, 0), (20, 60), (20, 40), (20, 3), (20, 3), (8, 0), (20, 60), (20, 40), (20, 3), (20, 3), (8, 0), (20, 60), (20, 40), (20, 3), (20, 3), (20, 5), (4, 0), (20, 1024), (20, 1024), (20, 1024), (20, 1024), (6, 0), (20, 6), (20, 12), (20, 12), (24, 7), (20, 13), (20, 13), (20, 13), (20, 13), (20, 13), (20, 13), (20, 13), (1, 0), (20, 3), (24, 3), (20, 12), (20, 12), (20, 12), (24, 3), (20, 144), (20, 144), (20, 144), (20, 3), (20, 12), (20, 12), (20, 12), (20, 12), (5, 0), (21, 40), (5, 0), (21, 40), (5, 0), (21, 40), (5, 0), (21, 40), (5, 0), (21, 40), (5, 0), (21, 40), (5, 0), (21, 40), (5, 0), (21, 40)]
def iv_KM : List (Nat × Nat) := [(11, 0), (20, 8), (20, 8), (20, 8), (25, 8), (21, 40), (21, 40), (21, 40), (21, 40), (21, 40), (21, 40), (21, 40), (21, 40), (21, 40), (20, 8), (20, 8), (20, 8), (20, 250), (20, 8), (24, 5), (20, 10), (20, 10), (20, 10), (20, 10), (20, 10), (24, 5), (20, 60), (20, 60), (20, 60), (20, 60), (20, 60), (24, 5), (20, 40), (20, 40), (20, 40), (20, 40), (20, 40), (20, 12), (20, 12), (24, 3), (20, 12), (20, 12), (20, 12)]
def iv_RC : List (Nat × Nat × Nat) := [(0, 0, 1), (0, 1, 3), (0, 2, 4), (0, 3, 5), (0, 4, 33), (0, 6, 61), (0, 7, 62), (0, 8, 67), (0, 9, 79), (1, 0, 2), (3, 0, 1), (4, 0, 94), (4, 1, 96), (4, 2, 98), (4, 3, 100), (4, 4, 102), (4, 5, 104), (4, 6, 106), (4, 7, 108), (5, 0, 6), (5, 1, 7), (6, 0, 13), (6, 1, 18), (6, 2, 23), (6, 3, 28), (7, 0, 8), (8, 0, 9), (8, 1, 10), (8, 2, 11), (8, 3, 12), (13, 0, 14), (13, 1, 15), (13, 2, 16), (13, 3, 17), (18, 0, 19), (18, 1, 20), (18, 2, 21), (18, 3, 22), (23, 0, 24), (23, 1, 25), (23, 2, 26), (23, 3, 27), (28, 0, 29), (28, 1, 30), (28, 2, 31), (28, 3, 32), (33, 0, 34), (33, 1, 35), (34, 0, 41), (34, 1, 46), (34, 2, 51), (34, 3, 56), (35, 0, 36), (36, 0, 37), (36, 1, 38), (36, 2, 39), (36, 3, 40), (41, 0, 42), (41, 1, 43), (41, 2, 44), (41, 3, 45), (46, 0, 47), (46, 1, 48), (46, 2, 49), (46, 3, 50), (51, 0, 52), (51, 1, 53), (51, 2, 54), (51, 3, 55), (56, 0, 57), (56, 1, 58), (56, 2, 59), (56, 3, 60), (62, 0, 63), (62, 1, 64), (62, 2, 65), (62, 3, 66), (67, 0, 68), (67, 3, 69), (67, 4, 70), (67, 5, 71), (71, 0, 72), (71, 1, 73), (71, 2, 74), (71, 3, 75), (71, 4, 76), (71, 5, 77), (71, 6, 78), (79, 0, 80), (79, 3, 81), (79, 4, 85), (79, 5, 89), (79, 6, 90), (79, 7, 91), (79, 8, 92), (79, 9, 93), (81, 0, 82), (81, 1, 83), (81, 2, 84), (85, 0, 86), (85, 1, 87), (85, 2, 88), (94, 0, 95), (96, 0, 97), (98, 0, 99), (100, 0, 101), (102, 0, 103), (104, 0, 105), (106, 0, 107), (108, 0, 109)]
def iv_RM : List (Nat × Nat × Nat) := [(0, 0, 1), (0, 1, 2), (0, 2, 3), (0, 3, 4), (0, 4, 13), (0, 5, 14), (0, 6, 15), (0, 7, 16), (0, 8, 17), (0, 10, 18), (0, 12, 19), (0, 13, 25), (0, 14, 31), (0, 27, 37), (0, 28, 38), (0, 29, 39), (4, 0, 5), (4, 1, 6), (4, 2, 7), (4, 3, 8), (4, 4, 9), (4, 5, 10), (4, 6, 11), (4, 7, 12), (19, 0, 20), (19, 1, 21), (19, 2, 22), (19, 3, 23), (19, 4, 24), (25, 0, 26), (25, 1, 27), (25, 2, 28), (25, 3, 29), (25, 4, 30), (31, 0, 32), (31, 1, 33), (31, 2, 34), (31, 3, 35), (31, 4, 36), (39, 0, 40), (39, 1, 41), (39, 2, 42)]
def iv_k (K : List (Nat × Nat)) (a : Nat) (M : gz_M) : Prop := ∀ (o : Nat) (p : Nat × Nat), K[o]? = some p → M.2.1 (a + o) = p
def iv_r (R : List (Nat × Nat × Nat)) (a : Nat) (M : gz_M) : Prop := ∀ o k t : Nat, (o, k, t) ∈ R → M.2.2.2.2 (a + o) k = some (a + t)
def iv_L (b : Nat) (M : gz_M) : Prop := iv_k iv_KC b M ∧ iv_r iv_RC b M
def iv_O (a : Nat) (M : gz_M) : Prop := iv_k iv_KM a M ∧ iv_r iv_RM a M
/-! a valley: feet, lasts, out, grow, waste, over, the feet's parts, the lasts' parts -/
abbrev pv_V : Type := Nat × Nat × Nat × Nat × (Nat → Nat) × (Nat → Nat) × (Nat → Nat) × (Nat → Nat)
abbrev pv_nf (V : pv_V) : Nat := V.1
abbrev pv_nl (V : pv_V) : Nat := V.2.1
abbrev pv_out (V : pv_V) : Nat := V.2.2.1
abbrev pv_gr (V : pv_V) : Nat := V.2.2.2.1
abbrev pv_wa (V : pv_V) : Nat → Nat := V.2.2.2.2.1
abbrev pv_ov (V : pv_V) : Nat → Nat := V.2.2.2.2.2.1
abbrev pv_F (V : pv_V) : Nat → Nat := V.2.2.2.2.2.2.1
abbrev pv_L (V : pv_V) : Nat → Nat := V.2.2.2.2.2.2.2
def pv_ok (V : pv_V) : Prop := pv_nf V ≤ 12 ∧ pv_nl V ≤ 10 ∧ pv_out V ≤ 99 ∧ pv_gr V ≤ 9 ∧ (∀ m, m < 3 → pv_wa V m ≤ 9 ∧ pv_ov V m ≤ 30) ∧ (∀ f, f < pv_nf V → (∀ m, m < 3 → pv_F V (5 * f + m) ≤ 30) ∧ 1 ≤ pv_F V (5 * f + 3) ∧ pv_F V (5 * f + 3) ≤ 99 ∧ pv_F V (5 * f + 4) ≤ 9) ∧ ∀ l, l < pv_nl V → (∀ m, m < 3 → pv_L V (4 * l + m) ≤ 40) ∧ pv_L V (4 * l + 3) ≤ 99
/-- the class's valley at a holds V -/
def pv_c (a : Nat) (V : pv_V) (M : gz_M) : Prop := M.2.2.1 a 4 = nI (pv_nf V) ∧ M.2.2.1 a 5 = nI (pv_nl V) ∧ M.2.2.1 a 6 = nI (pv_out V) ∧ M.2.2.1 a 7 = nI (pv_gr V) ∧ (∀ m, m < 3 → M.2.2.1 (a + 3) m = nI (pv_wa V m)) ∧ (∀ m, m < 3 → M.2.2.1 (a + 4) m = nI (pv_ov V m)) ∧ (∀ j, j < 5 * pv_nf V → M.2.2.1 (a + 1) j = nI (pv_F V j)) ∧ ∀ j, j < 4 * pv_nl V → M.2.2.1 (a + 2) j = nI (pv_L V j)
/-- the reference's valley v of the object at mo holds V -/
def pv_m (mo v : Nat) (V : pv_V) (M : gz_M) : Prop := M.2.2.1 (mo + 20 + v) 0 = nI (pv_nf V) ∧ M.2.2.1 (mo + 20 + v) 1 = nI (pv_nl V) ∧ M.2.2.1 (mo + 20 + v) 2 = nI (pv_out V) ∧ M.2.2.1 (mo + 20 + v) 3 = nI (pv_gr V) ∧ (∀ m, m < 3 → M.2.2.1 (mo + 20 + v) (4 + m) = nI (pv_wa V m)) ∧ (∀ m, m < 3 → M.2.2.1 (mo + 20 + v) (7 + m) = nI (pv_ov V m)) ∧ (∀ j, j < 5 * pv_nf V → M.2.2.1 (mo + 26 + v) j = nI (pv_F V j)) ∧ ∀ j, j < 4 * pv_nl V → M.2.2.1 (mo + 32 + v) j = nI (pv_L V j)
/-- the going-through of the world at w and of the reference at mo -/
def pg_g (w mo : Nat) (M : gz_M) : Prop := ∃ V : pv_V, pv_ok V ∧ pv_c (w + 3) V M ∧ ((M.2.2.1 (w + 2) 1 = 0 ∧ M.2.2.1 mo 15 = -1) ∨ (M.2.2.1 (w + 2) 1 = 1 ∧ ∃ (g n x : Nat), g < 4 ∧ n ≤ 10 ∧ x ≤ 2 ^ pv_nl V ∧ M.2.2.1 (w + 2) 2 = nI g ∧ M.2.2.1 mo 15 = nI g ∧ M.2.2.1 (w + 2) 3 = nI n ∧ M.2.2.1 mo 16 = nI n ∧ M.2.2.1 (w + 2) 4 = nI x ∧ M.2.2.1 mo 17 = nI x ∧ pv_m mo 4 V M ∧ ((M.2.2.1 (w + 2) 5 = -1 ∧ M.2.2.1 (w + 2) 6 = -1 ∧ M.2.2.1 mo 18 = -1) ∨ ∃ b t : Nat, b < 1024 ∧ t < 2 ^ 24 ∧ M.2.2.1 (w + 2) 5 = nI b ∧ M.2.2.1 mo 18 = nI b ∧ M.2.2.1 (w + 2) 6 = nI t ∧ M.2.2.1 mo 19 = nI t)))
/-- the world at w and the reference at mo -/
def pw_w (w mo : Nat) (M : gz_M) : Prop := (∃ n : Nat, n ≤ 4 ∧ M.2.2.1 w 2 = nI n ∧ M.2.2.1 mo 11 = nI n ∧ ∀ v, v < n → ∃ V : pv_V, pv_ok V ∧ pv_c (w + 8 + 5 * v) V M ∧ pv_m mo v V M) ∧ pg_g w mo M
def pi_rf (b : Nat) (M : gz_M) : Prop := (∀ k, k < 5 → M.2.2.1 (b + 61) k = M.2.2.1 (b + 128) (k + 2)) ∧ ∀ j, j < 12 → M.2.2.1 (b + 90) j = 0
def pi_tp (b : Nat) (M : gz_M) : Prop := ∃ n : Nat, n ≤ 250 ∧ M.2.2.1 (b + 1) 1 = nI n ∧ M.2.2.1 (b + 110) 9 = nI n ∧ ∀ j, j < n → M.2.2.1 (b + 127) j = M.2.2.1 (b + 2) j ∧ ∃ c : Nat, c < 256 ∧ M.2.2.1 (b + 2) j = nI c
/-- the shelf s: nothing, a row, a tool -/
def pi_s1 (b s : Nat) (M : gz_M) : Prop := (∀ j, j < 40 → M.2.2.2.1 (b + 95 + 2 * s) j = M.2.2.2.1 (b + 115 + s) j) ∧
  ((M.2.2.1 (b + 94 + 2 * s) 1 = -1 ∧ M.2.2.1 (b + 111) s = 0) ∨
  (∃ t n : Nat, t ≤ 4 ∧ n ≤ 40 ∧ M.2.2.1 (b + 94 + 2 * s) 1 = nI t ∧ M.2.2.1 (b + 94 + 2 * s) 2 = nI n ∧ M.2.2.1 (b + 111) s = 1 ∧ M.2.2.1 (b + 112) s = nI t ∧ M.2.2.1 (b + 113) s = nI n) ∨
  ∃ t l a : Nat, 1 ≤ t ∧ t ≤ 5 ∧ l ≤ 9 ∧ a ≤ 30 ∧ M.2.2.1 (b + 94 + 2 * s) 1 = nI (10 + t) ∧ M.2.2.1 (b + 94 + 2 * s) 3 = nI l ∧ M.2.2.1 (b + 94 + 2 * s) 4 = nI a ∧ M.2.2.1 (b + 111) s = 2 ∧ M.2.2.1 (b + 124) s = nI t ∧ M.2.2.1 (b + 125) s = nI l ∧ M.2.2.1 (b + 126) s = nI a)
def pi_sh (b : Nat) (M : gz_M) : Prop := ∀ s, s < 8 → pi_s1 b s M
def pi_kp (b : Nat) (M : gz_M) : Prop := (M.2.2.1 b 5 = 0 ∧ M.2.2.2.2 (b + 110) 20 = none) ∨ ∃ ka : Nat, M.2.2.1 b 5 = 1 ∧ M.2.2.2.2 (b + 110) 20 = some ka ∧ b + 153 ≤ ka ∧ ka + 43 ≤ M.1 ∧ iv_O ka M ∧ pw_w (b + 33) ka M
/-- THE INVARIANT -/
def pi_I (b : Nat) (M : gz_M) : Prop := iv_L b M ∧ iv_O (b + 110) M ∧ b + 153 ≤ M.1 ∧ pi_rf b M ∧ pi_tp b M ∧ pi_sh b M ∧ pw_w (b + 5) (b + 110) M ∧ pi_kp b M
/-! what does not touch the cells of a part keeps it -/
theorem iv_L.same {b : Nat} {M M' : gz_M} (h : iv_L b M) (h0 : M'.2.1 = M.2.1) (h3 : M'.2.2.2.2 = M.2.2.2.2) : iv_L b M' := ⟨fun o p q => by rw [h0]; exact h.1 o p q, fun o k t q => by rw [h3]; exact h.2 o k t q⟩
theorem iv_O.same {b : Nat} {M M' : gz_M} (h : iv_O b M) (h0 : M'.2.1 = M.2.1) (h3 : M'.2.2.2.2 = M.2.2.2.2) : iv_O b M' := ⟨fun o p q => by rw [h0]; exact h.1 o p q, fun o k t q => by rw [h3]; exact h.2 o k t q⟩
theorem pv_c.same {a : Nat} {V : pv_V} {M M' : gz_M} (h : pv_c a V M) (hI : ∀ c, a ≤ c → c < a + 5 → M'.2.2.1 c = M.2.2.1 c) : pv_c a V M' := by
  unfold pv_c at h ⊢
  rw [hI a (by omega) (by omega), hI (a + 1) (by omega) (by omega), hI (a + 2) (by omega) (by omega), hI (a + 3) (by omega) (by omega), hI (a + 4) (by omega) (by omega)]
  exact h
theorem pv_m.same {mo v : Nat} {V : pv_V} {M M' : gz_M} (h : pv_m mo v V M) (h1 : M'.2.2.1 (mo + 20 + v) = M.2.2.1 (mo + 20 + v)) (h2 : M'.2.2.1 (mo + 26 + v) = M.2.2.1 (mo + 26 + v)) (h3 : M'.2.2.1 (mo + 32 + v) = M.2.2.1 (mo + 32 + v)) : pv_m mo v V M' := by
  unfold pv_m at h ⊢
  rw [h1, h2, h3]
  exact h
theorem pg_g.same {w mo : Nat} {M M' : gz_M} (h : pg_g w mo M) (hI : ∀ c, w + 2 ≤ c → c < w + 8 → M'.2.2.1 c = M.2.2.1 c) (hf : ∀ k, 15 ≤ k → k ≤ 19 → M'.2.2.1 mo k = M.2.2.1 mo k) (hm : ∀ c, (c = mo + 24 ∨ c = mo + 30 ∨ c = mo + 36) → M'.2.2.1 c = M.2.2.1 c) : pg_g w mo M' := by
  unfold pg_g at h ⊢
  rw [hI (w + 2) (by omega) (by omega), hf 15 (by omega) (by omega), hf 16 (by omega) (by omega), hf 17 (by omega) (by omega), hf 18 (by omega) (by omega), hf 19 (by omega) (by omega)]
  obtain ⟨V, h10, h11, h⟩ := h
  refine ⟨V, h10, h11.same (fun c q1 q2 => hI c (by omega) (by omega)), ?_⟩
  rcases h with h | ⟨h0, g, n, x, h1, h2, h3, h4, h5, h6, h7, h8, h9, h12, h13⟩
  · exact Or.inl h
  · exact Or.inr ⟨h0, g, n, x, h1, h2, h3, h4, h5, h6, h7, h8, h9, h12.same (hm _ (by omega)) (hm _ (by omega)) (hm _ (by omega)), h13⟩
theorem pw_w.same {w mo : Nat} {M M' : gz_M} (h : pw_w w mo M) (hI : ∀ c, w ≤ c → c < w + 28 → M'.2.2.1 c = M.2.2.1 c) (hf : ∀ k, k = 11 ∨ (15 ≤ k ∧ k ≤ 19) → M'.2.2.1 mo k = M.2.2.1 mo k) (hm : ∀ c, mo + 20 ≤ c → c < mo + 37 → M'.2.2.1 c = M.2.2.1 c) : pw_w w mo M' := by
  obtain ⟨⟨n, h1, h2, h3, h4⟩, h5⟩ := h
  refine ⟨⟨n, h1, by rw [hI w (by omega) (by omega)]; exact h2, by rw [hf 11 (by omega)]; exact h3, fun v hv => ?_⟩, h5.same (fun c q1 q2 => hI c (by omega) (by omega)) (fun k q1 q2 => hf k (by omega)) (fun c q => hm c (by omega) (by omega))⟩
  obtain ⟨V, g1, g2, g3⟩ := h4 v hv
  exact ⟨V, g1, g2.same (fun c q1 q2 => hI c (by omega) (by omega)), g3.same (hm _ (by omega) (by omega)) (hm _ (by omega) (by omega)) (hm _ (by omega) (by omega))⟩
theorem pi_tp.same {b : Nat} {M M' : gz_M} (h : pi_tp b M) (h1 : M'.2.2.1 (b + 1) = M.2.2.1 (b + 1)) (h2 : M'.2.2.1 (b + 2) = M.2.2.1 (b + 2)) (h3 : M'.2.2.1 (b + 110) 9 = M.2.2.1 (b + 110) 9) (h4 : M'.2.2.1 (b + 127) = M.2.2.1 (b + 127)) : pi_tp b M' := by
  unfold pi_tp at h ⊢
  rw [h1, h2, h3, h4]
  exact h
theorem pi_rf.same {b : Nat} {M M' : gz_M} (h : pi_rf b M) (h1 : M'.2.2.1 (b + 61) = M.2.2.1 (b + 61)) (h2 : M'.2.2.1 (b + 128) = M.2.2.1 (b + 128)) (h3 : M'.2.2.1 (b + 90) = M.2.2.1 (b + 90)) : pi_rf b M' := by
  unfold pi_rf at h ⊢
  rw [h1, h2, h3]
  exact h
theorem pi_s1.same {b s : Nat} {M M' : gz_M} (h : pi_s1 b s M) (h1 : M'.2.2.1 (b + 94 + 2 * s) = M.2.2.1 (b + 94 + 2 * s)) (h2 : M'.2.2.2.1 (b + 95 + 2 * s) = M.2.2.2.1 (b + 95 + 2 * s)) (h3 : M'.2.2.2.1 (b + 115 + s) = M.2.2.2.1 (b + 115 + s)) (h4 : ∀ c, (c = b + 111 ∨ c = b + 112 ∨ c = b + 113 ∨ c = b + 124 ∨ c = b + 125 ∨ c = b + 126) → M'.2.2.1 c s = M.2.2.1 c s) : pi_s1 b s M' := by
  unfold pi_s1 at h ⊢
  rw [h1, h2, h3, h4 (b + 111) (by omega), h4 (b + 112) (by omega), h4 (b + 113) (by omega), h4 (b + 124) (by omega), h4 (b + 125) (by omega), h4 (b + 126) (by omega)]
  exact h
theorem pi_sh.same {b : Nat} {M M' : gz_M} (h : pi_sh b M) (hI : ∀ c, (b + 94 ≤ c ∧ c < b + 110) ∨ (b + 111 ≤ c ∧ c < b + 127) → M'.2.2.1 c = M.2.2.1 c ∧ M'.2.2.2.1 c = M.2.2.2.1 c) : pi_sh b M' := fun s hs => (h s hs).same (hI _ (by omega)).1 (hI _ (by omega)).2 (hI _ (by omega)).2 (fun c q => by rw [(hI c (by omega)).1])
theorem pi_kp.same {b : Nat} {M M' : gz_M} (h : pi_kp b M) (hz : M.1 ≤ M'.1) (h0 : M'.2.1 = M.2.1) (h3 : M'.2.2.2.2 = M.2.2.2.2) (h5 : M'.2.2.1 b 5 = M.2.2.1 b 5) (hI : ∀ c, (b + 33 ≤ c ∧ c < b + 61) ∨ b + 153 ≤ c → M'.2.2.1 c = M.2.2.1 c) : pi_kp b M' := by
  unfold pi_kp at h ⊢
  rw [h5, h3]
  rcases h with h | ⟨ka, h1, h2, h4, h6, h7, h8⟩
  · exact Or.inl h
  · exact Or.inr ⟨ka, h1, h2, h4, by omega, h7.same h0 h3, h8.same (fun c q1 q2 => hI c (by omega)) (fun k q => by rw [hI ka (by omega)]) (fun c q1 q2 => hI c (by omega))⟩
