/-! guards -/
theorem pu_rfw (fu : Nat) {b : Nat} {M : gz_M} (h : pi_I b M) (k : Nat) (hk : k < 5) (r : Int32) (hr : -2 - nI k = r) : ∃ M1 M2, f_X9_refuse fu M b r = some (r, M1) ∧ f_X10_refuse fu M1 (b + 110) r = some (r, M2) ∧ pi_I b M2 ∧ pf_w b M M1 := by
  obtain ⟨M1, M2, q1, q2, q3⟩ := pu_rf2 fu h hk
  have e := pu_rfC fu h.1 hk
  rw [q1] at e
  cases e
  rw [hr] at q1 q2
  exact ⟨_, M2, q1, q2, q3, rfl, rfl, rfl, rfl, fun c q1 q2 => gz_u2_ne (by omega)⟩
theorem pu_i01 {c : Prop} [Decidable c] : (if c then (1 : Int32) else 0) = 0 ∨ (if c then (1 : Int32) else 0) = 1 := by
  by_cases h : c <;> simp [h]
theorem pu_z {α : Type} {c : Prop} [Decidable c] {o : Option α} : gz_z (if c then (1 : Int32) else 0) o = o := if_pos pu_i01
theorem pu_z0 {α : Type} {o : Option α} : gz_z (0 : Int32) o = o := rfl
theorem pu_z1 {α : Type} {o : Option α} : gz_z (1 : Int32) o = o := rfl
theorem pu_inx (fu : Nat) (M : gz_M) (p q : Int32) : f_X10_in fu M p.toInt64 (0 : Int64) q.toInt64 = some (if 0 ≤ p ∧ p ≤ q then 1 else 0) := pu_in fu M p 0 q
/-- a valley -/
def vb (b k : Nat) (V : pv_V) (M : gz_M) : Prop := iv_L b M ∧ iv_O (b + 110) M ∧ k < 4 ∧ pv_ok V ∧ pv_c (b + 13 + 5 * k) V M ∧ pv_m (b + 110) k V M ∧ ∃ n : Nat, k < n ∧ n ≤ 4 ∧ M.2.2.1 (b + 5) 2 = nI n ∧ M.2.2.1 (b + 110) 11 = nI n
/-- no valley -/
def vz (b : Nat) (v : Int32) (M : gz_M) : Prop := iv_L b M ∧ iv_O (b + 110) M ∧ ∃ n : Nat, n ≤ 4 ∧ M.2.2.1 (b + 5) 2 = nI n ∧ M.2.2.1 (b + 110) 11 = nI n ∧ ¬ (0 ≤ v ∧ v ≤ nI n - 1)
theorem pg_val {b : Nat} {M : gz_M} (h : pi_I b M) (v : Int32) : (∃ (k : Nat) (V : pv_V), v = nI k ∧ vb b k V M) ∨ vz b v M := by
  obtain ⟨h1, h2, h3, h4, h5, h6, ⟨⟨n, hn, n1, n2, n3⟩, h7⟩, h8⟩ := h
  by_cases c : 0 ≤ v ∧ v ≤ nI n - 1
  · obtain ⟨k, hk, rfl⟩ := (pn_lt (by omega)).mp c
    obtain ⟨V, q1, q2, q3⟩ := n3 k hk
    exact Or.inl ⟨k, V, rfl, h1, h2, by omega, q1, q2, q3, n, hk, hn, n1, n2⟩
  · exact Or.inr ⟨h1, h2, n, hn, n1, n2, c⟩
theorem vb.same {b k : Nat} {V : pv_V} {M M' : gz_M} (h : vb b k V M) (w : pf_w b M M') : vb b k V M' := by
  obtain ⟨h1, h2, h3, h4, h5, h6, n, h7, h8, h9, h10⟩ := h
  obtain ⟨w1, w2, w3, w4, w5⟩ := w
  refine ⟨h1.same w2 w4, h2.same w2 w4, h3, h4, h5.same (fun c q1 q2 => w5 _ (by omega) (by omega)), h6.same (w5 _ (by omega) (by omega)) (w5 _ (by omega) (by omega)) (w5 _ (by omega) (by omega)), n, h7, h8, ?_, ?_⟩
  · rw [w5 _ (by omega) (by omega)]; exact h9
  · rw [w5 _ (by omega) (by omega)]; exact h10
theorem vz.same {b : Nat} {v : Int32} {M M' : gz_M} (h : vz b v M) (w : pf_w b M M') : vz b v M' := by
  obtain ⟨h1, h2, n, h3, h9, h10, h4⟩ := h
  obtain ⟨w1, w2, w3, w4, w5⟩ := w
  refine ⟨h1.same w2 w4, h2.same w2 w4, n, h3, ?_, ?_, h4⟩
  · rw [w5 _ (by omega) (by omega)]; exact h9
  · rw [w5 _ (by omega) (by omega)]; exact h10
section GR
variable {b k : Nat} {V : pv_V} {M : gz_M} {v : Int32}
theorem iv_L.g {α : Type} {o : Option α} (h : iv_L b M) : gz_gd M 9 b o = o := pu_gd (ci := 9) (ly_c0 h)
theorem iv_O.g {α : Type} {o : Option α} (h : iv_O b M) : gz_gd M 10 b o = o := pu_gd (ci := 10) (ly_m0 h)
theorem vb.c (h : vb b k V M) : vy_c (b + 13 + 5 * k) V M := vy_mk h.1 h.2.2.1 h.2.2.2.1 h.2.2.2.2.1
theorem vb.m (h : vb b k V M) : vy_m (b + 110) k V M := vy_mm h.2.1 (by have := h.2.2.1; omega) h.2.2.2.1 h.2.2.2.2.2.1
theorem vb.gC {α : Type} {o : Option α} (h : vb b k V M) : gz_gd M 9 b o = o := h.1.g
theorem vb.gM {α : Type} {o : Option α} (h : vb b k V M) : gz_gd M 10 (b + 110) o = o := h.2.1.g
theorem vz.gC {α : Type} {o : Option α} (h : vz b v M) : gz_gd M 9 b o = o := h.1.g
theorem vz.gM {α : Type} {o : Option α} (h : vz b v M) : gz_gd M 10 (b + 110) o = o := h.2.1.g
theorem vb.p1 (h : vb b k V M) : gz_gR M 9 3 b = some (b + 5) := lc_R h.1 3 5 (by decide)
theorem vb.p2 (h : vb b k V M) : gz_gR M 8 0 (b + 5) = some (b + 6) := pu_gR (ci := 8) (h.1.1 5 _ rfl) (h.1.2 5 0 6 (by decide))
theorem vb.p3 (h : vb b k V M) : gz_aR M (b + 6) (nI k) = some (b + 13 + 5 * k) := by
  have e := h.1.2 _ _ _ (ly_dv1 k h.2.2.1).1
  rw [← Nat.add_assoc] at e
  exact pu_aR (h.1.1 6 _ rfl) (by decide) h.2.2.1 (by decide) e
theorem vb.ok (h : vb b k V M) : pv_ok V := h.2.2.2.1
theorem vb.vC (fu : Nat) (h : vb b k V M) : f_X9_isValley fu M b (nI k) = some 1 := by
  obtain ⟨h1, h2, h3, h4, h5, h6, n, h7, h8, h9, h10⟩ := id h
  unfold f_X9_isValley
  rw [h.gC, h.p1, Option.bind_some, pu_gI (ci := 8) 2 (h1.1 5 _ rfl), h9, Option.bind_some, pu_within, if_pos ((pn_lt (by omega)).mpr ⟨k, h7, rfl⟩)]
  rfl
theorem vb.vM (fu : Nat) (h : vb b k V M) : f_X10_isValley fu M (b + 110) (nI k) = some 1 := by
  obtain ⟨h1, h2, h3, h4, h5, h6, n, h7, h8, h9, h10⟩ := id h
  unfold f_X10_isValley
  rw [h.gM, pu_gI (ci := 10) 11 (ly_m0 h2), h10, Option.bind_some, pu_inx, if_pos ((pn_lt (by omega)).mpr ⟨k, h7, rfl⟩)]
  rfl
theorem vz.vC (fu : Nat) (h : vz b v M) : f_X9_isValley fu M b v = some 0 := by
  obtain ⟨h1, h2, n, h8, h9, h10, h11⟩ := id h
  unfold f_X9_isValley
  rw [h.gC, lc_R h.1 3 5 (by decide), Option.bind_some, pu_gI (ci := 8) 2 (h1.1 5 _ rfl), h9, Option.bind_some, pu_within, if_neg h11]
  rfl
theorem vz.vM (fu : Nat) (h : vz b v M) : f_X10_isValley fu M (b + 110) v = some 0 := by
  obtain ⟨h1, h2, n, h8, h9, h10, h11⟩ := id h
  unfold f_X10_isValley
  rw [h.gM, pu_gI (ci := 10) 11 (ly_m0 h2), h10, Option.bind_some, pu_inx, if_neg h11]
  rfl
theorem vb.fC (fu : Nat) (h : vb b k V M) (f : Int32) : f_X9_isFoot fu M b (nI k) f = some (if 0 ≤ f ∧ f ≤ nI (pv_nf V) - 1 then 1 else 0) := by
  unfold f_X9_isFoot
  simp only [gz_jn, h.gC, h.vC fu, h.p1, h.p2, h.p3, vc_nf h.c, pu_within, Option.bind_some, pu_z0, pu_z1, pu_ii]
  by_cases c : 0 ≤ f ∧ f ≤ nI (pv_nf V) - 1 <;> simp [c]
theorem vb.lC (fu : Nat) (h : vb b k V M) (f : Int32) : f_X9_isLast fu M b (nI k) f = some (if 0 ≤ f ∧ f ≤ nI (pv_nl V) - 1 then 1 else 0) := by
  unfold f_X9_isLast
  simp only [gz_jn, h.gC, h.vC fu, h.p1, h.p2, h.p3, vc_nl h.c, pu_within, Option.bind_some, pu_z0, pu_z1, pu_ii]
  by_cases c : 0 ≤ f ∧ f ≤ nI (pv_nl V) - 1 <;> simp [c]
theorem vb.sC (fu : Nat) (h : vb b k V M) (f : Int32) : f_X9_isSet fu M b (nI k) f = some (if 0 ≤ f ∧ f ≤ nI (2 ^ pv_nl V) - 1 then 1 else 0) := by
  unfold f_X9_isSet
  simp only [gz_jn, h.gC, h.vC fu, h.p1, h.p2, h.p3, vc_all fu h.c, pu_within, Option.bind_some, pu_z0, pu_z1, pu_ii]
  by_cases c : 0 ≤ f ∧ f ≤ nI (2 ^ pv_nl V) - 1 <;> simp [c]
theorem vb.fM (fu : Nat) (h : vb b k V M) (f : Int32) : f_X10_isFoot fu M (b + 110) (nI k) f = some (if 0 ≤ f ∧ f ≤ nI (pv_nf V) - 1 then 1 else 0) := by
  unfold f_X10_isFoot
  simp only [gz_jn, h.gM, h.vM fu, vm_nf fu h.m, pu_inx, Option.bind_some, pu_z0, pu_z1, pu_ii]
  by_cases c : 0 ≤ f ∧ f ≤ nI (pv_nf V) - 1 <;> simp [c]
theorem vb.lM (fu : Nat) (h : vb b k V M) (f : Int32) : f_X10_isLast fu M (b + 110) (nI k) f = some (if 0 ≤ f ∧ f ≤ nI (pv_nl V) - 1 then 1 else 0) := by
  unfold f_X10_isLast
  simp only [gz_jn, h.gM, h.vM fu, vm_nl fu h.m, pu_inx, Option.bind_some, pu_z0, pu_z1, pu_ii]
  by_cases c : 0 ≤ f ∧ f ≤ nI (pv_nl V) - 1 <;> simp [c]
theorem vb.sM (fu : Nat) (h : vb b k V M) (f : Int32) : f_X10_isSet fu M (b + 110) (nI k) f = some (if 0 ≤ f ∧ f ≤ nI (2 ^ pv_nl V) - 1 then 1 else 0) := by
  unfold f_X10_isSet
  simp only [gz_jn, h.gM, h.vM fu, vm_all fu h.m, pu_inx, Option.bind_some, pu_z0, pu_z1, pu_ii]
  by_cases c : 0 ≤ f ∧ f ≤ nI (2 ^ pv_nl V) - 1 <;> simp [c]
theorem vz.fC (fu : Nat) (h : vz b v M) (f : Int32) : f_X9_isFoot fu M b v f = some 0 := by
  unfold f_X9_isFoot
  simp only [gz_jn, h.gC, h.vC fu, Option.bind_some, pu_z0, if_true]
theorem vz.lC (fu : Nat) (h : vz b v M) (f : Int32) : f_X9_isLast fu M b v f = some 0 := by
  unfold f_X9_isLast
  simp only [gz_jn, h.gC, h.vC fu, Option.bind_some, pu_z0, if_true]
theorem vz.sC (fu : Nat) (h : vz b v M) (f : Int32) : f_X9_isSet fu M b v f = some 0 := by
  unfold f_X9_isSet
  simp only [gz_jn, h.gC, h.vC fu, Option.bind_some, pu_z0, if_true]
theorem vz.fM (fu : Nat) (h : vz b v M) (f : Int32) : f_X10_isFoot fu M (b + 110) v f = some 0 := by
  unfold f_X10_isFoot
  simp only [gz_jn, h.gM, h.vM fu, Option.bind_some, pu_z0, if_true]
theorem vz.lM (fu : Nat) (h : vz b v M) (f : Int32) : f_X10_isLast fu M (b + 110) v f = some 0 := by
  unfold f_X10_isLast
  simp only [gz_jn, h.gM, h.vM fu, Option.bind_some, pu_z0, if_true]
theorem vz.sM (fu : Nat) (h : vz b v M) (f : Int32) : f_X10_isSet fu M (b + 110) v f = some 0 := by
  unfold f_X10_isSet
  simp only [gz_jn, h.gM, h.vM fu, Option.bind_some, pu_z0, if_true]
theorem vb.nM (fu : Nat) (h : vb b k V M) (f g : Int32) : f_X10_isMany fu M (b + 110) (nI k) f g = some (if 0 ≤ f ∧ f ≤ g then 1 else 0) := by
  unfold f_X10_isMany
  simp only [gz_jn, h.gM, h.vM fu, pu_inx, Option.bind_some, pu_z0, pu_z1, pu_ii]
  by_cases c : 0 ≤ f ∧ f ≤ g <;> simp [c]
theorem vz.nM (fu : Nat) (h : vz b v M) (f g : Int32) : f_X10_isMany fu M (b + 110) v f g = some 0 := by
  unfold f_X10_isMany
  simp only [gz_jn, h.gM, h.vM fu, Option.bind_some, pu_z0, if_true]
end GR
theorem pu_count (fu : Nat) (M : gz_M) (n : Int32) : f_X9_isCount fu M n = some (if 0 ≤ n ∧ n ≤ 10 then 1 else 0) := by
  unfold f_X9_isCount
  rw [pu_within, Option.bind_some, pu_z]
theorem pn_0_1 (fu : Nat) (M : gz_M) (p : Int32) : f_X10_in fu M p.toInt64 (0 : Int64) (1 : Int64) = some (if 0 ≤ p ∧ p ≤ 1 then 1 else 0) := pu_in fu M p 0 1
theorem pn_0_2 (fu : Nat) (M : gz_M) (p : Int32) : f_X10_in fu M p.toInt64 (0 : Int64) (2 : Int64) = some (if 0 ≤ p ∧ p ≤ 2 then 1 else 0) := pu_in fu M p 0 2
theorem pn_0_3 (fu : Nat) (M : gz_M) (p : Int32) : f_X10_in fu M p.toInt64 (0 : Int64) (3 : Int64) = some (if 0 ≤ p ∧ p ≤ 3 then 1 else 0) := pu_in fu M p 0 3
theorem pn_0_4 (fu : Nat) (M : gz_M) (p : Int32) : f_X10_in fu M p.toInt64 (0 : Int64) (4 : Int64) = some (if 0 ≤ p ∧ p ≤ 4 then 1 else 0) := pu_in fu M p 0 4
theorem pn_0_5 (fu : Nat) (M : gz_M) (p : Int32) : f_X10_in fu M p.toInt64 (0 : Int64) (5 : Int64) = some (if 0 ≤ p ∧ p ≤ 5 then 1 else 0) := pu_in fu M p 0 5
theorem pn_0_7 (fu : Nat) (M : gz_M) (p : Int32) : f_X10_in fu M p.toInt64 (0 : Int64) (7 : Int64) = some (if 0 ≤ p ∧ p ≤ 7 then 1 else 0) := pu_in fu M p 0 7
theorem pn_0_10 (fu : Nat) (M : gz_M) (p : Int32) : f_X10_in fu M p.toInt64 (0 : Int64) (10 : Int64) = some (if 0 ≤ p ∧ p ≤ 10 then 1 else 0) := pu_in fu M p 0 10
theorem pn_0_40 (fu : Nat) (M : gz_M) (p : Int32) : f_X10_in fu M p.toInt64 (0 : Int64) (40 : Int64) = some (if 0 ≤ p ∧ p ≤ 40 then 1 else 0) := pu_in fu M p 0 40
theorem pn_1_4 (fu : Nat) (M : gz_M) (p : Int32) : f_X10_in fu M p.toInt64 (1 : Int64) (4 : Int64) = some (if 1 ≤ p ∧ p ≤ 4 then 1 else 0) := pu_in fu M p 1 4
theorem pn_1_6 (fu : Nat) (M : gz_M) (p : Int32) : f_X10_in fu M p.toInt64 (1 : Int64) (6 : Int64) = some (if 1 ≤ p ∧ p ≤ 6 then 1 else 0) := pu_in fu M p 1 6
theorem pn_1_9 (fu : Nat) (M : gz_M) (p : Int32) : f_X10_in fu M p.toInt64 (1 : Int64) (9 : Int64) = some (if 1 ≤ p ∧ p ≤ 9 then 1 else 0) := pu_in fu M p 1 9
theorem pn_1_999 (fu : Nat) (M : gz_M) (p : Int32) : f_X10_in fu M p.toInt64 (1 : Int64) (999 : Int64) = some (if 1 ≤ p ∧ p ≤ 999 then 1 else 0) := pu_in fu M p 1 999
theorem pn_12_16 (fu : Nat) (M : gz_M) (p : Int32) : f_X10_in fu M p.toInt64 (12 : Int64) (16 : Int64) = some (if 12 ≤ p ∧ p ≤ 16 then 1 else 0) := pu_in fu M p 12 16
