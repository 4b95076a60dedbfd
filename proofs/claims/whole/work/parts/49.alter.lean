/-! changes of a valley -/
def pf_f (P : Nat → Prop) (M M' : gz_M) : Prop := M'.1 = M.1 ∧ M'.2.1 = M.2.1 ∧ M'.2.2.2.1 = M.2.2.2.1 ∧ M'.2.2.2.2 = M.2.2.2.2 ∧ ∀ c, ¬ P c → M'.2.2.1 c = M.2.2.1 c
theorem pf_f.refl {P : Nat → Prop} {M : gz_M} : pf_f P M M := ⟨rfl, rfl, rfl, rfl, fun _ _ => rfl⟩
theorem pf_f.trans {P Q S : Nat → Prop} {M M' M'' : gz_M} (h : pf_f P M M') (h' : pf_f Q M' M'') (h1 : ∀ c, P c → S c) (h2 : ∀ c, Q c → S c) : pf_f S M M'' := ⟨h'.1.trans h.1, h'.2.1.trans h.2.1, h'.2.2.1.trans h.2.2.1, h'.2.2.2.1.trans h.2.2.2.1, fun c q => (h'.2.2.2.2 c (fun p => q (h2 c p))).trans (h.2.2.2.2 c (fun p => q (h1 c p)))⟩
theorem pf_f.one {P : Nat → Prop} {M : gz_M} {a k : Nat} {v : Int32} (h : P a) : pf_f P M (gz_sI M a k v) := ⟨rfl, rfl, rfl, rfl, fun c hc => pv_I1 (fun e => hc (by rw [e]; exact h))⟩
theorem pf_f.two {P : Nat → Prop} {M M' : gz_M} {a k : Nat} {v : Int32} (w : pf_f P M M') (h : P a) : pf_f P M (gz_sI M' a k v) := w.trans (pf_f.one (P := P) h) (fun _ q => q) (fun _ q => q)
/-- the cells of the class's valley k, and of the reference's -/
def pc_C (b k : Nat) (c : Nat) : Prop := b + 13 + 5 * k ≤ c ∧ c < b + 18 + 5 * k
def pc_M (b k : Nat) (c : Nat) : Prop := c = b + 130 + k ∨ c = b + 136 + k ∨ c = b + 142 + k
theorem pi_I.val {b k : Nat} {V V' : pv_V} {M M' : gz_M} (h : pi_I b M) (hv : vb b k V M) (w : pf_f (fun c => pc_C b k c ∨ pc_M b k c) M M') (ho : pv_ok V') (hc : pv_c (b + 13 + 5 * k) V' M') (hm : pv_m (b + 110) k V' M') : pi_I b M' := by
  obtain ⟨h1, h2, h3, h4, h5, h6, ⟨⟨n, hn, n1, n2, n3⟩, h7⟩, h8⟩ := h
  obtain ⟨w1, w2, w3, w4, w5⟩ := w
  have hk := hv.2.2.1
  have w6 : ∀ c, c < b + 13 ∨ (b + 13 ≤ c ∧ c < b + 33 ∧ ¬ (b + 13 + 5 * k ≤ c ∧ c < b + 18 + 5 * k)) ∨ (b + 33 ≤ c ∧ c < b + 130) ∨ (b + 130 ≤ c ∧ c < b + 153 ∧ c ≠ b + 130 + k ∧ c ≠ b + 136 + k ∧ c ≠ b + 142 + k) ∨ b + 153 ≤ c → M'.2.2.1 c = M.2.2.1 c := fun c q => w5 c (by unfold pc_C pc_M; omega)
  refine ⟨h1.same w2 w4, h2.same w2 w4, by omega, h4.same (w6 _ (by omega)) (w6 _ (by omega)) (w6 _ (by omega)), h5.same (w6 _ (by omega)) (w6 _ (by omega)) (by rw [w6 _ (by omega)]) (w6 _ (by omega)), h6.same (fun c q => ⟨w6 _ (by omega), by rw [w3]⟩), ⟨⟨n, hn, by rw [w6 _ (by omega)]; exact n1, by rw [w6 _ (by omega)]; exact n2, fun v hv' => ?_⟩, h7.same (fun c q1 q2 => w6 _ (by omega)) (fun k q1 q2 => by rw [w6 _ (by omega)]) (fun c q => w6 _ (by omega))⟩, h8.same (by omega) w2 w4 (by rw [w6 _ (by omega)]) (fun c q => w6 _ (by omega))⟩
  by_cases e : v = k
  · subst e
    refine ⟨V', ho, ?_, hm⟩
    rw [show b + 5 + 8 + 5 * v = b + 13 + 5 * v by omega]
    exact hc
  · obtain ⟨U, u1, u2, u3⟩ := n3 v hv'
    exact ⟨U, u1, u2.same (fun c q1 q2 => w6 _ (by omega)), u3.same (w6 _ (by omega)) (w6 _ (by omega)) (w6 _ (by omega))⟩
def vl_c (a : Nat) (M : gz_M) : Prop := M.2.1 a = (8, 0) ∧ M.2.1 (a + 1) = (20, 60) ∧ M.2.1 (a + 2) = (20, 40) ∧ M.2.1 (a + 3) = (20, 3) ∧ M.2.1 (a + 4) = (20, 3) ∧ M.2.2.2.2 a 0 = some (a + 1) ∧ M.2.2.2.2 a 1 = some (a + 2) ∧ M.2.2.2.2 a 2 = some (a + 3) ∧ M.2.2.2.2 a 3 = some (a + 4)
theorem vl_c.same {a : Nat} {M M' : gz_M} (h : vl_c a M) (h0 : M'.2.1 = M.2.1) (h3 : M'.2.2.2.2 = M.2.2.2.2) : vl_c a M' := by unfold vl_c; rw [h0, h3]; exact h
theorem vy_c.l {a : Nat} {V : pv_V} {M : gz_M} (h : vy_c a V M) : vl_c a M := h.1
def vl_m (mo k : Nat) (M : gz_M) : Prop := (M.2.1 mo = (11, 0) ∧ M.2.1 (mo + 19) = (24, 5) ∧ M.2.1 (mo + 25) = (24, 5) ∧ M.2.1 (mo + 31) = (24, 5) ∧ M.2.1 (mo + 20 + k) = (20, 10) ∧ M.2.1 (mo + 26 + k) = (20, 60) ∧ M.2.1 (mo + 32 + k) = (20, 40) ∧ M.2.2.2.2 mo 12 = some (mo + 19) ∧ M.2.2.2.2 mo 13 = some (mo + 25) ∧ M.2.2.2.2 mo 14 = some (mo + 31) ∧ M.2.2.2.2 (mo + 19) k = some (mo + 20 + k) ∧ M.2.2.2.2 (mo + 25) k = some (mo + 26 + k) ∧ M.2.2.2.2 (mo + 31) k = some (mo + 32 + k)) ∧ k < 5
theorem vl_m.same {mo k : Nat} {M M' : gz_M} (h : vl_m mo k M) (h0 : M'.2.1 = M.2.1) (h3 : M'.2.2.2.2 = M.2.2.2.2) : vl_m mo k M' := by unfold vl_m; rw [h0, h3]; exact h
theorem vy_m.l {mo k : Nat} {V : pv_V} {M : gz_M} (h : vy_m mo k V M) : vl_m mo k M := ⟨h.1, h.2.1⟩
theorem vl_m.y {mo k : Nat} {V : pv_V} {M : gz_M} (h : vl_m mo k M) (ho : pv_ok V) (hm : pv_m mo k V M) : vy_m mo k V M := ⟨h.1, h.2, ho, hm⟩
theorem vl_c.y {a : Nat} {V : pv_V} {M : gz_M} (h : vl_c a M) (ho : pv_ok V) (hm : pv_c a V M) : vy_c a V M := ⟨h, ho, hm⟩
theorem vl_c.gd {α : Type} {o : Option α} {a : Nat} {M : gz_M} (h : vl_c a M) : gz_gd M 7 a o = o := pu_gd (ci := 7) h.1
theorem vl_pf (fu : Nat) {a : Nat} {M : gz_M} (h : vl_c a M) {f m : Nat} (hj : 5 * f + m < 60) (v : Int32) : f_X7_putFootPart fu M a (nI f) (nI m) v = some (gz_sI M (a + 1) (5 * f + m) v) := by
  have e : nI f * (5 : Int32) + nI m = nI (5 * f + m) := by rw [show (5 : Int32) = nI 5 from rfl, pk_mul, nI_add, Nat.mul_comm]
  unfold f_X7_putFootPart
  rw [h.gd, pu_gR (ci := 7) h.1 h.2.2.2.2.2.1, Option.bind_some, e, pu_tI v h.2.1 hj (by omega), Option.bind_some]
theorem vl_pl (fu : Nat) {a : Nat} {M : gz_M} (h : vl_c a M) {l m : Nat} (hj : 4 * l + m < 40) (v : Int32) : f_X7_putLastPart fu M a (nI l) (nI m) v = some (gz_sI M (a + 2) (4 * l + m) v) := by
  have e : nI l * (4 : Int32) + nI m = nI (4 * l + m) := by rw [show (4 : Int32) = nI 4 from rfl, pk_mul, nI_add, Nat.mul_comm]
  unfold f_X7_putLastPart
  rw [h.gd, pu_gR (ci := 7) h.1 h.2.2.2.2.2.2.1, Option.bind_some, e, pu_tI v h.2.2.1 hj (by omega), Option.bind_some]
theorem vl_f {mo k : Nat} {M : gz_M} (h : vl_m mo k M) : gz_gR M 10 13 mo = some (mo + 25) ∧ gz_aR M (mo + 25) (nI k) = some (mo + 26 + k) ∧ M.2.1 (mo + 26 + k) = (20, 60) := ⟨pu_gR (ci := 10) h.1.1 h.1.2.2.2.2.2.2.2.2.1, pu_aR h.1.2.2.1 (by decide) h.2 (by decide) h.1.2.2.2.2.2.2.2.2.2.2.2.1, h.1.2.2.2.2.2.1⟩
theorem vl_l {mo k : Nat} {M : gz_M} (h : vl_m mo k M) : gz_gR M 10 14 mo = some (mo + 31) ∧ gz_aR M (mo + 31) (nI k) = some (mo + 32 + k) ∧ M.2.1 (mo + 32 + k) = (20, 40) := ⟨pu_gR (ci := 10) h.1.1 h.1.2.2.2.2.2.2.2.2.2.1, pu_aR h.1.2.2.2.1 (by decide) h.2 (by decide) h.1.2.2.2.2.2.2.2.2.2.2.2.2, h.1.2.2.2.2.2.2.1⟩
theorem vl_v {mo k : Nat} {M : gz_M} (h : vl_m mo k M) : gz_gR M 10 12 mo = some (mo + 19) ∧ gz_aR M (mo + 19) (nI k) = some (mo + 20 + k) ∧ M.2.1 (mo + 20 + k) = (20, 10) := ⟨pu_gR (ci := 10) h.1.1 h.1.2.2.2.2.2.2.2.1, pu_aR h.1.2.1 (by decide) h.2 (by decide) h.1.2.2.2.2.2.2.2.2.2.2.1, h.1.2.2.2.2.1⟩
/-! one part changed -/
def pv_uF (V : pv_V) (j x : Nat) : pv_V := (V.1, V.2.1, V.2.2.1, V.2.2.2.1, V.2.2.2.2.1, V.2.2.2.2.2.1, (fun i => if i = j then x else V.2.2.2.2.2.2.1 i), V.2.2.2.2.2.2.2)
def pv_uL (V : pv_V) (j x : Nat) : pv_V := (V.1, V.2.1, V.2.2.1, V.2.2.2.1, V.2.2.2.2.1, V.2.2.2.2.2.1, V.2.2.2.2.2.2.1, (fun i => if i = j then x else V.2.2.2.2.2.2.2 i))
theorem pvc_F {a j x : Nat} {V : pv_V} {M : gz_M} (h : pv_c a V M) : pv_c a (pv_uF V j x) (gz_sI M (a + 1) j (nI x)) := by
  obtain ⟨h1, h2, h3, h4, h5, h6, h7, h8⟩ := h
  refine ⟨?_, ?_, ?_, ?_, fun m hm => ?_, fun m hm => ?_, fun i hi => ?_, fun i hi => ?_⟩
  all_goals rw [pu_sI_at]
  · rw [if_neg (by omega)]; exact h1
  · rw [if_neg (by omega)]; exact h2
  · rw [if_neg (by omega)]; exact h3
  · rw [if_neg (by omega)]; exact h4
  · rw [if_neg (by omega)]; exact h5 m hm
  · rw [if_neg (by omega)]; exact h6 m hm
  · show _ = nI (if i = j then x else pv_F V i)
    by_cases e : i = j
    · rw [if_pos ⟨rfl, e⟩, if_pos e]
    · rw [if_neg (fun q => e q.2), if_neg e]; exact h7 i hi
  · rw [if_neg (by omega)]; exact h8 i hi
theorem pvc_L {a j x : Nat} {V : pv_V} {M : gz_M} (h : pv_c a V M) : pv_c a (pv_uL V j x) (gz_sI M (a + 2) j (nI x)) := by
  obtain ⟨h1, h2, h3, h4, h5, h6, h7, h8⟩ := h
  refine ⟨?_, ?_, ?_, ?_, fun m hm => ?_, fun m hm => ?_, fun i hi => ?_, fun i hi => ?_⟩
  all_goals rw [pu_sI_at]
  · rw [if_neg (by omega)]; exact h1
  · rw [if_neg (by omega)]; exact h2
  · rw [if_neg (by omega)]; exact h3
  · rw [if_neg (by omega)]; exact h4
  · rw [if_neg (by omega)]; exact h5 m hm
  · rw [if_neg (by omega)]; exact h6 m hm
  · rw [if_neg (by omega)]; exact h7 i hi
  · show _ = nI (if i = j then x else pv_L V i)
    by_cases e : i = j
    · rw [if_pos ⟨rfl, e⟩, if_pos e]
    · rw [if_neg (fun q => e q.2), if_neg e]; exact h8 i hi
theorem pvm_F {mo k j x : Nat} {V : pv_V} {M : gz_M} (hk : k < 5) (h : pv_m mo k V M) : pv_m mo k (pv_uF V j x) (gz_sI M (mo + 26 + k) j (nI x)) := by
  obtain ⟨h1, h2, h3, h4, h5, h6, h7, h8⟩ := h
  refine ⟨?_, ?_, ?_, ?_, fun m hm => ?_, fun m hm => ?_, fun i hi => ?_, fun i hi => ?_⟩
  all_goals rw [pu_sI_at]
  · rw [if_neg (by omega)]; exact h1
  · rw [if_neg (by omega)]; exact h2
  · rw [if_neg (by omega)]; exact h3
  · rw [if_neg (by omega)]; exact h4
  · rw [if_neg (by omega)]; exact h5 m hm
  · rw [if_neg (by omega)]; exact h6 m hm
  · show _ = nI (if i = j then x else pv_F V i)
    by_cases e : i = j
    · rw [if_pos ⟨rfl, e⟩, if_pos e]
    · rw [if_neg (fun q => e q.2), if_neg e]; exact h7 i hi
  · rw [if_neg (by omega)]; exact h8 i hi
theorem pvm_L {mo k j x : Nat} {V : pv_V} {M : gz_M} (hk : k < 5) (h : pv_m mo k V M) : pv_m mo k (pv_uL V j x) (gz_sI M (mo + 32 + k) j (nI x)) := by
  obtain ⟨h1, h2, h3, h4, h5, h6, h7, h8⟩ := h
  refine ⟨?_, ?_, ?_, ?_, fun m hm => ?_, fun m hm => ?_, fun i hi => ?_, fun i hi => ?_⟩
  all_goals rw [pu_sI_at]
  · rw [if_neg (by omega)]; exact h1
  · rw [if_neg (by omega)]; exact h2
  · rw [if_neg (by omega)]; exact h3
  · rw [if_neg (by omega)]; exact h4
  · rw [if_neg (by omega)]; exact h5 m hm
  · rw [if_neg (by omega)]; exact h6 m hm
  · rw [if_neg (by omega)]; exact h7 i hi
  · show _ = nI (if i = j then x else pv_L V i)
    by_cases e : i = j
    · rw [if_pos ⟨rfl, e⟩, if_pos e]
    · rw [if_neg (fun q => e q.2), if_neg e]; exact h8 i hi
theorem pv_uF_ok {V : pv_V} {f m x : Nat} (h : pv_ok V) (hm : m < 5) (hx : (m < 3 → x ≤ 30) ∧ (m = 3 → 1 ≤ x ∧ x ≤ 99) ∧ (m = 4 → x ≤ 9)) : pv_ok (pv_uF V (5 * f + m) x) := by
  obtain ⟨h1, h2, h3, h4, h5, h6, h7⟩ := h
  refine ⟨h1, h2, h3, h4, h5, fun g hg => ?_, h7⟩
  obtain ⟨q1, q2, q3, q4⟩ := h6 g hg
  refine ⟨fun n hn => ?_, ?_, ?_, ?_⟩
  · show (if 5 * g + n = 5 * f + m then x else pv_F V (5 * g + n)) ≤ 30
    split
    · exact hx.1 (by omega)
    · exact q1 n hn
  · show 1 ≤ (if 5 * g + 3 = 5 * f + m then x else pv_F V (5 * g + 3))
    split
    · exact (hx.2.1 (by omega)).1
    · exact q2
  · show (if 5 * g + 3 = 5 * f + m then x else pv_F V (5 * g + 3)) ≤ 99
    split
    · exact (hx.2.1 (by omega)).2
    · exact q3
  · show (if 5 * g + 4 = 5 * f + m then x else pv_F V (5 * g + 4)) ≤ 9
    split
    · exact hx.2.2 (by omega)
    · exact q4
theorem pv_uL_ok {V : pv_V} {l m x : Nat} (h : pv_ok V) (hm : m < 4) (hx : (m < 3 → x ≤ 40) ∧ (m = 3 → x ≤ 99)) : pv_ok (pv_uL V (4 * l + m) x) := by
  obtain ⟨h1, h2, h3, h4, h5, h6, h7⟩ := h
  refine ⟨h1, h2, h3, h4, h5, h6, fun g hg => ?_⟩
  obtain ⟨q1, q2⟩ := h7 g hg
  refine ⟨fun n hn => ?_, ?_⟩
  · show (if 4 * g + n = 4 * l + m then x else pv_L V (4 * g + n)) ≤ 40
    split
    · exact hx.1 (by omega)
    · exact q1 n hn
  · show (if 4 * g + 3 = 4 * l + m then x else pv_L V (4 * g + 3)) ≤ 99
    split
    · exact hx.2 (by omega)
    · exact q2
/-- a valley of the class written, then one of the reference: what is left of the other -/
theorem pf_cm {b k : Nat} {M M' : gz_M} {V : pv_V} (hk : k < 4) (w : pf_f (pc_C b k) M M') (h : pv_m (b + 110) k V M) : pv_m (b + 110) k V M' := h.same (w.2.2.2.2 _ (by unfold pc_C; omega)) (w.2.2.2.2 _ (by unfold pc_C; omega)) (w.2.2.2.2 _ (by unfold pc_C; omega))
theorem pf_mc {b k : Nat} {M M' : gz_M} {V : pv_V} (hk : k < 4) (w : pf_f (pc_M b k) M M') (h : pv_c (b + 13 + 5 * k) V M) : pv_c (b + 13 + 5 * k) V M' := h.same (fun c q1 q2 => w.2.2.2.2 _ (by unfold pc_M; omega))
theorem vb.cm {b k : Nat} {V : pv_V} {M M' : gz_M} (h : vb b k V M) (w : pf_f (pc_C b k) M M') : iv_O (b + 110) M' ∧ pv_m (b + 110) k V M' ∧ vl_m (b + 110) k M' := ⟨h.2.1.same w.2.1 w.2.2.2.1, pf_cm h.2.2.1 w h.2.2.2.2.2.1, h.m.l.same w.2.1 w.2.2.2.1⟩
/-- guards of the reference after the class has written its valley -/
theorem vb.cm2 {b k : Nat} {V V' : pv_V} {M M' : gz_M} (h : vb b k V M) (w : pf_f (pc_C b k) M M') : iv_O (b + 110) M' ∧ vy_m (b + 110) k V M' ∧ (∀ fu, f_X10_isValley fu M' (b + 110) (nI k) = some 1) ∧ (∀ fu f, f_X10_isFoot fu M' (b + 110) (nI k) f = some (if 0 ≤ f ∧ f ≤ nI (pv_nf V) - 1 then 1 else 0)) ∧ (∀ fu f, f_X10_isLast fu M' (b + 110) (nI k) f = some (if 0 ≤ f ∧ f ≤ nI (pv_nl V) - 1 then 1 else 0)) := by
  obtain ⟨q1, q2, q3⟩ := h.cm w
  have hk := h.2.2.1
  have hm : vy_m (b + 110) k V M' := q3.y h.ok q2
  have hvv : ∀ fu, f_X10_isValley fu M' (b + 110) (nI k) = some 1 := fun fu => by
    obtain ⟨h1, h2, h3, h4, h5, h6, n, h7, h8, h9, h10⟩ := id h
    unfold f_X10_isValley
    rw [q1.g, pu_gI (ci := 10) 11 (ly_m0 q1), w.2.2.2.2 _ (by unfold pc_C; omega), h10, Option.bind_some, pu_inx, if_pos ((pn_lt (by omega)).mpr ⟨k, h7, rfl⟩)]
    rfl
  refine ⟨q1, hm, hvv, fun fu f => ?_, fun fu f => ?_⟩
  · unfold f_X10_isFoot
    simp only [gz_jn, q1.g, hvv fu, vm_nf fu hm, pu_inx, Option.bind_some, pu_z0, pu_z1, pu_ii]
    by_cases c : 0 ≤ f ∧ f ≤ nI (pv_nf V) - 1 <;> simp [c]
  · unfold f_X10_isLast
    simp only [gz_jn, q1.g, hvv fu, vm_nl fu hm, pu_inx, Option.bind_some, pu_z0, pu_z1, pu_ii]
    by_cases c : 0 ≤ f ∧ f ≤ nI (pv_nl V) - 1 <;> simp [c]
theorem pn_1_99 (fu : Nat) (M : gz_M) (p : Int32) : f_X10_in fu M p.toInt64 (1 : Int64) (99 : Int64) = some (if 1 ≤ p ∧ p ≤ 99 then 1 else 0) := pu_in fu M p 1 99
theorem pn_0_9 (fu : Nat) (M : gz_M) (p : Int32) : f_X10_in fu M p.toInt64 (0 : Int64) (9 : Int64) = some (if 0 ≤ p ∧ p ≤ 9 then 1 else 0) := pu_in fu M p 0 9
theorem pn_0_99 (fu : Nat) (M : gz_M) (p : Int32) : f_X10_in fu M p.toInt64 (0 : Int64) (99 : Int64) = some (if 0 ≤ p ∧ p ≤ 99 then 1 else 0) := pu_in fu M p 0 99
/-- the change of a foot's part, on both sides -/
theorem ch_F {b k : Nat} {V : pv_V} {M : gz_M} (fu : Nat) (hI : pi_I b M) (hv : vb b k V M) {f m x : Nat} (hf : f < pv_nf V) (hm : m < 5) (hx : (m < 3 → x ≤ 30) ∧ (m = 3 → 1 ≤ x ∧ x ≤ 99) ∧ (m = 4 → x ≤ 9)) : ∃ M1 M2, pf_f (pc_C b k) M M1 ∧ f_X7_putFootPart fu M (b + 13 + 5 * k) (nI f) (nI m) (nI x) = some M1 ∧ gz_tI M1 (b + 110 + 26 + k) (nI (5 * f + m)) (nI x) = some M2 ∧ pi_I b M2 := by
  have o1 := hv.ok.1
  have hk := hv.2.2.1
  have hc := hv.c
  have w1 : pf_f (pc_C b k) M (gz_sI M (b + 13 + 5 * k + 1) (5 * f + m) (nI x)) := pf_f.one (by unfold pc_C; omega)
  obtain ⟨q1, q2, q3⟩ := hv.cm w1
  refine ⟨_, _, w1, vl_pf fu hc.l (by omega) (nI x), pu_tI (nI x) (vl_f q3).2.2 (by omega) (by omega), ?_⟩
  refine hI.val hv (w1.trans (pf_f.one (P := pc_M b k) (by unfold pc_M; omega)) (fun c q => Or.inl q) (fun c q => Or.inr q)) (pv_uF_ok (f := f) hv.ok hm hx) ?_ (pvm_F (by omega) q2)
  exact pf_mc hk (pf_f.one (by unfold pc_M; omega)) (pvc_F hv.2.2.2.2.1)
theorem ch_L {b k : Nat} {V : pv_V} {M : gz_M} (fu : Nat) (hI : pi_I b M) (hv : vb b k V M) {l m x : Nat} (hl : l < pv_nl V) (hm : m < 4) (hx : (m < 3 → x ≤ 40) ∧ (m = 3 → x ≤ 99)) : ∃ M1 M2, pf_f (pc_C b k) M M1 ∧ f_X7_putLastPart fu M (b + 13 + 5 * k) (nI l) (nI m) (nI x) = some M1 ∧ gz_tI M1 (b + 110 + 32 + k) (nI (4 * l + m)) (nI x) = some M2 ∧ pi_I b M2 := by
  have o1 := hv.ok.2.1
  have hk := hv.2.2.1
  have hc := hv.c
  have w1 : pf_f (pc_C b k) M (gz_sI M (b + 13 + 5 * k + 2) (4 * l + m) (nI x)) := pf_f.one (by unfold pc_C; omega)
  obtain ⟨q1, q2, q3⟩ := hv.cm w1
  refine ⟨_, _, w1, vl_pl fu hc.l (by omega) (nI x), pu_tI (nI x) (vl_l q3).2.2 (by omega) (by omega), ?_⟩
  refine hI.val hv (w1.trans (pf_f.one (P := pc_M b k) (by unfold pc_M; omega)) (fun c q => Or.inl q) (fun c q => Or.inr q)) (pv_uL_ok (l := l) hv.ok hm hx) ?_ (pvm_L (by omega) q2)
  exact pf_mc hk (pf_f.one (by unfold pc_M; omega)) (pvc_L hv.2.2.2.2.1)
theorem op_alter (b : Nat) {fu : Nat} (hfu : 5000 ≤ fu) : gz_op_alter (pi_I b) fu b (b + 110) := by
  intro M v f w n hI
  rcases pg_val hI v with ⟨k, V, rfl, hv⟩ | hz
  · have hok := hv.ok
    have o1 := hok.1
    have o2 := hok.2.1
    have op2 : 2 ^ pv_nl V ≤ 2 ^ 10 := Nat.pow_le_pow_right (by omega) o2
    by_cases hc : (0 ≤ f ∧ f ≤ nI (pv_nf V) - 1) ∧ (0 ≤ w ∧ w ≤ 1)
    · obtain ⟨c1, c2⟩ := hc
      obtain ⟨f, hf, rfl⟩ := (pn_lt (by omega)).mp c1
      obtain ⟨w, hw, rfl⟩ := pu_num (n := 1) (by decide) c2
      have hws : w = 0 ∨ w = 1 := by omega
      rcases hws with rfl | rfl
      · by_cases c3 : 1 ≤ n ∧ n ≤ 99
        · obtain ⟨x, hx, rfl⟩ := pu_num (n := 99) (by decide) ⟨Int32.le_trans (by decide) c3.1, c3.2⟩
          have hx1 : 1 ≤ x := (nI_leI (a := 1) (by decide) (by omega)).mp c3.1
          obtain ⟨M1, M2, w1, e1, e2, e3⟩ := ch_F fu hI hv (f := f) (m := 3) (x := x) hf (by omega) ⟨fun q => by omega, fun q => by omega, fun q => by omega⟩
          obtain ⟨g1, g2, g3, g4, g5⟩ := hv.cm2 (V' := V) w1
          have ea : f_X7_putFootPart fu M (b + 13 + 5 * k) (nI f) (3 : Int32) (nI x) = some M1 := e1
          have eb : f_X7_footPart fu M (b + 13 + 5 * k) (nI f) (3 : Int32) = some (nI (pv_F V (5 * f + 3))) := vc_fp fu hv.c hf (m := 3) (by omega)
          have ec : f_X10_of fu M1 (b + 110) (nI k) (nI f) ((3 : Int32) + nI 0) = some (nI (pv_F V (5 * f + 3))) := by rw [show (3 : Int32) + nI 0 = nI 3 from nI_add 3 0]; exact vm_fp fu g2 hf (m := 3) (by omega)
          have ed : (5 : Int32) * nI f + 3 + nI 0 = nI (5 * f + 3) := by rw [show (5 : Int32) = nI 5 from rfl, show (3 : Int32) = nI 3 from rfl, pk_mul, nI_add, nI_add]
          refine ⟨nI (pv_F V (5 * f + 3)), M1, M2, ?_, ?_, e3⟩
          · simp only [f_X9_alter, gz_jn, hv.gC, hv.vC fu, hv.fC fu, hv.lC fu, hv.sC fu, pu_within, pu_shelf, pu_count, Option.bind_some, pu_ii, pu_10, if_true, gz_b2, if_pos c1, if_pos c2, if_pos c3, hv.p1, hv.p2, hv.p3, show (nI 0 = 0) = True from eq_true rfl, eb, ea]
          · unfold f_X10_alter gz_jn
            dsimp only
            simp only [g1.g, g4, pn_0_1, Option.bind_some, pu_ii, pu_10, if_true, if_pos c1, if_pos c2, ec, (vl_f g2.l).1, (vl_f g2.l).2.1, ed]
            rw [if_pos (show nI 0 = (0 : Int32) from rfl), if_pos (show nI 0 = (0 : Int32) from rfl), pn_1_99, Option.bind_some, pu_ii, if_pos c3, e2]
            rfl
        · obtain ⟨M1, M2, r1, r2, r3, hw⟩ := pu_rfw fu hI 0 (by decide) (-2) pu_k2
          refine ⟨-2, M1, M2, ?_, ?_, r3⟩
          · simp only [f_X9_alter, gz_jn, hv.gC, hv.vC fu, hv.fC fu, hv.lC fu, hv.sC fu, pu_within, pu_shelf, pu_count, Option.bind_some, pu_ii, pu_10, if_true, gz_b2, r1, if_pos c1, if_pos c2, if_neg c3, show (nI 0 = 0) = True from eq_true rfl]
          · have hv' := hv.same hw
            unfold f_X10_alter gz_jn
            dsimp only
            simp only [hv'.gM, hv'.fM fu, pn_0_1, Option.bind_some, pu_ii, pu_10, if_true, gz_b2, r2, if_pos c1, if_pos c2]
            rw [if_pos (show nI 0 = (0 : Int32) from rfl), if_pos (show nI 0 = (0 : Int32) from rfl), pn_1_99, Option.bind_some, pu_ii, if_neg c3]
      · by_cases c3 : 0 ≤ n ∧ n ≤ 9
        · obtain ⟨x, hx, rfl⟩ := pu_num (n := 9) (by decide) ⟨Int32.le_trans (by decide) c3.1, c3.2⟩
          have hx1 : 0 ≤ x := (nI_leI (a := 0) (by decide) (by omega)).mp c3.1
          obtain ⟨M1, M2, w1, e1, e2, e3⟩ := ch_F fu hI hv (f := f) (m := 4) (x := x) hf (by omega) ⟨fun q => by omega, fun q => by omega, fun q => by omega⟩
          obtain ⟨g1, g2, g3, g4, g5⟩ := hv.cm2 (V' := V) w1
          have ea : f_X7_putFootPart fu M (b + 13 + 5 * k) (nI f) (4 : Int32) (nI x) = some M1 := e1
          have eb : f_X7_footPart fu M (b + 13 + 5 * k) (nI f) (4 : Int32) = some (nI (pv_F V (5 * f + 4))) := vc_fp fu hv.c hf (m := 4) (by omega)
          have ec : f_X10_of fu M1 (b + 110) (nI k) (nI f) ((3 : Int32) + nI 1) = some (nI (pv_F V (5 * f + 4))) := by rw [show (3 : Int32) + nI 1 = nI 4 from nI_add 3 1]; exact vm_fp fu g2 hf (m := 4) (by omega)
          have ed : (5 : Int32) * nI f + 3 + nI 1 = nI (5 * f + 4) := by rw [show (5 : Int32) = nI 5 from rfl, show (3 : Int32) = nI 3 from rfl, pk_mul, nI_add, nI_add]
          refine ⟨nI (pv_F V (5 * f + 4)), M1, M2, ?_, ?_, e3⟩
          · simp only [f_X9_alter, gz_jn, hv.gC, hv.vC fu, hv.fC fu, hv.lC fu, hv.sC fu, pu_within, pu_shelf, pu_count, Option.bind_some, pu_ii, pu_10, if_true, gz_b2, if_pos c1, if_pos c2, if_pos c3, hv.p1, hv.p2, hv.p3, show (nI 1 = 0) = False from eq_false (by decide), if_false, eb, ea]
          · unfold f_X10_alter gz_jn
            dsimp only
            simp only [g1.g, g4, pn_0_1, Option.bind_some, pu_ii, pu_10, if_true, if_pos c1, if_pos c2, ec, (vl_f g2.l).1, (vl_f g2.l).2.1, ed]
            rw [if_neg (show ¬ nI 1 = (0 : Int32) by decide), if_neg (show ¬ nI 1 = (0 : Int32) by decide), pn_0_9, Option.bind_some, pu_ii, if_pos c3, e2]
            rfl
        · obtain ⟨M1, M2, r1, r2, r3, hw⟩ := pu_rfw fu hI 0 (by decide) (-2) pu_k2
          refine ⟨-2, M1, M2, ?_, ?_, r3⟩
          · simp only [f_X9_alter, gz_jn, hv.gC, hv.vC fu, hv.fC fu, hv.lC fu, hv.sC fu, pu_within, pu_shelf, pu_count, Option.bind_some, pu_ii, pu_10, if_true, gz_b2, r1, if_pos c1, if_pos c2, if_neg c3, show (nI 1 = 0) = False from eq_false (by decide), if_false]
          · have hv' := hv.same hw
            unfold f_X10_alter gz_jn
            dsimp only
            simp only [hv'.gM, hv'.fM fu, pn_0_1, Option.bind_some, pu_ii, pu_10, if_true, gz_b2, r2, if_pos c1, if_pos c2]
            rw [if_neg (show ¬ nI 1 = (0 : Int32) by decide), if_neg (show ¬ nI 1 = (0 : Int32) by decide), pn_0_9, Option.bind_some, pu_ii, if_neg c3]
    · obtain ⟨M1, M2, r1, r2, r3, hw⟩ := pu_rfw fu hI 0 (by decide) (-2) pu_k2
      refine ⟨-2, M1, M2, ?_, ?_, r3⟩
      · simp only [f_X9_alter, gz_jn, hv.gC, hv.vC fu, hv.fC fu, hv.lC fu, hv.sC fu, pu_within, pu_shelf, pu_count, Option.bind_some, pu_ii, pu_10, if_true, gz_b2, r1, pu_n2 hc]
      · have hv' := hv.same hw
        simp only [f_X10_alter, gz_jn, hv'.gM, hv'.vM fu, hv'.fM fu, hv'.lM fu, hv'.sM fu, hv'.nM fu, pn_0_1, pn_0_2, pn_0_3, pn_0_4, pn_0_5, pn_0_7, pn_0_10, pn_0_40, pn_1_4, pn_1_6, pn_1_9, Option.bind_some, pu_ii, pu_10, if_true, gz_b2, r2, pu_n2 hc]
  · obtain ⟨M1, M2, r1, r2, r3, hw⟩ := pu_rfw fu hI 0 (by decide) (-2) pu_k2
    refine ⟨-2, M1, M2, ?_, ?_, r3⟩
    · simp only [f_X9_alter, gz_jn, hz.gC, hz.vC fu, hz.fC fu, hz.lC fu, hz.sC fu, pu_within, pu_shelf, pu_count, Option.bind_some, pu_ii, pu_10, if_true, gz_b2, r1]
    · have hv' := hz.same hw
      simp only [f_X10_alter, gz_jn, hv'.gM, hv'.vM fu, hv'.fM fu, hv'.lM fu, hv'.sM fu, hv'.nM fu, pn_0_1, pn_0_2, pn_0_3, pn_0_4, pn_0_5, pn_0_7, pn_0_10, pn_0_40, pn_1_4, pn_1_6, pn_1_9, Option.bind_some, pu_ii, pu_10, if_true, gz_b2, r2]
theorem op_carve (b : Nat) {fu : Nat} (hfu : 5000 ≤ fu) : gz_op_carve (pi_I b) fu b (b + 110) := by
  intro M v f w n hI
  rcases pg_val hI v with ⟨k, V, rfl, hv⟩ | hz
  · have hok := hv.ok
    have o1 := hok.1
    have o2 := hok.2.1
    have op2 : 2 ^ pv_nl V ≤ 2 ^ 10 := Nat.pow_le_pow_right (by omega) o2
    by_cases hc : (0 ≤ f ∧ f ≤ nI (pv_nl V) - 1) ∧ (0 ≤ w ∧ w ≤ 3)
    · obtain ⟨c1, c2⟩ := hc
      obtain ⟨f, hf, rfl⟩ := (pn_lt (by omega)).mp c1
      obtain ⟨w, hw, rfl⟩ := pu_num (n := 3) (by decide) c2
      have hws : w = 0 ∨ w = 1 ∨ w = 2 ∨ w = 3 := by omega
      rcases hws with rfl | rfl | rfl | rfl
      · by_cases c3 : 0 ≤ n ∧ n ≤ 40
        · obtain ⟨x, hx, rfl⟩ := pu_num (n := 40) (by decide) c3
          obtain ⟨M1, M2, w1, e1, e2, e3⟩ := ch_L fu hI hv (l := f) (m := 0) (x := x) hf (by omega) ⟨fun q => by omega, fun q => by omega⟩
          obtain ⟨g1, g2, g3, g4, g5⟩ := hv.cm2 (V' := V) w1
          have ed : (4 : Int32) * nI f + nI 0 = nI (4 * f + 0) := by rw [show (4 : Int32) = nI 4 from rfl, pk_mul, nI_add]
          refine ⟨nI (pv_L V (4 * f + 0)), M1, M2, ?_, ?_, e3⟩
          · simp only [f_X9_carve, gz_jn, hv.gC, hv.vC fu, hv.fC fu, hv.lC fu, hv.sC fu, pu_within, pu_shelf, pu_count, Option.bind_some, pu_ii, pu_10, if_true, gz_b2, if_pos c1, if_pos c2, if_pos c3, hv.p1, hv.p2, hv.p3, show (nI 0 = 3) = False from eq_false (by decide), if_false, vc_lp fu hv.c hf (show 0 < 4 by omega), e1]
          · simp only [f_X10_carve, gz_jn, g1.g, g5, pn_0_3, pn_0_99, pn_0_40, Option.bind_some, pu_ii, pu_10, if_true, if_pos c1, if_pos c2, if_pos c3, show (nI 0 = 3) = False from eq_false (by decide), if_false, vm_lp fu g2 hf (show 0 < 4 by omega), (vl_l g2.l).1, (vl_l g2.l).2.1, ed, e2]
        · obtain ⟨M1, M2, r1, r2, r3, hw⟩ := pu_rfw fu hI 0 (by decide) (-2) pu_k2
          refine ⟨-2, M1, M2, ?_, ?_, r3⟩
          · simp only [f_X9_carve, gz_jn, hv.gC, hv.vC fu, hv.fC fu, hv.lC fu, hv.sC fu, pu_within, pu_shelf, pu_count, Option.bind_some, pu_ii, pu_10, if_true, gz_b2, r1, if_pos c1, if_pos c2, if_neg c3, pn_0_99, show (nI 0 = 3) = False from eq_false (by decide), if_false]
          · have hv' := hv.same hw
            simp only [f_X10_carve, gz_jn, hv'.gM, hv'.vM fu, hv'.fM fu, hv'.lM fu, hv'.sM fu, hv'.nM fu, pn_0_1, pn_0_2, pn_0_3, pn_0_4, pn_0_5, pn_0_7, pn_0_10, pn_0_40, pn_1_4, pn_1_6, pn_1_9, Option.bind_some, pu_ii, pu_10, if_true, gz_b2, r2, if_pos c1, if_pos c2, if_neg c3, pn_0_99, show (nI 0 = 3) = False from eq_false (by decide), if_false]
      · by_cases c3 : 0 ≤ n ∧ n ≤ 40
        · obtain ⟨x, hx, rfl⟩ := pu_num (n := 40) (by decide) c3
          obtain ⟨M1, M2, w1, e1, e2, e3⟩ := ch_L fu hI hv (l := f) (m := 1) (x := x) hf (by omega) ⟨fun q => by omega, fun q => by omega⟩
          obtain ⟨g1, g2, g3, g4, g5⟩ := hv.cm2 (V' := V) w1
          have ed : (4 : Int32) * nI f + nI 1 = nI (4 * f + 1) := by rw [show (4 : Int32) = nI 4 from rfl, pk_mul, nI_add]
          refine ⟨nI (pv_L V (4 * f + 1)), M1, M2, ?_, ?_, e3⟩
          · simp only [f_X9_carve, gz_jn, hv.gC, hv.vC fu, hv.fC fu, hv.lC fu, hv.sC fu, pu_within, pu_shelf, pu_count, Option.bind_some, pu_ii, pu_10, if_true, gz_b2, if_pos c1, if_pos c2, if_pos c3, hv.p1, hv.p2, hv.p3, show (nI 1 = 3) = False from eq_false (by decide), if_false, vc_lp fu hv.c hf (show 1 < 4 by omega), e1]
          · simp only [f_X10_carve, gz_jn, g1.g, g5, pn_0_3, pn_0_99, pn_0_40, Option.bind_some, pu_ii, pu_10, if_true, if_pos c1, if_pos c2, if_pos c3, show (nI 1 = 3) = False from eq_false (by decide), if_false, vm_lp fu g2 hf (show 1 < 4 by omega), (vl_l g2.l).1, (vl_l g2.l).2.1, ed, e2]
        · obtain ⟨M1, M2, r1, r2, r3, hw⟩ := pu_rfw fu hI 0 (by decide) (-2) pu_k2
          refine ⟨-2, M1, M2, ?_, ?_, r3⟩
          · simp only [f_X9_carve, gz_jn, hv.gC, hv.vC fu, hv.fC fu, hv.lC fu, hv.sC fu, pu_within, pu_shelf, pu_count, Option.bind_some, pu_ii, pu_10, if_true, gz_b2, r1, if_pos c1, if_pos c2, if_neg c3, pn_0_99, show (nI 1 = 3) = False from eq_false (by decide), if_false]
          · have hv' := hv.same hw
            simp only [f_X10_carve, gz_jn, hv'.gM, hv'.vM fu, hv'.fM fu, hv'.lM fu, hv'.sM fu, hv'.nM fu, pn_0_1, pn_0_2, pn_0_3, pn_0_4, pn_0_5, pn_0_7, pn_0_10, pn_0_40, pn_1_4, pn_1_6, pn_1_9, Option.bind_some, pu_ii, pu_10, if_true, gz_b2, r2, if_pos c1, if_pos c2, if_neg c3, pn_0_99, show (nI 1 = 3) = False from eq_false (by decide), if_false]
      · by_cases c3 : 0 ≤ n ∧ n ≤ 40
        · obtain ⟨x, hx, rfl⟩ := pu_num (n := 40) (by decide) c3
          obtain ⟨M1, M2, w1, e1, e2, e3⟩ := ch_L fu hI hv (l := f) (m := 2) (x := x) hf (by omega) ⟨fun q => by omega, fun q => by omega⟩
          obtain ⟨g1, g2, g3, g4, g5⟩ := hv.cm2 (V' := V) w1
          have ed : (4 : Int32) * nI f + nI 2 = nI (4 * f + 2) := by rw [show (4 : Int32) = nI 4 from rfl, pk_mul, nI_add]
          refine ⟨nI (pv_L V (4 * f + 2)), M1, M2, ?_, ?_, e3⟩
          · simp only [f_X9_carve, gz_jn, hv.gC, hv.vC fu, hv.fC fu, hv.lC fu, hv.sC fu, pu_within, pu_shelf, pu_count, Option.bind_some, pu_ii, pu_10, if_true, gz_b2, if_pos c1, if_pos c2, if_pos c3, hv.p1, hv.p2, hv.p3, show (nI 2 = 3) = False from eq_false (by decide), if_false, vc_lp fu hv.c hf (show 2 < 4 by omega), e1]
          · simp only [f_X10_carve, gz_jn, g1.g, g5, pn_0_3, pn_0_99, pn_0_40, Option.bind_some, pu_ii, pu_10, if_true, if_pos c1, if_pos c2, if_pos c3, show (nI 2 = 3) = False from eq_false (by decide), if_false, vm_lp fu g2 hf (show 2 < 4 by omega), (vl_l g2.l).1, (vl_l g2.l).2.1, ed, e2]
        · obtain ⟨M1, M2, r1, r2, r3, hw⟩ := pu_rfw fu hI 0 (by decide) (-2) pu_k2
          refine ⟨-2, M1, M2, ?_, ?_, r3⟩
          · simp only [f_X9_carve, gz_jn, hv.gC, hv.vC fu, hv.fC fu, hv.lC fu, hv.sC fu, pu_within, pu_shelf, pu_count, Option.bind_some, pu_ii, pu_10, if_true, gz_b2, r1, if_pos c1, if_pos c2, if_neg c3, pn_0_99, show (nI 2 = 3) = False from eq_false (by decide), if_false]
          · have hv' := hv.same hw
            simp only [f_X10_carve, gz_jn, hv'.gM, hv'.vM fu, hv'.fM fu, hv'.lM fu, hv'.sM fu, hv'.nM fu, pn_0_1, pn_0_2, pn_0_3, pn_0_4, pn_0_5, pn_0_7, pn_0_10, pn_0_40, pn_1_4, pn_1_6, pn_1_9, Option.bind_some, pu_ii, pu_10, if_true, gz_b2, r2, if_pos c1, if_pos c2, if_neg c3, pn_0_99, show (nI 2 = 3) = False from eq_false (by decide), if_false]
      · by_cases c3 : 0 ≤ n ∧ n ≤ 99
        · obtain ⟨x, hx, rfl⟩ := pu_num (n := 99) (by decide) c3
          obtain ⟨M1, M2, w1, e1, e2, e3⟩ := ch_L fu hI hv (l := f) (m := 3) (x := x) hf (by omega) ⟨fun q => by omega, fun q => by omega⟩
          obtain ⟨g1, g2, g3, g4, g5⟩ := hv.cm2 (V' := V) w1
          have ed : (4 : Int32) * nI f + nI 3 = nI (4 * f + 3) := by rw [show (4 : Int32) = nI 4 from rfl, pk_mul, nI_add]
          refine ⟨nI (pv_L V (4 * f + 3)), M1, M2, ?_, ?_, e3⟩
          · simp only [f_X9_carve, gz_jn, hv.gC, hv.vC fu, hv.fC fu, hv.lC fu, hv.sC fu, pu_within, pu_shelf, pu_count, Option.bind_some, pu_ii, pu_10, if_true, gz_b2, if_pos c1, if_pos c2, if_pos c3, hv.p1, hv.p2, hv.p3, show (nI 3 = 3) = True from eq_true rfl, vc_lp fu hv.c hf (show 3 < 4 by omega), e1]
          · simp only [f_X10_carve, gz_jn, g1.g, g5, pn_0_3, pn_0_99, pn_0_40, Option.bind_some, pu_ii, pu_10, if_true, if_pos c1, if_pos c2, if_pos c3, show (nI 3 = 3) = True from eq_true rfl, vm_lp fu g2 hf (show 3 < 4 by omega), (vl_l g2.l).1, (vl_l g2.l).2.1, ed, e2]
        · obtain ⟨M1, M2, r1, r2, r3, hw⟩ := pu_rfw fu hI 0 (by decide) (-2) pu_k2
          refine ⟨-2, M1, M2, ?_, ?_, r3⟩
          · simp only [f_X9_carve, gz_jn, hv.gC, hv.vC fu, hv.fC fu, hv.lC fu, hv.sC fu, pu_within, pu_shelf, pu_count, Option.bind_some, pu_ii, pu_10, if_true, gz_b2, r1, if_pos c1, if_pos c2, if_neg c3, pn_0_99, show (nI 3 = 3) = True from eq_true rfl]
          · have hv' := hv.same hw
            simp only [f_X10_carve, gz_jn, hv'.gM, hv'.vM fu, hv'.fM fu, hv'.lM fu, hv'.sM fu, hv'.nM fu, pn_0_1, pn_0_2, pn_0_3, pn_0_4, pn_0_5, pn_0_7, pn_0_10, pn_0_40, pn_1_4, pn_1_6, pn_1_9, Option.bind_some, pu_ii, pu_10, if_true, gz_b2, r2, if_pos c1, if_pos c2, if_neg c3, pn_0_99, show (nI 3 = 3) = True from eq_true rfl]
    · obtain ⟨M1, M2, r1, r2, r3, hw⟩ := pu_rfw fu hI 0 (by decide) (-2) pu_k2
      refine ⟨-2, M1, M2, ?_, ?_, r3⟩
      · simp only [f_X9_carve, gz_jn, hv.gC, hv.vC fu, hv.fC fu, hv.lC fu, hv.sC fu, pu_within, pu_shelf, pu_count, Option.bind_some, pu_ii, pu_10, if_true, gz_b2, r1, pu_n2 hc]
      · have hv' := hv.same hw
        simp only [f_X10_carve, gz_jn, hv'.gM, hv'.vM fu, hv'.fM fu, hv'.lM fu, hv'.sM fu, hv'.nM fu, pn_0_1, pn_0_2, pn_0_3, pn_0_4, pn_0_5, pn_0_7, pn_0_10, pn_0_40, pn_1_4, pn_1_6, pn_1_9, Option.bind_some, pu_ii, pu_10, if_true, gz_b2, r2, pu_n2 hc]
  · obtain ⟨M1, M2, r1, r2, r3, hw⟩ := pu_rfw fu hI 0 (by decide) (-2) pu_k2
    refine ⟨-2, M1, M2, ?_, ?_, r3⟩
    · simp only [f_X9_carve, gz_jn, hz.gC, hz.vC fu, hz.fC fu, hz.lC fu, hz.sC fu, pu_within, pu_shelf, pu_count, Option.bind_some, pu_ii, pu_10, if_true, gz_b2, r1]
    · have hv' := hz.same hw
      simp only [f_X10_carve, gz_jn, hv'.gM, hv'.vM fu, hv'.fM fu, hv'.lM fu, hv'.sM fu, hv'.nM fu, pn_0_1, pn_0_2, pn_0_3, pn_0_4, pn_0_5, pn_0_7, pn_0_10, pn_0_40, pn_1_4, pn_1_6, pn_1_9, Option.bind_some, pu_ii, pu_10, if_true, gz_b2, r2]
