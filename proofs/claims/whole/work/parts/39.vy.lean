/-! what is untouched by refusals and by the scratch rows -/
def pf_w (b : Nat) (M M' : gz_M) : Prop := M'.1 = M.1 ∧ M'.2.1 = M.2.1 ∧ M'.2.2.2.1 = M.2.2.2.1 ∧ M'.2.2.2.2 = M.2.2.2.2 ∧ ∀ c, ¬ (b + 61 ≤ c ∧ c < b + 94 ∧ c ≠ b + 90) → ¬ (b + 147 ≤ c ∧ c < b + 153) → M'.2.2.1 c = M.2.2.1 c
theorem pf_w.refl {b : Nat} {M : gz_M} : pf_w b M M := ⟨rfl, rfl, rfl, rfl, fun _ _ _ => rfl⟩
theorem pf_w.trans {b : Nat} {M M' M'' : gz_M} (h : pf_w b M M') (h' : pf_w b M' M'') : pf_w b M M'' := ⟨h'.1.trans h.1, h'.2.1.trans h.2.1, h'.2.2.1.trans h.2.2.1, h'.2.2.2.1.trans h.2.2.2.1, fun c q1 q2 => (h'.2.2.2.2 c q1 q2).trans (h.2.2.2.2 c q1 q2)⟩
/-- the scratch rows only -/
theorem pi_I.scratch {b : Nat} {M M' : gz_M} (h : pi_I b M) (hw : pf_w b M M') (h61 : M'.2.2.1 (b + 61) = M.2.2.1 (b + 61)) : pi_I b M' := by
  obtain ⟨h1, h2, h3, h4, h5, h6, h7, h8⟩ := h
  obtain ⟨w1, w2, w3, w4, w5⟩ := hw
  exact ⟨h1.same w2 w4, h2.same w2 w4, by omega, h4.same h61 (w5 _ (by omega) (by omega)) (w5 _ (by omega) (by omega)), h5.same (w5 _ (by omega) (by omega)) (w5 _ (by omega) (by omega)) (by rw [w5 _ (by omega) (by omega)]) (w5 _ (by omega) (by omega)), h6.same (fun c q => ⟨w5 _ (by omega) (by omega), by rw [w3]⟩), h7.same (fun c q1 q2 => w5 _ (by omega) (by omega)) (fun k q => by rw [w5 _ (by omega) (by omega)]) (fun c q1 q2 => w5 _ (by omega) (by omega)), h8.same (by omega) w2 w4 (by rw [w5 _ (by omega) (by omega)]) (fun c q => w5 _ (by omega) (by omega))⟩
/-! a valley of the class at a -/
def vy_c (a : Nat) (V : pv_V) (M : gz_M) : Prop := (M.2.1 a = (8, 0) ∧ M.2.1 (a + 1) = (20, 60) ∧ M.2.1 (a + 2) = (20, 40) ∧ M.2.1 (a + 3) = (20, 3) ∧ M.2.1 (a + 4) = (20, 3) ∧ M.2.2.2.2 a 0 = some (a + 1) ∧ M.2.2.2.2 a 1 = some (a + 2) ∧ M.2.2.2.2 a 2 = some (a + 3) ∧ M.2.2.2.2 a 3 = some (a + 4)) ∧ pv_ok V ∧ pv_c a V M
/-- the valley k of the reference at mo -/
def vy_m (mo k : Nat) (V : pv_V) (M : gz_M) : Prop := (M.2.1 mo = (11, 0) ∧ M.2.1 (mo + 19) = (24, 5) ∧ M.2.1 (mo + 25) = (24, 5) ∧ M.2.1 (mo + 31) = (24, 5) ∧ M.2.1 (mo + 20 + k) = (20, 10) ∧ M.2.1 (mo + 26 + k) = (20, 60) ∧ M.2.1 (mo + 32 + k) = (20, 40) ∧ M.2.2.2.2 mo 12 = some (mo + 19) ∧ M.2.2.2.2 mo 13 = some (mo + 25) ∧ M.2.2.2.2 mo 14 = some (mo + 31) ∧ M.2.2.2.2 (mo + 19) k = some (mo + 20 + k) ∧ M.2.2.2.2 (mo + 25) k = some (mo + 26 + k) ∧ M.2.2.2.2 (mo + 31) k = some (mo + 32 + k)) ∧ k < 5 ∧ pv_ok V ∧ pv_m mo k V M
theorem ly_dv1 : ∀ k, k < 4 → (6, k, 13 + 5 * k) ∈ iv_RC ∧ (13 + 5 * k, 0, 14 + 5 * k) ∈ iv_RC ∧ (13 + 5 * k, 1, 15 + 5 * k) ∈ iv_RC := by decide
theorem ly_dv2 : ∀ k, k < 4 → (13 + 5 * k, 2, 16 + 5 * k) ∈ iv_RC ∧ (13 + 5 * k, 3, 17 + 5 * k) ∈ iv_RC := by decide
theorem ly_dv3 : ∀ k, k < 4 → iv_KC[13 + 5 * k]? = some (8, 0) ∧ iv_KC[14 + 5 * k]? = some (20, 60) ∧ iv_KC[15 + 5 * k]? = some (20, 40) := by decide
theorem ly_dv4 : ∀ k, k < 4 → iv_KC[16 + 5 * k]? = some (20, 3) ∧ iv_KC[17 + 5 * k]? = some (20, 3) := by decide
theorem ly_dm1 : ∀ k, k < 5 → (19, k, 20 + k) ∈ iv_RM ∧ (25, k, 26 + k) ∈ iv_RM ∧ (31, k, 32 + k) ∈ iv_RM := by decide
theorem ly_dm2 : ∀ k, k < 5 → iv_KM[20 + k]? = some (20, 10) ∧ iv_KM[26 + k]? = some (20, 60) ∧ iv_KM[32 + k]? = some (20, 40) := by decide
theorem vy_mk {b k : Nat} {V : pv_V} {M : gz_M} (h : iv_L b M) (hk : k < 4) (ho : pv_ok V) (hc : pv_c (b + 13 + 5 * k) V M) : vy_c (b + 13 + 5 * k) V M := by
  obtain ⟨h1, h2, h3⟩ := ly_dv1 k hk
  obtain ⟨h4, h5⟩ := ly_dv2 k hk
  obtain ⟨h6, h7, h8⟩ := ly_dv3 k hk
  obtain ⟨h9, h10⟩ := ly_dv4 k hk
  have q1 := h.1 _ _ h6
  have q2 := h.1 _ _ h7
  have q3 := h.1 _ _ h8
  have q4 := h.1 _ _ h9
  have q5 := h.1 _ _ h10
  have r1 := h.2 _ _ _ h2
  have r2 := h.2 _ _ _ h3
  have r3 := h.2 _ _ _ h4
  have r4 := h.2 _ _ _ h5
  have e0 : b + (13 + 5 * k) = b + 13 + 5 * k := by omega
  have e1 : b + (14 + 5 * k) = b + 13 + 5 * k + 1 := by omega
  have e2 : b + (15 + 5 * k) = b + 13 + 5 * k + 2 := by omega
  have e3 : b + (16 + 5 * k) = b + 13 + 5 * k + 3 := by omega
  have e4 : b + (17 + 5 * k) = b + 13 + 5 * k + 4 := by omega
  rw [e0] at q1 r1 r2 r3 r4
  rw [e1] at q2 r1
  rw [e2] at q3 r2
  rw [e3] at q4 r3
  rw [e4] at q5 r4
  exact ⟨⟨q1, q2, q3, q4, q5, r1, r2, r3, r4⟩, ho, hc⟩
theorem vy_snap {b : Nat} {V : pv_V} {M : gz_M} (h : iv_L b M) (ho : pv_ok V) (hc : pv_c (b + 8) V M) : vy_c (b + 8) V M := ⟨⟨h.1 8 _ rfl, h.1 9 _ rfl, h.1 10 _ rfl, h.1 11 _ rfl, h.1 12 _ rfl, h.2 8 0 9 (by decide), h.2 8 1 10 (by decide), h.2 8 2 11 (by decide), h.2 8 3 12 (by decide)⟩, ho, hc⟩
theorem vy_mm {mo k : Nat} {V : pv_V} {M : gz_M} (h : iv_O mo M) (hk : k < 5) (ho : pv_ok V) (hc : pv_m mo k V M) : vy_m mo k V M := by
  obtain ⟨h1, h2, h3⟩ := ly_dm1 k hk
  obtain ⟨h4, h5, h6⟩ := ly_dm2 k hk
  have e : ∀ n, mo + (n + k) = mo + n + k := fun n => by omega
  have q1 := h.1 _ _ h4
  have q2 := h.1 _ _ h5
  have q3 := h.1 _ _ h6
  have r1 := h.2 _ _ _ h1
  have r2 := h.2 _ _ _ h2
  have r3 := h.2 _ _ _ h3
  rw [e] at q1 q2 q3 r1 r2 r3
  exact ⟨⟨h.1 0 _ rfl, h.1 19 _ rfl, h.1 25 _ rfl, h.1 31 _ rfl, q1, q2, q3, h.2 0 12 19 (by decide), h.2 0 13 25 (by decide), h.2 0 14 31 (by decide), r1, r2, r3⟩, hk, ho, hc⟩
/-! reads of a valley -/
section VC
variable {a : Nat} {V : pv_V} {M : gz_M}
theorem vc_gd {α : Type} {o : Option α} (h : vy_c a V M) : gz_gd M 7 a o = o := pu_gd (ci := 7) h.1.1
theorem vc_nf (h : vy_c a V M) : gz_gI M 7 4 a = some (nI (pv_nf V)) := by rw [pu_gI (ci := 7) 4 h.1.1, h.2.2.1]
theorem vc_nl (h : vy_c a V M) : gz_gI M 7 5 a = some (nI (pv_nl V)) := by rw [pu_gI (ci := 7) 5 h.1.1, h.2.2.2.1]
theorem vc_out (h : vy_c a V M) : gz_gI M 7 6 a = some (nI (pv_out V)) := by rw [pu_gI (ci := 7) 6 h.1.1, h.2.2.2.2.1]
theorem vc_gr (h : vy_c a V M) : gz_gI M 7 7 a = some (nI (pv_gr V)) := by rw [pu_gI (ci := 7) 7 h.1.1, h.2.2.2.2.2.1]
theorem vc_r2 (h : vy_c a V M) : gz_gR M 7 2 a = some (a + 3) := pu_gR (ci := 7) h.1.1 h.1.2.2.2.2.2.2.2.1
theorem vc_r3 (h : vy_c a V M) : gz_gR M 7 3 a = some (a + 4) := pu_gR (ci := 7) h.1.1 h.1.2.2.2.2.2.2.2.2
theorem vc_wa (h : vy_c a V M) {m : Nat} (hm : m < 3) : gz_aI M (a + 3) (nI m) = some (nI (pv_wa V m)) := by rw [pu_aI h.1.2.2.2.1 hm (by omega), h.2.2.2.2.2.2.1 m hm]
theorem vc_ov (h : vy_c a V M) {m : Nat} (hm : m < 3) : gz_aI M (a + 4) (nI m) = some (nI (pv_ov V m)) := by rw [pu_aI h.1.2.2.2.2.1 hm (by omega), h.2.2.2.2.2.2.2.1 m hm]
theorem vc_ok (h : vy_c a V M) : pv_ok V := h.2.1
theorem vc_fp (fu : Nat) (h : vy_c a V M) {f m : Nat} (hf : f < pv_nf V) (hm : m < 5) : f_X7_footPart fu M a (nI f) (nI m) = some (nI (pv_F V (5 * f + m))) := by
  have h12 := h.2.1.1
  have e : nI f * (5 : Int32) + nI m = nI (5 * f + m) := by rw [show (5 : Int32) = nI 5 from rfl, pk_mul, nI_add, Nat.mul_comm]
  unfold f_X7_footPart
  rw [vc_gd h, pu_gR (ci := 7) h.1.1 h.1.2.2.2.2.2.1, e, Option.bind_some, pu_aI h.1.2.1 (by omega) (by omega), h.2.2.2.2.2.2.2.2.1 _ (by omega)]
  rfl
theorem vc_lp (fu : Nat) (h : vy_c a V M) {l m : Nat} (hl : l < pv_nl V) (hm : m < 4) : f_X7_lastPart fu M a (nI l) (nI m) = some (nI (pv_L V (4 * l + m))) := by
  have h12 := h.2.1.2.1
  have e : nI l * (4 : Int32) + nI m = nI (4 * l + m) := by rw [show (4 : Int32) = nI 4 from rfl, pk_mul, nI_add, Nat.mul_comm]
  unfold f_X7_lastPart
  rw [vc_gd h, pu_gR (ci := 7) h.1.1 h.1.2.2.2.2.2.2.1, e, Option.bind_some, pu_aI h.1.2.2.1 (by omega) (by omega), h.2.2.2.2.2.2.2.2.2 _ (by omega)]
  rfl
end VC
section VM
variable {mo k : Nat} {V : pv_V} {M : gz_M}
theorem vm_gd {α : Type} {o : Option α} (h : vy_m mo k V M) : gz_gd M 10 mo o = o := pu_gd (ci := 10) h.1.1
theorem vm_ok (h : vy_m mo k V M) : pv_ok V := h.2.2.1
theorem vm_r12 (h : vy_m mo k V M) : gz_gR M 10 12 mo = some (mo + 19) := pu_gR (ci := 10) h.1.1 h.1.2.2.2.2.2.2.2.1
theorem vm_r13 (h : vy_m mo k V M) : gz_gR M 10 13 mo = some (mo + 25) := pu_gR (ci := 10) h.1.1 h.1.2.2.2.2.2.2.2.2.1
theorem vm_r14 (h : vy_m mo k V M) : gz_gR M 10 14 mo = some (mo + 31) := pu_gR (ci := 10) h.1.1 h.1.2.2.2.2.2.2.2.2.2.1
theorem vm_v (h : vy_m mo k V M) : gz_aR M (mo + 19) (nI k) = some (mo + 20 + k) := pu_aR h.1.2.1 (by decide) h.2.1 (by decide) h.1.2.2.2.2.2.2.2.2.2.2.1
theorem vm_f (h : vy_m mo k V M) : gz_aR M (mo + 25) (nI k) = some (mo + 26 + k) := pu_aR h.1.2.2.1 (by decide) h.2.1 (by decide) h.1.2.2.2.2.2.2.2.2.2.2.2.1
theorem vm_l (h : vy_m mo k V M) : gz_aR M (mo + 31) (nI k) = some (mo + 32 + k) := pu_aR h.1.2.2.2.1 (by decide) h.2.1 (by decide) h.1.2.2.2.2.2.2.2.2.2.2.2.2
theorem vm_kv (h : vy_m mo k V M) : M.2.1 (mo + 20 + k) = (20, 10) := h.1.2.2.2.2.1
theorem vm_a (h : vy_m mo k V M) {j : Nat} (hj : j < 10) : gz_aI M (mo + 20 + k) (nI j) = some (M.2.2.1 (mo + 20 + k) j) := pu_aI (vm_kv h) hj (by decide)
theorem vm_out (h : vy_m mo k V M) : gz_aI M (mo + 20 + k) (2 : Int32) = some (nI (pv_out V)) := (vm_a h (j := 2) (by omega)).trans (by rw [h.2.2.2.2.2.1])
theorem vm_gr (h : vy_m mo k V M) : gz_aI M (mo + 20 + k) (3 : Int32) = some (nI (pv_gr V)) := (vm_a h (j := 3) (by omega)).trans (by rw [h.2.2.2.2.2.2.1])
theorem vm_wa (h : vy_m mo k V M) {m : Nat} (hm : m < 3) : gz_aI M (mo + 20 + k) ((4 : Int32) + nI m) = some (nI (pv_wa V m)) := by
  rw [show (4 : Int32) = nI 4 from rfl, nI_add, vm_a h (by omega), h.2.2.2.2.2.2.2.1 m hm]
theorem vm_ov (h : vy_m mo k V M) {m : Nat} (hm : m < 3) : gz_aI M (mo + 20 + k) ((7 : Int32) + nI m) = some (nI (pv_ov V m)) := by
  rw [show (7 : Int32) = nI 7 from rfl, nI_add, vm_a h (by omega), h.2.2.2.2.2.2.2.2.1 m hm]
theorem vm_nf (fu : Nat) (h : vy_m mo k V M) : f_X10_feetOf fu M mo (nI k) = some (nI (pv_nf V)) := by
  unfold f_X10_feetOf
  rw [vm_gd h, vm_r12 h, Option.bind_some, vm_v h, Option.bind_some, show (0 : Int32) = nI 0 from rfl, vm_a h (by omega), h.2.2.2.1]
  rfl
theorem vm_nl (fu : Nat) (h : vy_m mo k V M) : f_X10_lastsOf fu M mo (nI k) = some (nI (pv_nl V)) := by
  unfold f_X10_lastsOf
  rw [vm_gd h, vm_r12 h, Option.bind_some, vm_v h, Option.bind_some, show (1 : Int32) = nI 1 from rfl, vm_a h (by omega), h.2.2.2.2.1]
  rfl
theorem vm_fp (fu : Nat) (h : vy_m mo k V M) {f m : Nat} (hf : f < pv_nf V) (hm : m < 5) : f_X10_of fu M mo (nI k) (nI f) (nI m) = some (nI (pv_F V (5 * f + m))) := by
  have h12 := h.2.2.1.1
  have e : (5 : Int32) * nI f + nI m = nI (5 * f + m) := by rw [show (5 : Int32) = nI 5 from rfl, pk_mul, nI_add]
  unfold f_X10_of
  rw [vm_gd h, vm_r13 h, Option.bind_some, vm_f h, Option.bind_some, e, pu_aI h.1.2.2.2.2.2.1 (by omega) (by omega), h.2.2.2.2.2.2.2.2.2.1 _ (by omega)]
  rfl
theorem vm_lp (fu : Nat) (h : vy_m mo k V M) {l m : Nat} (hl : l < pv_nl V) (hm : m < 4) : f_X10_lastIs fu M mo (nI k) (nI l) (nI m) = some (nI (pv_L V (4 * l + m))) := by
  have h12 := h.2.2.1.2.1
  have e : (4 : Int32) * nI l + nI m = nI (4 * l + m) := by rw [show (4 : Int32) = nI 4 from rfl, pk_mul, nI_add]
  unfold f_X10_lastIs
  rw [vm_gd h, vm_r14 h, Option.bind_some, vm_l h, Option.bind_some, e, pu_aI h.1.2.2.2.2.2.2.1 (by omega) (by omega), h.2.2.2.2.2.2.2.2.2.2 _ (by omega)]
  rfl
theorem vm_all (fu : Nat) (h : vy_m mo k V M) : f_X10_all fu M mo (nI k) = some (nI (2 ^ pv_nl V) - 1) := by
  have h12 := h.2.2.1.2.1
  unfold f_X10_all
  rw [vm_gd h, vm_nl fu h, Option.bind_some, pn_shl (by omega)]
end VM
theorem vc_all {a : Nat} {V : pv_V} {M : gz_M} (fu : Nat) (h : vy_c a V M) : f_X7_allLasts fu M a = some (nI (2 ^ pv_nl V) - 1) := by
  have h12 := h.2.1.2.1
  unfold f_X7_allLasts
  rw [vc_gd h, vc_nl h, Option.bind_some, pn_shl (by omega)]
/-! badness -/
def pc_o : Option Nat → Int32
  | none => -1
  | some n => nI n
theorem pc_some (n : Nat) : pc_o (some n) = nI n := rfl
theorem pc_none : pc_o none = -1 := rfl
def sp_sh (V : pv_V) (m own give s : Nat) : Option Nat := if s + give < own ∨ own + pv_ov V m < s then none else some (pv_wa V m * (s - own))
def sp_bb (V : pv_V) (l b h fl fb fh g : Nat) : Option Nat := (sp_sh V 0 fl g l).bind fun x => (sp_sh V 1 fb g b).bind fun y => (sp_sh V 2 fh g h).bind fun z => some (x + y + z)
/-- the last l of W for the foot f of V -/
def sp_bad (V W : pv_V) (l f : Nat) : Option Nat := sp_bb V (pv_L W (4 * l)) (pv_L W (4 * l + 1)) (pv_L W (4 * l + 2)) (pv_F V (5 * f)) (pv_F V (5 * f + 1)) (pv_F V (5 * f + 2)) (pv_F V (5 * f + 4))
theorem sp_sh_le {V : pv_V} {m o g s x : Nat} (hV : pv_ok V) (hm : m < 3) (h : sp_sh V m o g s = some x) : x ≤ 270 := by
  unfold sp_sh at h
  obtain ⟨q1, q2⟩ := hV.2.2.2.2.1 m hm
  split at h
  · cases h
  · rename_i hn
    cases h
    have : s - o ≤ 30 := by omega
    calc pv_wa V m * (s - o) ≤ 9 * 30 := Nat.mul_le_mul q1 this
    _ = 270 := rfl
theorem sp_bb_le {V : pv_V} {l b h fl fb fh g x : Nat} (hV : pv_ok V) (hx : sp_bb V l b h fl fb fh g = some x) : x ≤ 810 := by
  unfold sp_bb at hx
  cases e0 : sp_sh V 0 fl g l with
  | none => rw [e0] at hx; cases hx
  | some x0 =>
    cases e1 : sp_sh V 1 fb g b with
    | none => rw [e0, e1] at hx; cases hx
    | some x1 =>
      cases e2 : sp_sh V 2 fh g h with
      | none => rw [e0, e1, e2] at hx; cases hx
      | some x2 =>
        rw [e0, e1, e2] at hx
        cases hx
        have := sp_sh_le hV (by omega) e0
        have := sp_sh_le hV (by omega) e1
        have := sp_sh_le hV (by omega) e2
        omega
theorem vc_sh {a : Nat} {V : pv_V} {M : gz_M} (fu : Nat) (h : vy_c a V M) {f m g s : Nat} (hf : f < pv_nf V) (hm : m < 3) (hg : g < 2 ^ 20) (hs : s < 2 ^ 20) : f_X7_share fu M a (nI f) (nI m) (nI g) (nI s) = some (pc_o (sp_sh V m (pv_F V (5 * f + m) + g) (pv_F V (5 * f + 4)) s)) := by
  obtain ⟨o1, o2, o3, o4, o5, o6, o7⟩ := vc_ok h
  obtain ⟨f1, f2, f3, f4⟩ := o6 f hf
  have f1 := f1 m hm
  have o5 := o5 m hm
  have e4 : f_X7_footPart fu M a (nI f) (4 : Int32) = some (nI (pv_F V (5 * f + 4))) := vc_fp fu h hf (m := 4) (by omega)
  unfold f_X7_share
  simp only [gz_jn]
  rw [vc_gd h, vc_fp fu h hf (by omega), Option.bind_some, e4, Option.bind_some, nI_add]
  unfold sp_sh
  by_cases c1 : s + pv_F V (5 * f + 4) < pv_F V (5 * f + m) + g
  · rw [if_pos ((pn_ltsub (by omega) (by omega) (by omega)).mpr c1), if_pos (Or.inl c1)]
    rfl
  · rw [if_neg (fun q => c1 ((pn_ltsub (by omega) (by omega) (by omega)).mp q)), vc_r3 h, Option.bind_some, vc_ov h hm, Option.bind_some, nI_add]
    by_cases c2 : pv_F V (5 * f + m) + g + pv_ov V m < s
    · rw [if_neg (nI_ge c2 (by omega)), if_pos (Or.inr c2)]
      rfl
    · have c4 : ¬ (s + pv_F V (5 * f + 4) < pv_F V (5 * f + m) + g ∨ pv_F V (5 * f + m) + g + pv_ov V m < s) := by omega
      rw [if_pos (nI_le (by omega) (by omega)), if_neg c4]
      by_cases c3 : s ≤ pv_F V (5 * f + m) + g
      · rw [if_pos (nI_le c3 (by omega)), Nat.sub_eq_zero_of_le c3, Nat.mul_zero]
        rfl
      · rw [if_neg (nI_ge (by omega) (by omega)), vc_r2 h, Option.bind_some, vc_wa h hm, Option.bind_some, pk_sub (by omega), pk_mul]
        rfl
theorem pc_neg {o : Option Nat} (h : ∀ x, o = some x → x < 2 ^ 31) : pc_o o = -1 ↔ o = none := by
  cases o with
  | none => simp [pc_o]
  | some x => simp [pc_o, pn_neg (h x rfl)]
theorem vc_bad {a a' : Nat} {V W : pv_V} {M : gz_M} (fu : Nat) (h : vy_c a V M) (h' : vy_c a' W M) {l t f gl gb : Nat} (hf : f < pv_nf V) (hl : l < pv_nl W) (ht : t < 2 ^ 10) (hgl : gl < 2 ^ 20) (hgb : gb < 2 ^ 20) : f_X7_badness fu M a a' (nI l) (nI t) (nI f) (nI gl) (nI gb) = some (pc_o (sp_bb V (pv_L W (4 * l) + t) (pv_L W (4 * l + 1) + t) (pv_L W (4 * l + 2) + t) (pv_F V (5 * f) + gl) (pv_F V (5 * f + 1) + gb) (pv_F V (5 * f + 2)) (pv_F V (5 * f + 4)))) := by
  obtain ⟨o1, o2, o3, o4, o5, o6, o7⟩ := vc_ok h'
  obtain ⟨l1, l2⟩ := o7 l hl
  have m0 := l1 0 (by omega)
  have m1 := l1 1 (by omega)
  have m2 := l1 2 (by omega)
  rw [Nat.add_zero] at m0
  have e0 : f_X7_lastPart fu M a' (nI l) (0 : Int32) = some (nI (pv_L W (4 * l))) := vc_lp fu h' hl (m := 0) (by omega)
  have e1 : f_X7_lastPart fu M a' (nI l) (1 : Int32) = some (nI (pv_L W (4 * l + 1))) := vc_lp fu h' hl (m := 1) (by omega)
  have e2 : f_X7_lastPart fu M a' (nI l) (2 : Int32) = some (nI (pv_L W (4 * l + 2))) := vc_lp fu h' hl (m := 2) (by omega)
  have s0 : f_X7_share fu M a (nI f) (0 : Int32) (nI gl) (nI (pv_L W (4 * l) + t)) = _ := vc_sh fu h hf (m := 0) (g := gl) (s := pv_L W (4 * l) + t) (by omega) hgl (by omega)
  have s1 : f_X7_share fu M a (nI f) (1 : Int32) (nI gb) (nI (pv_L W (4 * l + 1) + t)) = _ := vc_sh fu h hf (m := 1) (g := gb) (s := pv_L W (4 * l + 1) + t) (by omega) hgb (by omega)
  have s2 : f_X7_share fu M a (nI f) (2 : Int32) (0 : Int32) (nI (pv_L W (4 * l + 2) + t)) = _ := vc_sh fu h hf (m := 2) (g := 0) (s := pv_L W (4 * l + 2) + t) (by omega) (by omega) (by omega)
  simp only [Nat.add_zero] at s0 s2
  unfold f_X7_badness
  simp only [gz_jn]
  rw [vc_gd h, e0, Option.bind_some, nI_add, s0, Option.bind_some, e1, Option.bind_some, nI_add, s1, Option.bind_some, e2, Option.bind_some, nI_add, s2, Option.bind_some]
  unfold sp_bb
  have hV := vc_ok h
  cases q0 : sp_sh V 0 (pv_F V (5 * f) + gl) (pv_F V (5 * f + 4)) (pv_L W (4 * l) + t) with
  | none => rw [if_pos pc_none]; rfl
  | some x0 =>
    rw [pc_some, if_neg (pn_neg (n := x0) (by have := sp_sh_le hV (by omega) q0; omega))]
    cases q1 : sp_sh V 1 (pv_F V (5 * f + 1) + gb) (pv_F V (5 * f + 4)) (pv_L W (4 * l + 1) + t) with
    | none => rw [if_pos pc_none]; rfl
    | some x1 =>
      rw [pc_some, if_neg (pn_neg (n := x1) (by have := sp_sh_le hV (by omega) q1; omega))]
      cases q2 : sp_sh V 2 (pv_F V (5 * f + 2)) (pv_F V (5 * f + 4)) (pv_L W (4 * l + 2) + t) with
      | none => rw [if_pos pc_none]; rfl
      | some x2 =>
        rw [pc_some, if_neg (pn_neg (n := x2) (by have := sp_sh_le hV (by omega) q2; omega))]
        show some (nI x0 + nI x1 + nI x2) = _
        rw [nI_add, nI_add]
        rfl
theorem vc_bo {a a' : Nat} {V W : pv_V} {M : gz_M} (fu : Nat) (h : vy_c a V M) (h' : vy_c a' W M) {l f : Nat} (hf : f < pv_nf V) (hl : l < pv_nl W) : f_X7_badness fu M a a' (nI l) (0 : Int32) (nI f) (0 : Int32) (0 : Int32) = some (pc_o (sp_bad V W l f)) := vc_bad fu h h' (t := 0) (gl := 0) (gb := 0) hf hl (by omega) (by omega) (by omega)
theorem vc_bf {a : Nat} {V : pv_V} {M : gz_M} (fu : Nat) (h : vy_c a V M) {l f : Nat} (hf : f < pv_nf V) (hl : l < pv_nl V) : f_X7_badnessOf fu M a (nI l) (nI f) = some (pc_o (sp_bad V V l f)) := by
  unfold f_X7_badnessOf
  rw [vc_gd h, vc_bo fu h h hf hl, Option.bind_some]
theorem sp_bad_le {V W : pv_V} {l f x : Nat} (hV : pv_ok V) (h : sp_bad V W l f = some x) : x ≤ 810 := sp_bb_le hV h
