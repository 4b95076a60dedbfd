/-! feet -/
theorem pu_cmp_le (x y : Int64) : lg_cmp x y ≤ 0 ↔ x ≤ y := by rw [← Int32.not_lt, pu_cmp_gt, Int64.not_lt]
def ft_g (E : Nat → Int64) (i : Nat) : Prop := (0 ≤ E i ∧ E i ≤ 30) ∧ (0 ≤ E (i + 1) ∧ E (i + 1) ≤ 30) ∧ (0 ≤ E (i + 2) ∧ E (i + 2) ≤ 30) ∧ (1 ≤ E (i + 3) ∧ E (i + 3) ≤ 99)
def ft_s (V : pv_V) (z : Nat) (E : Nat → Int64) (i : Nat) : Prop := z < 4 * i + 4 ∨ 12 ≤ pv_nf V + i ∨ ¬ ft_g E (4 * i)
def lx (x : Int64) : Nat := x.toInt.toNat
def ft_V (V : pv_V) (E : Nat → Int64) : Nat → pv_V
  | 0 => V
  | i + 1 => pv_dF (ft_V V E i) (pt (lx (E (4 * i))) (lx (E (4 * i + 1))) (lx (E (4 * i + 2))) (lx (E (4 * i + 3))) 0)
theorem ft_nf (V : pv_V) (E : Nat → Int64) : ∀ i, pv_nf (ft_V V E i) = pv_nf V + i
  | 0 => rfl
  | i + 1 => by
    show pv_nf (ft_V V E i) + 1 = _
    rw [ft_nf V E i]
    rfl
theorem lx_i {x : Int64} {n : Nat} (hn : n < 2 ^ 20) (h0 : 0 ≤ x) (h1 : x ≤ lN n) : x.toInt32 = nI (lx x) ∧ lx x ≤ n := by
  obtain ⟨k, hk, rfl⟩ := pk_lOf (Int64.not_lt.mpr h0)
  have e : lx (lN k) = k := by
    unfold lx
    rw [pk_lT hk]
    simp
  rw [e, lN_i]
  exact ⟨rfl, (pk_lLE hk (by omega)).mp h1⟩
theorem lx_1 {x : Int64} (h1 : 1 ≤ x) : 1 ≤ lx x := by
  rw [fa_le64] at h1
  have e : (1 : Int64).toInt = 1 := by decide
  unfold lx
  omega
theorem le_0_1 {x : Int64} (h1 : 1 ≤ x) : 0 ≤ x := by
  rw [fa_le64] at h1 ⊢
  have e : (1 : Int64).toInt = 1 := by decide
  have e0 : (0 : Int64).toInt = 0 := by decide
  omega
theorem ft_x {E : Nat → Int64} {i : Nat} (h : ft_g E i) : ((E i).toInt32 = nI (lx (E i)) ∧ lx (E i) ≤ 30) ∧ ((E (i + 1)).toInt32 = nI (lx (E (i + 1))) ∧ lx (E (i + 1)) ≤ 30) ∧ ((E (i + 2)).toInt32 = nI (lx (E (i + 2))) ∧ lx (E (i + 2)) ≤ 30) ∧ (E (i + 3)).toInt32 = nI (lx (E (i + 3))) ∧ 1 ≤ lx (E (i + 3)) ∧ lx (E (i + 3)) ≤ 99 := by
  obtain ⟨g0, g1, g2, g3⟩ := h
  have q := lx_i (n := 99) (by omega) (le_0_1 g3.1) g3.2
  exact ⟨lx_i (n := 30) (by omega) g0.1 g0.2, lx_i (n := 30) (by omega) g1.1 g1.2, lx_i (n := 30) (by omega) g2.1 g2.2, q.1, lx_1 g3.1, q.2⟩
theorem ft_ok {V : pv_V} {z c : Nat} {E : Nat → Int64} (hV : pv_ok V) (hn : ∀ i, i < c → ¬ ft_s V z E i) : ∀ i, i ≤ c → pv_ok (ft_V V E i)
  | 0, _ => hV
  | i + 1, h => by
    have ih := ft_ok hV hn i (by omega)
    have hns := hn i (by omega)
    have z2 : pv_nf V + i < 12 := Nat.lt_of_not_le (fun q => hns (Or.inr (Or.inl q)))
    have z3 : ft_g E (4 * i) := Classical.byContradiction (fun q => hns (Or.inr (Or.inr q)))
    obtain ⟨x0, x1, x2, x3, x4, x5⟩ := ft_x z3
    refine pv_dF_ok ih (by rw [ft_nf]; exact z2) ⟨fun m hm => ?_, x4, x5, by show 0 ≤ 9; omega⟩
    have : m = 0 ∨ m = 1 ∨ m = 2 := by omega
    rcases this with rfl | rfl | rfl
    · exact x0.2
    · exact x1.2
    · exact x2.2
theorem vc_ha1 {n b s i m : Nat} {M : gz_M} (j : Option Int32) (h : sq b s M) (hi : i + 3 < 40) (hm : m < 3) : lp_X4_hasFootAt_2 j M (b + 94 + 2 * s) (nI i) (n + 1) (nI m) = if 0 ≤ M.2.2.2.1 (b + 95 + 2 * s) (i + m) ∧ M.2.2.2.1 (b + 95 + 2 * s) (i + m) ≤ 30 then lp_X4_hasFootAt_2 j M (b + 94 + 2 * s) (nI i) n (nI (m + 1)) else j := by
  rw [lp_X4_hasFootAt_2, if_neg (show ¬ (3 : Int32) ≤ nI m from pn_nle (n := 3) hm (by omega))]
  simp only [h.el, Option.bind_some, nI_add, pu_aL h.kl (show i + m < 40 by omega) (by decide), pu_cmp_lt, pu_cmp_le, pn_1]
  by_cases c1 : M.2.2.2.1 (b + 95 + 2 * s) (i + m) < 0
  · rw [if_pos c1, if_neg (fun q => absurd c1 (Int64.not_lt.mpr q.1))]
  · rw [if_neg c1]
    by_cases c2 : M.2.2.2.1 (b + 95 + 2 * s) (i + m) ≤ 30
    · rw [if_pos c2, if_pos ⟨Int64.not_lt.mp c1, c2⟩]
    · rw [if_neg c2, if_neg (fun q => c2 q.2)]
theorem vc_ha3 {n b s i : Nat} {M : gz_M} (j : Option Int32) (h : sq b s M) (hi : i + 3 < 40) : lp_X4_hasFootAt_2 j M (b + 94 + 2 * s) (nI i) (n + 1) (nI 3) = if 1 ≤ M.2.2.2.1 (b + 95 + 2 * s) (i + 3) ∧ M.2.2.2.1 (b + 95 + 2 * s) (i + 3) ≤ 99 then some 1 else some 0 := by
  have e3 : nI i + (3 : Int32) = nI (i + 3) := nI_add i 3
  rw [lp_X4_hasFootAt_2, if_pos (show (3 : Int32) ≤ nI 3 by decide)]
  simp only [gz_jn, h.el, Option.bind_some, e3, pu_aL h.kl (show i + 3 < 40 by omega) (by decide), pu_cmp_lt, pu_cmp_gt, pu_z0, pu_z1]
  by_cases c1 : M.2.2.2.1 (b + 95 + 2 * s) (i + 3) < 1
  · rw [if_pos c1, if_neg (fun q => absurd c1 (Int64.not_lt.mpr q.1))]
  · rw [if_neg c1]
    by_cases c2 : 99 < M.2.2.2.1 (b + 95 + 2 * s) (i + 3)
    · rw [if_pos c2, if_neg (fun q => absurd c2 (Int64.not_lt.mpr q.2))]
    · rw [if_neg c2, if_pos ⟨Int64.not_lt.mp c1, Int64.not_lt.mp c2⟩]
theorem vc_ha {fu : Nat} (hfu : 5000 ≤ fu) {b s i : Nat} {M : gz_M} (h : sq b s M) (hi : i + 3 < 40) : (ft_g (M.2.2.2.1 (b + 95 + 2 * s)) i → f_X4_hasFootAt fu M (b + 94 + 2 * s) (nI i) = some 1) ∧ (¬ ft_g (M.2.2.2.1 (b + 95 + 2 * s)) i → f_X4_hasFootAt fu M (b + 94 + 2 * s) (nI i) = some 0) := by
  obtain ⟨n, rfl⟩ : ∃ n, fu = n + 1 + 1 + 1 + 1 := ⟨fu - 4, by omega⟩
  generalize hE : M.2.2.2.1 (b + 95 + 2 * s) = E
  have e : f_X4_hasFootAt (n + 1 + 1 + 1 + 1) M (b + 94 + 2 * s) (nI i) = if 0 ≤ E i ∧ E i ≤ 30 then (if 0 ≤ E (i + 1) ∧ E (i + 1) ≤ 30 then (if 0 ≤ E (i + 2) ∧ E (i + 2) ≤ 30 then (if 1 ≤ E (i + 3) ∧ E (i + 3) ≤ 99 then some 1 else some 0) else some 0) else some 0) else some 0 := by
    unfold f_X4_hasFootAt
    rw [h.gd]
    refine (vc_ha1 _ h hi (m := 0) (by omega)).trans ?_
    rw [vc_ha1 _ h hi (m := 0 + 1) (by omega), vc_ha1 _ h hi (m := 0 + 1 + 1) (by omega), vc_ha3 _ h hi, hE]
    rfl
  refine ⟨fun hg => ?_, fun hg => ?_⟩
  · obtain ⟨g0, g1, g2, g3⟩ := hg
    rw [e, if_pos g0, if_pos g1, if_pos g2, if_pos g3]
  · unfold ft_g at hg
    rw [e]
    exact pu_n4 hg
theorem sR.fr {b s t n k : Nat} {M M' : gz_M} (h : sR b s t n M) (hk : k < 4) (w : pf_f (fun c => pc_C b k c ∨ pc_M b k c) M M') : sR b s t n M' := by
  have h0 := h.1.2.2.1
  unfold sR
  rw [w.2.2.2.2 (b + 94 + 2 * s) (by unfold pc_C pc_M; omega), w.2.2.2.2 (b + 111) (by unfold pc_C pc_M; omega), w.2.2.2.2 (b + 112) (by unfold pc_C pc_M; omega), w.2.2.2.2 (b + 113) (by unfold pc_C pc_M; omega)]
  obtain ⟨h1, h2, h3, h4⟩ := h.1
  exact ⟨⟨h1.same w.2.1 w.2.2.2.1, h2.same w.2.1 w.2.2.2.1, h3, fun j hj => by rw [w.2.2.1]; exact h4 j hj⟩, h.2⟩
theorem vl_nf (fu : Nat) {mo k n : Nat} {M : gz_M} (h : vl_m mo k M) (e : M.2.2.1 (mo + 20 + k) 0 = nI n) : f_X10_feetOf fu M mo (nI k) = some (nI n) := by
  unfold f_X10_feetOf
  rw [pu_gd (ci := 10) h.1.1, (vl_v h).1, Option.bind_some, (vl_v h).2.1, Option.bind_some, show (0 : Int32) = nI 0 from rfl, pu_aI (vl_v h).2.2 (by omega) (by decide), e]
  rfl
theorem vc_ft {b k s t z c : Nat} {V : pv_V} {M : gz_M} {fu : Nat} {E : Nat → Int64} (hfu : 5000 ≤ fu) (hv : vb b k V M) (hr : sR b s t z M) (hE : M.2.2.2.1 (b + 95 + 2 * s) = E) (hc : c ≤ 10) (hs : ft_s V z E c) (hn : ∀ i, i < c → ¬ ft_s V z E i) : ∃ M1, lp_X9_feet_62 (fun x29 M30 => some (x29, M30)) fu (b + 94 + 2 * s) (b + 13 + 5 * k) fu (0 : Int32) (0 : Int32) M = some (nI c, M1) ∧ pf_f (pc_C b k) M M1 ∧ pv_c (b + 13 + 5 * k) (ft_V V E c) M1 := by
  have hok := hv.ok
  have hk := hv.2.2.1
  have hz := hr.2.2.1
  have oks := ft_ok hok hn
  obtain ⟨q, ⟨e1, e2, e3⟩, h2⟩ := pl_up (σ := Int32 × gz_M) (fun fuel i q => lp_X9_feet_62 (fun x29 M30 => some (x29, M30)) fu (b + 94 + 2 * s) (b + 13 + 5 * k) fuel i q.1 q.2) (fun q => some (nI c, q.2)) (fun i q => q.1 = nI (4 * i) ∧ pf_f (pc_C b k) M q.2 ∧ pv_c (b + 13 + 5 * k) (ft_V V E i) q.2) c (fun fuel i q hi hp => by
    obtain ⟨x, N⟩ := q
    obtain ⟨rfl, w, hp⟩ := hp
    have hns := hn i hi
    have z1 : 4 * i + 4 ≤ z := Nat.le_of_not_lt (fun q => hns (Or.inl q))
    have z2 : pv_nf V + i < 12 := Nat.lt_of_not_le (fun q => hns (Or.inr (Or.inl q)))
    have z3 : ft_g E (4 * i) := Classical.byContradiction (fun q => hns (Or.inr (Or.inr q)))
    obtain ⟨⟨y0, x0⟩, ⟨y1, x1⟩, ⟨y2, x2⟩, y3, x4, x5⟩ := ft_x z3
    have nfi := ft_nf V E i
    have hl : vl_c (b + 13 + 5 * k) N := hv.c.l.same w.2.1 w.2.2.2.1
    have hy : vy_c (b + 13 + 5 * k) (ft_V V E i) N := hl.y (oks i (by omega)) hp
    have hr' : sR b s t z N := hr.fr hk (w.trans pf_f.refl (fun _ q => Or.inl q) (fun _ (q : False) => q.elim))
    have hE' : N.2.2.2.1 (b + 95 + 2 * s) = E := by rw [w.2.2.1]; exact hE
    have ha := (vc_ha hfu hr'.1 (i := 4 * i) (by omega)).1 (by rw [hE']; exact z3)
    obtain ⟨M24, a1, a2, a3, a4⟩ := vl_af fu hl hp (by rw [nfi]; exact z2) (lx (E (4 * i))) (lx (E (4 * i + 1))) (lx (E (4 * i + 2)))
    have hr24 : sR b s t z M24 := hr'.fr hk (a2.trans pf_f.refl (fun c q => Or.inl (by unfold pc_C; omega)) (fun _ (q : False) => q.elim))
    have hE24 : M24.2.2.2.1 (b + 95 + 2 * s) = E := by rw [a2.2.2.1]; exact hE'
    have l24 : vl_c (b + 13 + 5 * k) M24 := hl.same a2.2.1 a2.2.2.2.1
    have r0 : gz_aL N (b + 95 + 2 * s) (nI (4 * i)) = some (E (4 * i)) := by rw [hr'.eC (by omega), hE']
    have r1 : gz_aL N (b + 95 + 2 * s) (nI (4 * i) + 1) = some (E (4 * i + 1)) := by rw [pn_1, hr'.eC (by omega), hE']
    have r2 : gz_aL N (b + 95 + 2 * s) (nI (4 * i) + 2) = some (E (4 * i + 2)) := by rw [show (2 : Int32) = nI 2 from rfl, nI_add, hr'.eC (by omega), hE']
    have r3 : gz_aL M24 (b + 95 + 2 * s) (nI (4 * i) + 3) = some (E (4 * i + 3)) := by rw [show (3 : Int32) = nI 3 from rfl, nI_add, hr24.eC (by omega), hE24]
    have n24 : gz_gI M24 7 4 (b + 13 + 5 * k) = some (nI (pv_nf (ft_V V E i) + 1)) := by rw [pu_gI (ci := 7) 4 l24.1, a3.1]; rfl
    have pf := vl_pf fu l24 (f := pv_nf (ft_V V E i)) (m := 3) (by omega) (nI (lx (E (4 * i + 3))))
    have pf' : f_X7_putFootPart fu M24 (b + 13 + 5 * k) (nI (pv_nf (ft_V V E i))) (3 : Int32) (nI (lx (E (4 * i + 3)))) = _ := pf
    have e3 : nI (4 * i) + (3 : Int32) = nI (4 * i + 3) := nI_add (4 * i) 3
    have e4 : nI (4 * i) + (4 : Int32) = nI (4 * (i + 1)) := nI_add (4 * i) 4
    refine ⟨(nI (4 * (i + 1)), gz_sI M24 (b + 13 + 5 * k + 1) (5 * pv_nf (ft_V V E i) + 3) (nI (lx (E (4 * i + 3))))), ⟨rfl, ?_, ?_⟩, ?_⟩
    · exact (w.trans a2 (S := pc_C b k) (fun _ q => q) (fun c q => by unfold pc_C; omega)).two (by unfold pc_C; omega)
    · refine pvc_aF hp (fun c j => ?_)
      rw [pu_sI_at, a4 c j]
      by_cases q : c = b + 13 + 5 * k + 1 ∧ j = 5 * pv_nf (ft_V V E i) + 3
      · obtain ⟨rfl, rfl⟩ := q
        rw [if_pos ⟨rfl, rfl⟩, if_neg (by omega), if_pos (by omega), Nat.add_sub_cancel_left]; rfl
      · rw [if_neg q]
        by_cases q2 : c = b + 13 + 5 * k ∧ j = 4
        · rw [if_pos q2, if_pos q2]
        · rw [if_neg q2, if_neg q2]
          by_cases q3 : c = b + 13 + 5 * k + 1 ∧ 5 * pv_nf (ft_V V E i) ≤ j ∧ j < 5 * pv_nf (ft_V V E i) + 5
          · rw [if_pos q3, if_pos q3]
            have : j - 5 * pv_nf (ft_V V E i) = 0 ∨ j - 5 * pv_nf (ft_V V E i) = 1 ∨ j - 5 * pv_nf (ft_V V E i) = 2 ∨ j - 5 * pv_nf (ft_V V E i) = 4 := by omega
            rcases this with u | u | u | u <;> rw [u] <;> rfl
          · rw [if_neg q3, if_neg q3]
    · dsimp only
      rw [lp_X9_feet_62, hr'.sz, Option.bind_some, e3, if_neg (pn_nle (show 4 * i + 3 < z by omega) (by omega)), vc_nf hy, Option.bind_some, nfi, if_neg (show ¬ (12 : Int32) ≤ nI (pv_nf V + i) from pn_nle (n := 12) z2 (by omega)), ha, Option.bind_some, pu_10, hr'.1.el, Option.bind_some, r0, Option.bind_some, Option.bind_some, r1, Option.bind_some, Option.bind_some, r2, Option.bind_some, y0, y1, y2, a1, Option.bind_some, n24, Option.bind_some, hr24.1.el, Option.bind_some, ← e3, r3, Option.bind_some, y3, nI_pred, pf', Option.bind_some, pn_1, e4, nfi]) (fun fuel q hp => by
    obtain ⟨x, N⟩ := q
    obtain ⟨rfl, w, hp⟩ := hp
    have nfi := ft_nf V E c
    have hl : vl_c (b + 13 + 5 * k) N := hv.c.l.same w.2.1 w.2.2.2.1
    have hy : vy_c (b + 13 + 5 * k) (ft_V V E c) N := hl.y (oks c (Nat.le_refl _)) hp
    have hr' : sR b s t z N := hr.fr hk (w.trans pf_f.refl (fun _ q => Or.inl q) (fun _ (q : False) => q.elim))
    have hE' : N.2.2.2.1 (b + 95 + 2 * s) = E := by rw [w.2.2.1]; exact hE
    have e3 : nI (4 * c) + (3 : Int32) = nI (4 * c + 3) := nI_add (4 * c) 3
    dsimp only
    rw [lp_X9_feet_62, hr'.sz, Option.bind_some, e3]
    by_cases z1 : z < 4 * c + 4
    · rw [if_pos (pn_le (show z ≤ 4 * c + 3 by omega) (by omega))]
    · rw [if_neg (pn_nle (show 4 * c + 3 < z by omega) (by omega)), vc_nf hy, Option.bind_some, nfi]
      by_cases z2 : 12 ≤ pv_nf V + c
      · rw [if_pos (show (12 : Int32) ≤ nI (pv_nf V + c) from pn_le (n := 12) z2 (by have := hok.1; omega))]
      · have z3 : ¬ ft_g E (4 * c) := by
          rcases hs with q | q | q
          · exact absurd q z1
          · exact absurd q z2
          · exact q
        have ha := (vc_ha hfu hr'.1 (i := 4 * c) (by omega)).2 (by rw [hE']; exact z3)
        rw [if_neg (show ¬ (12 : Int32) ≤ nI (pv_nf V + c) from pn_nle (n := 12) (by omega) (by omega)), ha, Option.bind_some, if_pos rfl]) c 0 (0, M) fu (by omega) (by omega) ⟨rfl, pf_f.refl, hv.2.2.2.2.1⟩
  exact ⟨q.2, h2, e2, e3⟩
/-! feet: the reference -/
def ft_lo (m : Nat) : Int64 := if m = 3 then 1 else 0
def ft_hi (m : Nat) : Int64 := if m = 3 then 99 else 30
theorem vm_91 {fu n b s i m : Nat} {M : gz_M} {x11 : Int32} (j : Option (Int32 × gz_M)) (h : sq b s M) (hi : i + 3 < 40) (hm : m < 4) : lp_X10_feet_91 j fu M (b + 110) (nI s) x11 (nI i) (n + 1) (nI m) = if ft_lo m ≤ M.2.2.2.1 (b + 95 + 2 * s) (i + m) ∧ M.2.2.2.1 (b + 95 + 2 * s) (i + m) ≤ ft_hi m then lp_X10_feet_91 j fu M (b + 110) (nI s) x11 (nI i) n (nI (m + 1)) else some (x11, M) := by
  rw [lp_X10_feet_91, if_neg (show ¬ (4 : Int32) ≤ nI m from pn_nle (n := 4) hm (by omega))]
  simp only [gz_jn, h.m3, h.a3, Option.bind_some, nI_add, pu_aL h.k3 (show i + m < 40 by omega) (by decide), pu_in64, pu_ii, pn_1]
  rw [← h.2.2.2 (i + m) (by omega)]
  unfold ft_lo ft_hi
  by_cases c : m = 3
  · subst c
    rw [if_pos (show nI 3 = (3 : Int32) from rfl)]
    rfl
  · have c' : ¬ nI m = (3 : Int32) := fun q => c ((nI_eq (b := 3) (by omega) (by omega)).mp q)
    rw [if_neg c', if_neg c', if_neg c, if_neg c]
theorem vm_ck {fu : Nat} (hfu : 5000 ≤ fu) {b s i : Nat} {M : gz_M} {x11 : Int32} (j : Option (Int32 × gz_M)) (h : sq b s M) (hi : i + 3 < 40) : (ft_g (M.2.2.2.1 (b + 95 + 2 * s)) i → lp_X10_feet_91 j fu M (b + 110) (nI s) x11 (nI i) fu (0 : Int32) = j) ∧ (¬ ft_g (M.2.2.2.1 (b + 95 + 2 * s)) i → lp_X10_feet_91 j fu M (b + 110) (nI s) x11 (nI i) fu (0 : Int32) = some (x11, M)) := by
  obtain ⟨n, hn⟩ : ∃ n, fu = n + 1 + 1 + 1 + 1 + 1 := ⟨fu - 5, by omega⟩
  generalize hE : M.2.2.2.1 (b + 95 + 2 * s) = E
  have e : lp_X10_feet_91 j fu M (b + 110) (nI s) x11 (nI i) (n + 1 + 1 + 1 + 1 + 1) (0 : Int32) = if 0 ≤ E i ∧ E i ≤ 30 then (if 0 ≤ E (i + 1) ∧ E (i + 1) ≤ 30 then (if 0 ≤ E (i + 2) ∧ E (i + 2) ≤ 30 then (if 1 ≤ E (i + 3) ∧ E (i + 3) ≤ 99 then j else some (x11, M)) else some (x11, M)) else some (x11, M)) else some (x11, M) := by
    refine (vm_91 _ h hi (m := 0) (by omega)).trans ?_
    rw [vm_91 _ h hi (m := 0 + 1) (by omega), vm_91 _ h hi (m := 0 + 1 + 1) (by omega), vm_91 _ h hi (m := 0 + 1 + 1 + 1) (by omega), lp_X10_feet_91, if_pos (show (4 : Int32) ≤ nI (0 + 1 + 1 + 1 + 1) by decide), hE]
    rfl
  rw [← hn] at e
  refine ⟨fun hg => ?_, fun hg => ?_⟩
  · obtain ⟨g0, g1, g2, g3⟩ := hg
    rw [e, if_pos g0, if_pos g1, if_pos g2, if_pos g3]
  · unfold ft_g at hg
    rw [e]
    exact pu_n4 hg
theorem vm_ft {b k s t z c : Nat} {V : pv_V} {M : gz_M} {fu : Nat} {E : Nat → Int64} (hfu : 5000 ≤ fu) (hk : k < 4) (hy0 : vy_m (b + 110) k V M) (hr : sR b s t z M) (hE : M.2.2.2.1 (b + 95 + 2 * s) = E) (hc : c ≤ 10) (hs : ft_s V z E c) (hn : ∀ i, i < c → ¬ ft_s V z E i) : ∃ M1, lp_X10_feet_65 (fun x42 M43 => some (x42, M43)) fu (b + 110) (nI k) (nI s) fu (0 : Int32) (0 : Int32) M = some (nI c, M1) ∧ pf_f (pc_M b k) M M1 ∧ pv_m (b + 110) k (ft_V V E c) M1 := by
  have hok := vm_ok hy0
  have hz := hr.2.2.1
  have oks := ft_ok hok hn
  obtain ⟨q, ⟨e1, e2, e3⟩, h2⟩ := pl_up (σ := Int32 × gz_M) (fun fuel i q => lp_X10_feet_65 (fun x42 M43 => some (x42, M43)) fu (b + 110) (nI k) (nI s) fuel i q.1 q.2) (fun q => some (nI c, q.2)) (fun i q => q.1 = nI (4 * i) ∧ pf_f (pc_M b k) M q.2 ∧ pv_m (b + 110) k (ft_V V E i) q.2) c (fun fuel i q hi hp => by
    obtain ⟨x, N⟩ := q
    obtain ⟨rfl, w, hp⟩ := hp
    have hns := hn i hi
    have z1 : 4 * i + 4 ≤ z := Nat.le_of_not_lt (fun q => hns (Or.inl q))
    have z2 : pv_nf V + i < 12 := Nat.lt_of_not_le (fun q => hns (Or.inr (Or.inl q)))
    have z3 : ft_g E (4 * i) := Classical.byContradiction (fun q => hns (Or.inr (Or.inr q)))
    obtain ⟨⟨y0, x0⟩, ⟨y1, x1⟩, ⟨y2, x2⟩, y3, x4, x5⟩ := ft_x z3
    have nfi := ft_nf V E i
    have hl : vl_m (b + 110) k N := hy0.l.same w.2.1 w.2.2.2.1
    have hr' : sR b s t z N := hr.fr hk (w.trans pf_f.refl (fun _ q => Or.inr q) (fun _ (q : False) => q.elim))
    have hE' : N.2.2.2.1 (b + 95 + 2 * s) = E := by rw [w.2.2.1]; exact hE
    have e4 : nI (4 * i) + (4 : Int32) = nI (4 * (i + 1)) := nI_add (4 * i) 4
    have nfN : f_X10_feetOf fu N (b + 110) (nI k) = some (nI (pv_nf V + i)) := by
      have := vl_nf fu hl hp.1
      rw [nfi] at this
      exact this
    dsimp only
    rw [lp_X10_feet_65, hr'.1.m2, Option.bind_some, hr'.sn, Option.bind_some, e4, if_neg (nI_nlt (show 4 * (i + 1) ≤ z by omega) (by omega)), nfN, Option.bind_some, if_neg (show ¬ (12 : Int32) ≤ nI (pv_nf V + i) from pn_nle (n := 12) z2 (by omega)), (vm_ck hfu _ hr'.1 (i := 4 * i) (by omega)).1 (by rw [hE']; exact z3)]
    obtain ⟨M33, f1, f2⟩ := pl_up (σ := gz_M) (fun fuel' i' st => lp_X10_feet_152 (fun (M33 : gz_M) => (gz_gR M33 10 13 (b + 110)).bind fun x34 => (gz_aR M33 x34 (nI k)).bind fun x35 => (f_X10_feetOf fu M33 (b + 110) (nI k)).bind fun x36 => (gz_tI M33 x35 (((5 : Int32) * x36) + (4 : Int32)) (0 : Int32)).bind fun M37 => (gz_gR M37 10 12 (b + 110)).bind fun x38 => (gz_aR M37 x38 (nI k)).bind fun x39 => (gz_aI M37 x39 (0 : Int32)).bind fun x40 => (gz_tI M37 x39 (0 : Int32) (x40 + (1 : Int32))).bind fun M41 => lp_X10_feet_65 (fun x42 M43 => some (x42, M43)) fu (b + 110) (nI k) (nI s) fuel (nI i + (1 : Int32)) (nI (4 * (i + 1))) M41) fu (b + 110) (nI k) (nI s) (nI (4 * i)) fuel' i' st) _ (pIo (b + 110 + 26 + k) (5 * (pv_nf V + i)) (fun m => (E (4 * i + m)).toInt32) N) 4 (fun fuel' m st hm hq => ⟨gz_sI st (b + 110 + 26 + k) (5 * (pv_nf V + i) + m) (E (4 * i + m)).toInt32, hq.step, by
      have hl' : vl_m (b + 110) k st := hl.same hq.2.1 hq.2.2.2.1
      have hr2 : sR b s t z st := hr'.fr hk (hq.f (Or.inr (by unfold pc_M; omega)))
      have hE2 : st.2.2.2.1 (b + 95 + 2 * s) = E := by rw [hq.2.2.1]; exact hE'
      have nf2 : f_X10_feetOf fu st (b + 110) (nI k) = some (nI (pv_nf V + i)) := by
        refine vl_nf fu hl' ?_
        rw [hq.2.2.2.2.1 _ (by omega), ← nfi]
        exact hp.1
      have ei : (5 : Int32) * nI (pv_nf V + i) + nI m = nI (5 * (pv_nf V + i) + m) := by rw [show (5 : Int32) = nI 5 from rfl, pk_mul, nI_add]
      have r : gz_aL st (b + 115 + s) (nI (4 * i) + nI m) = some (E (4 * i + m)) := by rw [nI_add, hr2.eM (by omega), hE2]
      rw [lp_X10_feet_152, if_neg (show ¬ (4 : Int32) ≤ nI m from pn_nle (n := 4) hm (by omega)), (vl_f hl').1, Option.bind_some, (vl_f hl').2.1, Option.bind_some, nf2, Option.bind_some, hr2.1.m3, Option.bind_some, hr2.1.a3, Option.bind_some, r, Option.bind_some, ei, pu_tI _ (vl_f hl').2.2 (by omega) (by omega), Option.bind_some, pn_1 i, pn_1]⟩) (fun fuel' st hq => by
      rw [lp_X10_feet_152, if_pos (show (4 : Int32) ≤ nI 4 from pn_le (n := 4) (Nat.le_refl _) (by omega))]) 4 0 N fu (by omega) (by omega) pIo.zero
    have l33 : vl_m (b + 110) k M33 := hl.same f1.2.1 f1.2.2.2.1
    have nf33 : f_X10_feetOf fu M33 (b + 110) (nI k) = some (nI (pv_nf V + i)) := by
      refine vl_nf fu l33 ?_
      rw [f1.2.2.2.2.1 _ (by omega), ← nfi]
      exact hp.1
    have ei : (5 : Int32) * nI (pv_nf V + i) + 4 = nI (5 * (pv_nf V + i) + 4) := by rw [show (5 : Int32) = nI 5 from rfl, show (4 : Int32) = nI 4 from rfl, pk_mul, nI_add]
    have l37 : vl_m (b + 110) k (gz_sI M33 (b + 110 + 26 + k) (5 * (pv_nf V + i) + 4) 0) := l33.same rfl rfl
    have x40 : gz_aI (gz_sI M33 (b + 110 + 26 + k) (5 * (pv_nf V + i) + 4) 0) (b + 110 + 20 + k) (0 : Int32) = some (nI (pv_nf V + i)) := by
      refine (pu_aI (i := 0) (vl_v l37).2.2 (by omega) (by omega)).trans ?_
      rw [pu_sI_at, if_neg (by omega), f1.2.2.2.2.1 _ (by omega), ← nfi, hp.1]
    have x41 : gz_tI (gz_sI M33 (b + 110 + 26 + k) (5 * (pv_nf V + i) + 4) 0) (b + 110 + 20 + k) (0 : Int32) (nI (pv_nf V + i + 1)) = some (gz_sI (gz_sI M33 (b + 110 + 26 + k) (5 * (pv_nf V + i) + 4) 0) (b + 110 + 20 + k) 0 (nI (pv_nf V + i + 1))) := pu_tI (i := 0) _ (vl_v l37).2.2 (by omega) (by omega)
    refine ⟨(nI (4 * (i + 1)), gz_sI (gz_sI M33 (b + 110 + 26 + k) (5 * (pv_nf V + i) + 4) 0) (b + 110 + 20 + k) 0 (nI (pv_nf V + i + 1))), ⟨rfl, ?_, ?_⟩, ?_⟩
    · exact ((w.trans (f1.f (P := pc_M b k) (by unfold pc_M; omega)) (S := pc_M b k) (fun _ q => q) (fun _ q => q)).two (by unfold pc_M; omega)).two (by unfold pc_M; omega)
    · refine pvm_aF (by omega) hp (fun c j => ?_)
      rw [nfi, pu_sI_at]
      by_cases q : c = b + 110 + 20 + k ∧ j = 0
      · rw [if_pos q, if_pos q]
      · rw [if_neg q, if_neg q, pu_sI_at]
        by_cases q2 : c = b + 110 + 26 + k ∧ j = 5 * (pv_nf V + i) + 4
        · obtain ⟨rfl, rfl⟩ := q2
          rw [if_pos ⟨rfl, rfl⟩, if_pos (by omega), Nat.add_sub_cancel_left]; rfl
        · rw [if_neg q2]
          by_cases q3 : c = b + 110 + 26 + k
          · subst q3
            rw [f1.2.2.2.2.2 j]
            by_cases q4 : 5 * (pv_nf V + i) ≤ j ∧ j < 5 * (pv_nf V + i) + 4
            · rw [if_pos q4, if_pos ⟨rfl, by omega⟩]
              have : j - 5 * (pv_nf V + i) = 0 ∨ j - 5 * (pv_nf V + i) = 1 ∨ j - 5 * (pv_nf V + i) = 2 ∨ j - 5 * (pv_nf V + i) = 3 := by omega
              rcases this with u | u | u | u <;> rw [u]
              · exact y0
              · exact y1
              · exact y2
              · exact y3
            · rw [if_neg q4, if_neg (by omega)]
          · rw [if_neg (fun q => q3 q.1), f1.2.2.2.2.1 c q3]
    · refine f2.trans ?_
      rw [(vl_f l33).1, Option.bind_some, (vl_f l33).2.1, Option.bind_some, nf33, Option.bind_some, ei, pu_tI _ (vl_f l33).2.2 (by omega) (by omega), Option.bind_some, (vl_v l37).1, Option.bind_some, (vl_v l37).2.1, Option.bind_some, x40, Option.bind_some, pn_1, x41, Option.bind_some, pn_1]) (fun fuel q hp => by
    obtain ⟨x, N⟩ := q
    obtain ⟨rfl, w, hp⟩ := hp
    have nfi := ft_nf V E c
    have hl : vl_m (b + 110) k N := hy0.l.same w.2.1 w.2.2.2.1
    have hr' : sR b s t z N := hr.fr hk (w.trans pf_f.refl (fun _ q => Or.inr q) (fun _ (q : False) => q.elim))
    have hE' : N.2.2.2.1 (b + 95 + 2 * s) = E := by rw [w.2.2.1]; exact hE
    have e4 : nI (4 * c) + (4 : Int32) = nI (4 * c + 4) := nI_add (4 * c) 4
    have nfN : f_X10_feetOf fu N (b + 110) (nI k) = some (nI (pv_nf V + c)) := by
      have := vl_nf fu hl hp.1
      rw [nfi] at this
      exact this
    dsimp only
    rw [lp_X10_feet_65, hr'.1.m2, Option.bind_some, hr'.sn, Option.bind_some, e4]
    by_cases z1 : z < 4 * c + 4
    · rw [if_pos (nI_lt z1 (by omega))]
    · rw [if_neg (nI_nlt (show 4 * c + 4 ≤ z by omega) (by omega)), nfN, Option.bind_some]
      by_cases z2 : 12 ≤ pv_nf V + c
      · rw [if_pos (show (12 : Int32) ≤ nI (pv_nf V + c) from pn_le (n := 12) z2 (by have := hok.1; omega))]
      · have z3 : ¬ ft_g E (4 * c) := by
          rcases hs with q | q | q
          · exact absurd q z1
          · exact absurd q z2
          · exact q
        rw [if_neg (show ¬ (12 : Int32) ≤ nI (pv_nf V + c) from pn_nle (n := 12) (by omega) (by omega))]
        exact (vm_ck hfu _ hr'.1 (i := 4 * c) (by omega)).2 (by rw [hE']; exact z3)) c 0 (0, M) fu (by omega) (by omega) ⟨rfl, pf_f.refl, hy0.2.2.2⟩
  exact ⟨q.2, h2, e2, e3⟩
theorem op_feet (b : Nat) {fu : Nat} (hfu : 5000 ≤ fu) : gz_op_feet (pi_I b) fu b (b + 110) := by
  intro M v s hI
  rcases pg_val hI v with ⟨k, V, rfl, hv⟩ | hz
  · have hok := hv.ok
    have o1 := hok.1
    have o2 := hok.2.1
    have op2 : 2 ^ pv_nl V ≤ 2 ^ 10 := Nat.pow_le_pow_right (by omega) o2
    by_cases hc : (0 ≤ s ∧ s ≤ 7)
    · have c1 := hc
      have hk := hv.2.2.1
      obtain ⟨s, hs, rfl⟩ := pu_sh8 c1
      rcases pg_sh hI hs with hf | ⟨t, z, hr⟩ | ⟨t, l, a, ht⟩
      · obtain ⟨M1, M2, r1, r2, r3, hw⟩ := pu_rfw fu hI 2 (by decide) (-4) pu_k4
        have hv' := hv.same hw
        have hx' := hf.same hw
        refine ⟨-4, M1, M2, ?_, ?_, r3⟩
        · simp only [f_X9_feet, gz_jn, hv.gC, hv.vC fu, hv.fC fu, hv.lC fu, hv.sC fu, pu_within, pu_shelf, pu_count, Option.bind_some, pu_ii, pu_10, if_true, gz_b2, if_pos c1, hv.p1, hv.p2, hv.p3, hf.1.p1, hf.1.p2, hf.r fu, r1, n_02, n_12, n_01, n_20, n_21, n_30, n_40, n_50, if_false]
        · simp only [f_X10_feet, gz_jn, hv'.gM, hv'.vM fu, hv'.fM fu, hv'.lM fu, hv'.sM fu, hv'.nM fu, pn_0_1, pn_0_2, pn_0_3, pn_0_4, pn_0_5, pn_0_7, pn_0_10, pn_0_40, pn_1_4, pn_1_6, pn_1_9, Option.bind_some, pu_ii, pu_10, if_true, gz_b2, if_pos c1, hx'.1.m0, hx'.sh, hx'.1.m0, r2, n_02, n_12, n_01, n_20, n_21, n_30, n_40, n_50, if_false]
      · have hz := hr.2.2.1
        obtain ⟨c, q1, q2⟩ := pk_least (ft_s V z (M.2.2.2.1 (b + 95 + 2 * s))) ⟨10, Or.inl (by omega)⟩
        have hc : c ≤ 10 := Nat.le_of_not_lt (fun q => q2 10 q (Or.inl (by omega)))
        obtain ⟨M1, a1, w1, a3⟩ := vc_ft hfu hv hr rfl hc q1 q2
        obtain ⟨g1, g2, g3, g4, g5⟩ := hv.cm2 (V' := V) w1
        have hr1 : sR b s t z M1 := hr.fr hk (w1.trans pf_f.refl (fun _ q => Or.inl q) (fun _ (q : False) => q.elim))
        obtain ⟨M2, t1, w2, t3⟩ := vm_ft (b := b) (E := M.2.2.2.1 (b + 95 + 2 * s)) hfu hk g2 hr1 (by rw [w1.2.2.1]) hc q1 q2
        refine ⟨nI c, M1, M2, ?_, ?_, ?_⟩
        · simp only [f_X9_feet, gz_jn, hv.gC, hv.vC fu, hv.fC fu, hv.lC fu, hv.sC fu, pu_within, pu_shelf, pu_count, Option.bind_some, pu_ii, pu_10, if_true, gz_b2, if_pos c1, hv.p1, hv.p2, hv.p3, hr.1.p1, hr.1.p2, hr.r fu, a1]
        · simp only [f_X10_feet, gz_jn, g1.g, g3, pn_0_7, Option.bind_some, pu_ii, pu_10, if_pos c1, hr1.1.m0, hr1.sh, n_12, if_false, t1]
        · exact hI.val hv (w1.trans w2 (fun c q => Or.inl q) (fun c q => Or.inr q)) (ft_ok hok q2 c (Nat.le_refl _)) (pf_mc hk w2 a3) t3
      · obtain ⟨M1, M2, r1, r2, r3, hw⟩ := pu_rfw fu hI 1 (by decide) (-3) pu_k3
        have hv' := hv.same hw
        have hx' := ht.same hw
        refine ⟨-3, M1, M2, ?_, ?_, r3⟩
        · simp only [f_X9_feet, gz_jn, hv.gC, hv.vC fu, hv.fC fu, hv.lC fu, hv.sC fu, pu_within, pu_shelf, pu_count, Option.bind_some, pu_ii, pu_10, if_true, gz_b2, if_pos c1, hv.p1, hv.p2, hv.p3, ht.1.p1, ht.1.p2, ht.r fu, r1, n_02, n_12, n_01, n_20, n_21, n_30, n_40, n_50, if_false]
        · simp only [f_X10_feet, gz_jn, hv'.gM, hv'.vM fu, hv'.fM fu, hv'.lM fu, hv'.sM fu, hv'.nM fu, pn_0_1, pn_0_2, pn_0_3, pn_0_4, pn_0_5, pn_0_7, pn_0_10, pn_0_40, pn_1_4, pn_1_6, pn_1_9, Option.bind_some, pu_ii, pu_10, if_true, gz_b2, if_pos c1, hx'.1.m0, hx'.sh, hx'.1.m0, r2, n_02, n_12, n_01, n_20, n_21, n_30, n_40, n_50, if_false]
    · obtain ⟨M1, M2, r1, r2, r3, hw⟩ := pu_rfw fu hI 0 (by decide) (-2) pu_k2
      refine ⟨-2, M1, M2, ?_, ?_, r3⟩
      · simp only [f_X9_feet, gz_jn, hv.gC, hv.vC fu, hv.fC fu, hv.lC fu, hv.sC fu, pu_within, pu_shelf, pu_count, Option.bind_some, pu_ii, pu_10, if_true, gz_b2, r1, if_neg hc]
      · have hv' := hv.same hw
        simp only [f_X10_feet, gz_jn, hv'.gM, hv'.vM fu, hv'.fM fu, hv'.lM fu, hv'.sM fu, hv'.nM fu, pn_0_1, pn_0_2, pn_0_3, pn_0_4, pn_0_5, pn_0_7, pn_0_10, pn_0_40, pn_1_4, pn_1_6, pn_1_9, Option.bind_some, pu_ii, pu_10, if_true, gz_b2, r2, if_neg hc]
  · obtain ⟨M1, M2, r1, r2, r3, hw⟩ := pu_rfw fu hI 0 (by decide) (-2) pu_k2
    refine ⟨-2, M1, M2, ?_, ?_, r3⟩
    · simp only [f_X9_feet, gz_jn, hz.gC, hz.vC fu, hz.fC fu, hz.lC fu, hz.sC fu, pu_within, pu_shelf, pu_count, Option.bind_some, pu_ii, pu_10, if_true, gz_b2, r1]
    · have hv' := hz.same hw
      simp only [f_X10_feet, gz_jn, hv'.gM, hv'.vM fu, hv'.fM fu, hv'.lM fu, hv'.sM fu, hv'.nM fu, pn_0_1, pn_0_2, pn_0_3, pn_0_4, pn_0_5, pn_0_7, pn_0_10, pn_0_40, pn_1_4, pn_1_6, pn_1_9, Option.bind_some, pu_ii, pu_10, if_true, gz_b2, r2]
