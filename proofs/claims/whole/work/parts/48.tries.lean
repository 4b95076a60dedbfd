/-! judge -/
theorem n_50 : ((-5 : Int32) = 0) = False := eq_false (by decide)
def sp_td (nl z f : Nat) (x : Int64) : Int32 := if f < z ∧ 0 ≤ x ∧ x < lN nl then x.toInt32 else -1
theorem sp_td1 {nl z f : Nat} {x : Int64} (h : f < z ∧ 0 ≤ x ∧ x < lN nl) : sp_td nl z f x = x.toInt32 := if_pos h
theorem sp_td0 {nl z f : Nat} {x : Int64} (h : ¬ (f < z ∧ 0 ≤ x ∧ x < lN nl)) : sp_td nl z f x = -1 := if_neg h
theorem vc_td (fu : Nat) {b s t z f nl : Nat} {M : gz_M} (h : sR b s t z M) (hf : f < 12) (hn : nl ≤ 10) : f_X4_toldLast fu M (b + 94 + 2 * s) (nI f) (nI nl) = some (sp_td nl z f (M.2.2.2.1 (b + 95 + 2 * s) f)) := by
  have hz := h.2.2.1
  unfold f_X4_toldLast sp_td
  simp only [gz_jn, h.1.gd, h.sz, h.1.el, Option.bind_some]
  by_cases c1 : f < z
  · rw [if_neg (nI_ge c1 (by omega)), h.eC c1]
    simp only [Option.bind_some, pu_cmp_lt, nI_l (show nl < 2 ^ 31 by omega)]
    by_cases c2 : M.2.2.2.1 (b + 95 + 2 * s) f < 0
    · rw [if_pos c2, if_neg (fun q => by rw [fa_le64] at q; rw [fa_lt64] at c2; omega)]
    · rw [if_neg c2]
      by_cases c3 : M.2.2.2.1 (b + 95 + 2 * s) f < lN nl
      · rw [if_pos c3, if_pos ⟨c1, Int64.not_lt.mp c2, c3⟩]
      · rw [if_neg c3, if_neg (fun q => c3 q.2.2)]
  · rw [if_pos (nI_le (by omega) (by omega)), if_neg (fun q => c1 q.1)]
theorem pn_l1 {x : Int64} {n : Nat} (hn : n < 2 ^ 20) : x ≤ (nI n - 1).toInt64 ↔ x < lN n := by
  rw [fa_le64, fa_lt64, Int32.toInt_toInt64, lN_toInt (by omega)]
  have : (nI n - 1).toInt = (n : Int) - 1 := pk_sub_toInt (a := n) (b := 1) (by omega) (by omega)
  omega
theorem pl_jd {b k s t z set : Nat} {V : pv_V} {M : gz_M} {fu : Nat} (hfu : 5000 ≤ fu) (hv : vb b k V M) (h : sR b s t z M) (hs : set < 2 ^ 20) : ∃ r, lp_X9_judge_63 (some ((-1 : Int32), M)) fu M (nI set) (b + 94 + 2 * s) (b + 13 + 5 * k) fu (0 : Int32) = some (r, M) ∧ lp_X10_judge_64 (some ((-1 : Int32), M)) fu M (b + 110) (nI k) (nI set) (nI s) fu (0 : Int32) = some (r, M) := by
  have hok := hv.ok
  have o1 := hok.1
  have o2 := hok.2.1
  have hz := h.2.2.1
  refine pl_two (σ := Unit) (τ := Unit) (fun fuel i _ => lp_X9_judge_63 (some ((-1 : Int32), M)) fu M (nI set) (b + 94 + 2 * s) (b + 13 + 5 * k) fuel i) (fun fuel i _ => lp_X10_judge_64 (some ((-1 : Int32), M)) fu M (b + 110) (nI k) (nI set) (nI s) fuel i) (fun o1 o2 => ∃ r, o1 = some (r, M) ∧ o2 = some (r, M)) (fun _ _ _ => True) (pv_nf V) ?_ ?_ (pv_nf V) 0 () () fu fu (by omega) (by omega) (by omega) trivial
  · intro f g i _ _ hi _
    have eC : lp_X9_judge_63 (some ((-1 : Int32), M)) fu M (nI set) (b + 94 + 2 * s) (b + 13 + 5 * k) (f + 1) (nI i) = if sp_td (pv_nl V) z i (M.2.2.2.1 (b + 95 + 2 * s) i) = pc_i (sp_own V V i set (pv_nl V)) then lp_X9_judge_63 (some ((-1 : Int32), M)) fu M (nI set) (b + 94 + 2 * s) (b + 13 + 5 * k) f (nI (i + 1)) else some (nI i, M) := by
      rw [lp_X9_judge_63, vc_nf hv.c, Option.bind_some, if_neg (pn_nle hi (by omega)), vc_nl hv.c, Option.bind_some, vc_td fu h (by omega) o2, Option.bind_some, vc_ol hfu hv.c hi hs, Option.bind_some, pn_1]
    have eM : lp_X10_judge_64 (some ((-1 : Int32), M)) fu M (b + 110) (nI k) (nI set) (nI s) (g + 1) (nI i) = if sp_td (pv_nl V) z i (M.2.2.2.1 (b + 95 + 2 * s) i) = pc_i (sp_own V V i set (pv_nl V)) then lp_X10_judge_64 (some ((-1 : Int32), M)) fu M (b + 110) (nI k) (nI set) (nI s) g (nI (i + 1)) else some (nI i, M) := by
      rw [lp_X10_judge_64, vm_nf fu hv.m, Option.bind_some, if_neg (pn_nle hi (by omega))]
      simp only [gz_jn, h.1.m2, h.sn, Option.bind_some, vm_own hfu hv.m hi hs, pn_1, if_true, pu_10]
      by_cases c1 : i < z
      · rw [if_neg (nI_ge c1 (by omega))]
        simp only [h.1.m3, h.1.a3, h.eM c1, Option.bind_some, vm_nl fu hv.m, pu_in64, pn_l1 (show pv_nl V < 2 ^ 20 by omega), pu_ii]
        by_cases c2 : 0 ≤ M.2.2.2.1 (b + 95 + 2 * s) i ∧ M.2.2.2.1 (b + 95 + 2 * s) i < lN (pv_nl V)
        · rw [if_pos c2, sp_td1 ⟨c1, c2⟩]
        · rw [if_neg c2, sp_td0 (fun q => c2 q.2)]
      · rw [if_pos (nI_le (by omega) (by omega)), sp_td0 (fun q => c1 q.1)]
    by_cases c : sp_td (pv_nl V) z i (M.2.2.2.1 (b + 95 + 2 * s) i) = pc_i (sp_own V V i set (pv_nl V))
    · refine Or.inr ⟨(), (), trivial, ?_, ?_⟩
      · show lp_X9_judge_63 _ _ _ _ _ _ _ _ = _
        rw [eC, if_pos c]
      · show lp_X10_judge_64 _ _ _ _ _ _ _ _ _ = _
        rw [eM, if_pos c]
    · refine Or.inl ⟨nI i, ?_, ?_⟩
      · show lp_X9_judge_63 _ _ _ _ _ _ _ _ = _
        rw [eC, if_neg c]
      · show lp_X10_judge_64 _ _ _ _ _ _ _ _ _ = _
        rw [eM, if_neg c]
  · intro f g _ _ _
    refine ⟨-1, ?_, ?_⟩
    · show lp_X9_judge_63 _ _ _ _ _ _ _ _ = _
      rw [lp_X9_judge_63, vc_nf hv.c, Option.bind_some, if_pos (pn_le (Nat.le_refl _) (by omega))]
    · show lp_X10_judge_64 _ _ _ _ _ _ _ _ _ = _
      rw [lp_X10_judge_64, vm_nf fu hv.m, Option.bind_some, if_pos (pn_le (Nat.le_refl _) (by omega))]
theorem op_judge (b : Nat) {fu : Nat} (hfu : 5000 ≤ fu) : gz_op_judge (pi_I b) fu b (b + 110) := by
  intro M v set s hI
  rcases pg_val hI v with ⟨k, V, rfl, hv⟩ | hz
  · have hok := hv.ok
    have o1 := hok.1
    have o2 := hok.2.1
    have op2 : 2 ^ pv_nl V ≤ 2 ^ 10 := Nat.pow_le_pow_right (by omega) o2
    by_cases hc : (0 ≤ set ∧ set ≤ nI (2 ^ pv_nl V) - 1) ∧ (0 ≤ s ∧ s ≤ 7)
    · obtain ⟨c1, c2⟩ := hc
      obtain ⟨set, hset, rfl⟩ := (pn_lt (by omega)).mp c1
      have hset : set < 2 ^ 20 := by omega
      obtain ⟨s, hs, rfl⟩ := pu_sh8 c2
      rcases pg_sh hI hs with hf | ⟨t, z, hr⟩ | ⟨t, l, a, ht⟩
      · obtain ⟨M1, M2, r1, r2, r3, hw⟩ := pu_rfw fu hI 2 (by decide) (-4) pu_k4
        have hv' := hv.same hw
        have hx' := hf.same hw
        refine ⟨-4, M1, M2, ?_, ?_, r3⟩
        · simp only [f_X9_judge, gz_jn, hv.gC, hv.vC fu, hv.fC fu, hv.lC fu, hv.sC fu, pu_within, pu_shelf, pu_count, Option.bind_some, pu_ii, pu_10, if_true, gz_b2, if_pos c1, if_pos c2, hv.p1, hv.p2, hv.p3, hf.1.p1, hf.1.p2, hf.r fu, r1, n_02, n_12, n_01, n_20, n_21, n_30, n_40, n_50, if_false]
        · simp only [f_X10_judge, gz_jn, hv'.gM, hv'.vM fu, hv'.fM fu, hv'.lM fu, hv'.sM fu, hv'.nM fu, pn_0_1, pn_0_2, pn_0_3, pn_0_4, pn_0_5, pn_0_7, pn_0_10, pn_0_40, pn_1_4, pn_1_6, pn_1_9, Option.bind_some, pu_ii, pu_10, if_true, gz_b2, if_pos c1, if_pos c2, hx'.1.m0, hx'.sh, hx'.1.m0, r2, n_02, n_12, n_01, n_20, n_21, n_30, n_40, n_50, if_false]
      · obtain ⟨r, q1, q2⟩ := pl_jd hfu hv hr hset
        refine ⟨r, M, M, ?_, ?_, hI⟩
        · simp only [f_X9_judge, gz_jn, hv.gC, hv.vC fu, hv.fC fu, hv.lC fu, hv.sC fu, pu_within, pu_shelf, pu_count, Option.bind_some, pu_ii, pu_10, if_true, gz_b2, if_pos c1, if_pos c2, hv.p1, hv.p2, hv.p3, hr.1.p1, hr.1.p2, hr.r fu, q1]
        · simp only [f_X10_judge, gz_jn, hv.gM, hv.vM fu, hv.fM fu, hv.lM fu, hv.sM fu, hv.nM fu, pn_0_1, pn_0_2, pn_0_3, pn_0_4, pn_0_5, pn_0_7, pn_0_10, pn_0_40, pn_1_4, pn_1_6, pn_1_9, Option.bind_some, pu_ii, pu_10, if_true, gz_b2, if_pos c1, if_pos c2, hr.1.m0, hr.sh, n_12, if_false, q2]
      · obtain ⟨M1, M2, r1, r2, r3, hw⟩ := pu_rfw fu hI 1 (by decide) (-3) pu_k3
        have hv' := hv.same hw
        have hx' := ht.same hw
        refine ⟨-3, M1, M2, ?_, ?_, r3⟩
        · simp only [f_X9_judge, gz_jn, hv.gC, hv.vC fu, hv.fC fu, hv.lC fu, hv.sC fu, pu_within, pu_shelf, pu_count, Option.bind_some, pu_ii, pu_10, if_true, gz_b2, if_pos c1, if_pos c2, hv.p1, hv.p2, hv.p3, ht.1.p1, ht.1.p2, ht.r fu, r1, n_02, n_12, n_01, n_20, n_21, n_30, n_40, n_50, if_false]
        · simp only [f_X10_judge, gz_jn, hv'.gM, hv'.vM fu, hv'.fM fu, hv'.lM fu, hv'.sM fu, hv'.nM fu, pn_0_1, pn_0_2, pn_0_3, pn_0_4, pn_0_5, pn_0_7, pn_0_10, pn_0_40, pn_1_4, pn_1_6, pn_1_9, Option.bind_some, pu_ii, pu_10, if_true, gz_b2, if_pos c1, if_pos c2, hx'.1.m0, hx'.sh, hx'.1.m0, r2, n_02, n_12, n_01, n_20, n_21, n_30, n_40, n_50, if_false]
    · obtain ⟨M1, M2, r1, r2, r3, hw⟩ := pu_rfw fu hI 0 (by decide) (-2) pu_k2
      refine ⟨-2, M1, M2, ?_, ?_, r3⟩
      · simp only [f_X9_judge, gz_jn, hv.gC, hv.vC fu, hv.fC fu, hv.lC fu, hv.sC fu, pu_within, pu_shelf, pu_count, Option.bind_some, pu_ii, pu_10, if_true, gz_b2, r1, pu_n2 hc]
      · have hv' := hv.same hw
        simp only [f_X10_judge, gz_jn, hv'.gM, hv'.vM fu, hv'.fM fu, hv'.lM fu, hv'.sM fu, hv'.nM fu, pn_0_1, pn_0_2, pn_0_3, pn_0_4, pn_0_5, pn_0_7, pn_0_10, pn_0_40, pn_1_4, pn_1_6, pn_1_9, Option.bind_some, pu_ii, pu_10, if_true, gz_b2, r2, pu_n2 hc]
  · obtain ⟨M1, M2, r1, r2, r3, hw⟩ := pu_rfw fu hI 0 (by decide) (-2) pu_k2
    refine ⟨-2, M1, M2, ?_, ?_, r3⟩
    · simp only [f_X9_judge, gz_jn, hz.gC, hz.vC fu, hz.fC fu, hz.lC fu, hz.sC fu, pu_within, pu_shelf, pu_count, Option.bind_some, pu_ii, pu_10, if_true, gz_b2, r1]
    · have hv' := hz.same hw
      simp only [f_X10_judge, gz_jn, hv'.gM, hv'.vM fu, hv'.fM fu, hv'.lM fu, hv'.sM fu, hv'.nM fu, pn_0_1, pn_0_2, pn_0_3, pn_0_4, pn_0_5, pn_0_7, pn_0_10, pn_0_40, pn_1_4, pn_1_6, pn_1_9, Option.bind_some, pu_ii, pu_10, if_true, gz_b2, r2]
/-! tries, shoes -/
def sp_tr (V : pv_V) (l a t f : Nat) : Int32 :=
  if t = 2 then (match sp_bb V (pv_L V (4 * l) + a) (pv_L V (4 * l + 1) + a) (pv_L V (4 * l + 2) + a) (pv_F V (5 * f)) (pv_F V (5 * f + 1)) (pv_F V (5 * f + 2)) (pv_F V (5 * f + 4)) with
    | none => -1
    | some x => nI (x + a / 2))
  else if t = 3 then (if f = a then 0 else -1)
  else if t = 4 then (match sp_bad V V l f with
    | none => -1
    | some x => if a % 2 = 1 ∧ pv_F V (5 * f) + 1 < pv_L V (4 * l) then -1 else nI (2 * x))
  else if t = 5 then pc_o (sp_bb V (pv_L V (4 * l)) (pv_L V (4 * l + 1)) (pv_L V (4 * l + 2)) (pv_F V (5 * f) + pv_gr V * a) (pv_F V (5 * f + 1) + pv_gr V * a / 2) (pv_F V (5 * f + 2)) (pv_F V (5 * f + 4)))
  else pc_o (sp_bad V V l f)
theorem sp_tr1 (V : pv_V) (l a f : Nat) : sp_tr V l a 1 f = pc_o (sp_bad V V l f) := rfl
theorem sp_tr2 (V : pv_V) (l a f : Nat) : sp_tr V l a 2 f = (match sp_bb V (pv_L V (4 * l) + a) (pv_L V (4 * l + 1) + a) (pv_L V (4 * l + 2) + a) (pv_F V (5 * f)) (pv_F V (5 * f + 1)) (pv_F V (5 * f + 2)) (pv_F V (5 * f + 4)) with
    | none => -1
    | some x => nI (x + a / 2)) := rfl
theorem sp_tr3 (V : pv_V) (l a f : Nat) : sp_tr V l a 3 f = if f = a then 0 else -1 := rfl
theorem sp_tr4 (V : pv_V) (l a f : Nat) : sp_tr V l a 4 f = (match sp_bad V V l f with
    | none => -1
    | some x => if a % 2 = 1 ∧ pv_F V (5 * f) + 1 < pv_L V (4 * l) then -1 else nI (2 * x)) := rfl
theorem sp_tr5 (V : pv_V) (l a f : Nat) : sp_tr V l a 5 f = pc_o (sp_bb V (pv_L V (4 * l)) (pv_L V (4 * l + 1)) (pv_L V (4 * l + 2)) (pv_F V (5 * f) + pv_gr V * a) (pv_F V (5 * f + 1) + pv_gr V * a / 2) (pv_F V (5 * f + 2)) (pv_F V (5 * f + 4))) := rfl
theorem pn_d2 {a : Nat} (h : a < 2 ^ 31) : nI a / 2 = nI (a / 2) := pk_div (d := 2) h (by omega) (by omega)
theorem pn_r2 {a : Nat} (h : a < 2 ^ 31) : nI a - nI a / (2 : Int32) * (2 : Int32) = nI (a % 2) := pk_rem (d := 2) h (by omega) (by omega)
theorem pn_10 (t : Nat) : nI (10 + t) - 10 = nI t := by
  rw [show (10 : Int32) = nI 10 from rfl, pk_sub (by omega), show 10 + t - 10 = t by omega]
theorem pn_gt1 {x y : Nat} (hx : x < 2 ^ 20) (hy : y < 2 ^ 20) : nI x - nI y ≤ 1 ↔ x ≤ y + 1 := by
  rw [fa_le, pk_sub_toInt (by omega) (by omega), show (1 : Int32).toInt = 1 from by decide]
  omega
section TR
variable {b s t l a f : Nat} {V : pv_V} {M : gz_M} {fu : Nat}
theorem vc_tr {av : Nat} (h : sT b s t l a M) (hc : vy_c av V M) (hf : f < pv_nf V) (hl : l < pv_nl V) : f_X4_badnessFor fu M (b + 94 + 2 * s) av (nI f) = some (sp_tr V l a t f) := by
  have hV := vc_ok hc
  have ha := h.2.2.2.2.1
  have ht1 := h.2.1
  have ht2 := h.2.2.1
  have hgr := hV.2.2.2.1
  have hga : pv_gr V * a ≤ 9 * 30 := Nat.mul_le_mul hgr ha
  have o1 := hV.1
  have l0 : pv_L V (4 * l) ≤ 40 := (hV.2.2.2.2.2.2 l hl).1 0 (by omega)
  have f0 : pv_F V (5 * f) ≤ 30 := (hV.2.2.2.2.2.1 f hf).1 0 (by omega)
  unfold f_X4_badnessFor
  simp only [gz_jn, h.1.gd, h.ct, h.la, h.ba, Option.bind_some, pn_10]
  have hcs : t = 1 ∨ t = 2 ∨ t = 3 ∨ t = 4 ∨ t = 5 := by omega
  rcases hcs with rfl | rfl | rfl | rfl | rfl
  · show (f_X7_badnessOf fu M av (nI l) (nI f)).bind _ = some (pc_o (sp_bad V V l f))
    rw [vc_bf fu hc hf hl]
    rfl
  · show (f_X4_builtBadness fu M (b + 94 + 2 * s) av (nI f)).bind _ = _
    rw [sp_tr2]
    unfold f_X4_builtBadness
    have e := vc_bad fu hc hc (l := l) (t := a) (f := f) (gl := 0) (gb := 0) hf hl (by omega) (by omega) (by omega)
    simp only [gz_jn, h.1.gd, h.la, h.ba, Option.bind_some]
    rw [show (0 : Int32) = nI 0 from rfl, e, Option.bind_some]
    simp only [Nat.add_zero]
    cases q : sp_bb V (pv_L V (4 * l) + a) (pv_L V (4 * l + 1) + a) (pv_L V (4 * l + 2) + a) (pv_F V (5 * f)) (pv_F V (5 * f + 1)) (pv_F V (5 * f + 2)) (pv_F V (5 * f + 4)) with
    | none => rw [if_pos pc_none]; rfl
    | some x =>
      have := sp_bb_le hV q
      rw [pc_some, if_neg (pn_neg (n := x) (by omega)), pn_d2 (by omega), nI_add]; rfl
  · show (if nI f = nI a then some (0 : Int32) else some (-1)) = _
    rw [sp_tr3]
    by_cases c : f = a
    · subst c; rw [if_pos rfl, if_pos rfl]
    · rw [if_neg (fun q => c ((nI_eq (by omega) (by omega)).mp q)), if_neg c]
  · show (f_X4_pairBadness fu M (b + 94 + 2 * s) av (nI f)).bind _ = _
    rw [sp_tr4]
    have e0 : f_X7_lastPart fu M av (nI l) (0 : Int32) = some (nI (pv_L V (4 * l))) := vc_lp fu hc hl (m := 0) (by omega)
    have g0 : f_X7_footPart fu M av (nI f) (0 : Int32) = some (nI (pv_F V (5 * f))) := vc_fp fu hc hf (m := 0) (by omega)
    unfold f_X4_pairBadness
    simp only [gz_jn, h.1.gd, h.la, h.ba, Option.bind_some, e0, g0, vc_bf fu hc hf hl, pn_r2 (show a < 2 ^ 31 by omega), pu_10, if_true]
    cases q : sp_bad V V l f with
    | none => simp only [pc_none, if_true, ite_self, Option.bind_some]
    | some x =>
      have := sp_bad_le hV q
      simp only [pc_some, if_neg (pn_neg (n := x) (show x < 2 ^ 31 by omega)), show (2 : Int32) * nI x = nI (2 * x) from pk_mul 2 x]
      by_cases c1 : a % 2 = 1
      · by_cases c2 : pv_L V (4 * l) ≤ pv_F V (5 * f) + 1
        · have d : ¬ (a % 2 = 1 ∧ pv_F V (5 * f) + 1 < pv_L V (4 * l)) := by omega
          rw [if_pos ((pn_gt1 (by omega) (by omega)).mpr c2), if_neg d]
          simp only [ite_self, Option.bind_some]
        · have d : a % 2 = 1 ∧ pv_F V (5 * f) + 1 < pv_L V (4 * l) := by omega
          rw [if_neg (fun q => c2 ((pn_gt1 (by omega) (by omega)).mp q)), if_pos d]
          rw [c1]
          rfl
      · have d : ¬ (a % 2 = 1 ∧ pv_F V (5 * f) + 1 < pv_L V (4 * l)) := by omega
        rw [if_neg d, show a % 2 = 0 by omega]
        simp only [nI_0, if_true, ite_self, Option.bind_some]
  · rw [sp_tr5]
    have e := vc_bad fu hc hc (l := l) (t := 0) (f := f) (gl := pv_gr V * a) (gb := pv_gr V * a / 2) hf hl (by omega) (by omega) (by omega)
    simp only [vc_gr hc, Option.bind_some, pk_mul, pn_d2 (show pv_gr V * a < 2 ^ 31 by omega)]
    show (f_X7_badness fu M av av (nI l) (0 : Int32) (nI f) (nI (pv_gr V * a)) (nI (pv_gr V * a / 2))).bind _ = _
    rw [show (0 : Int32) = nI 0 from rfl, e]
    rfl
theorem vm_tr (hfu : 5000 ≤ fu) {k : Nat} (h : sT b s t l a M) (hc : vy_m (b + 110) k V M) (hf : f < pv_nf V) (hl : l < pv_nl V) : f_X10_tried fu M (b + 110) (nI k) (nI f) (nI s) = some (sp_tr V l a t f) := by
  have hV := vm_ok hc
  have ha := h.2.2.2.2.1
  have ht1 := h.2.1
  have ht2 := h.2.2.1
  have hgr := hV.2.2.2.1
  have hga : pv_gr V * a ≤ 9 * 30 := Nat.mul_le_mul hgr ha
  have o1 := hV.1
  obtain ⟨l1, l2⟩ := hV.2.2.2.2.2.2 l hl
  obtain ⟨f1, f2, f3, f4⟩ := hV.2.2.2.2.2.1 f hf
  have m0 : pv_L V (4 * l) ≤ 40 := l1 0 (by omega)
  have m1 := l1 1 (by omega)
  have m2 := l1 2 (by omega)
  have n0 : pv_F V (5 * f) ≤ 30 := f1 0 (by omega)
  have n1 := f1 1 (by omega)
  have n2 := f1 2 (by omega)
  have e0 : f_X10_lastIs fu M (b + 110) (nI k) (nI l) (0 : Int32) = some (nI (pv_L V (4 * l))) := vm_lp fu hc hl (m := 0) (by omega)
  have e1 : f_X10_lastIs fu M (b + 110) (nI k) (nI l) (1 : Int32) = some (nI (pv_L V (4 * l + 1))) := vm_lp fu hc hl (m := 1) (by omega)
  have e2 : f_X10_lastIs fu M (b + 110) (nI k) (nI l) (2 : Int32) = some (nI (pv_L V (4 * l + 2))) := vm_lp fu hc hl (m := 2) (by omega)
  have g0 : f_X10_of fu M (b + 110) (nI k) (nI f) (0 : Int32) = some (nI (pv_F V (5 * f))) := vm_fp fu hc hf (m := 0) (by omega)
  have g1 : f_X10_of fu M (b + 110) (nI k) (nI f) (1 : Int32) = some (nI (pv_F V (5 * f + 1))) := vm_fp fu hc hf (m := 1) (by omega)
  have g2 : f_X10_of fu M (b + 110) (nI k) (nI f) (2 : Int32) = some (nI (pv_F V (5 * f + 2))) := vm_fp fu hc hf (m := 2) (by omega)
  have g4 : f_X10_of fu M (b + 110) (nI k) (nI f) (4 : Int32) = some (nI (pv_F V (5 * f + 4))) := vm_fp fu hc hf (m := 4) (by omega)
  unfold f_X10_tried
  simp only [gz_jn, h.1.gM, h.1.m5, h.tk, h.1.m6, h.tl, h.1.m7, h.ta, e0, e1, e2, g0, g1, g2, g4, Option.bind_some, nI_add, vm_bad hfu hc hc hf hl, pn_d2 (show a < 2 ^ 31 by omega), pn_r2 (show a < 2 ^ 31 by omega), vm_r12 hc, vm_v hc, vm_gr hc, pk_mul, pn_d2 (show pv_gr V * a < 2 ^ 31 by omega)]
  have hcs : t = 1 ∨ t = 2 ∨ t = 3 ∨ t = 4 ∨ t = 5 := by omega
  rcases hcs with rfl | rfl | rfl | rfl | rfl
  · rfl
  · show ((f_X10_badBy fu M (b + 110) (nI k) (nI (pv_L V (4 * l) + a)) (nI (pv_L V (4 * l + 1) + a)) (nI (pv_L V (4 * l + 2) + a)) (nI (pv_F V (5 * f))) (nI (pv_F V (5 * f + 1))) (nI (pv_F V (5 * f + 2))) (nI (pv_F V (5 * f + 4)))).bind fun x28 => if x28 = -1 then some (-1) else some (x28 + nI (a / 2))) = _
    rw [vm_by hfu hc (by omega) (by omega) (by omega) (by omega) (by omega) (by omega) (by omega), Option.bind_some, sp_tr2]
    cases q : sp_bb V (pv_L V (4 * l) + a) (pv_L V (4 * l + 1) + a) (pv_L V (4 * l + 2) + a) (pv_F V (5 * f)) (pv_F V (5 * f + 1)) (pv_F V (5 * f + 2)) (pv_F V (5 * f + 4)) with
    | none => rw [if_pos pc_none]
    | some x =>
      have := sp_bb_le hV q
      rw [pc_some, if_neg (pn_neg (n := x) (by omega)), nI_add]
  · show (if nI f = nI a then some (0 : Int32) else some (-1)) = _
    rw [sp_tr3]
    by_cases c : f = a
    · subst c; rw [if_pos rfl, if_pos rfl]
    · rw [if_neg (fun q => c ((nI_eq (by omega) (by omega)).mp q)), if_neg c]
  · rw [sp_tr4]
    have er : nI a - nI (a / 2) * 2 = nI (a % 2) := by rw [← pn_d2 (by omega)]; exact pn_r2 (by omega)
    rw [if_neg (show ¬ nI 4 = (2 : Int32) by decide), if_neg (show ¬ nI 4 = (3 : Int32) by decide), if_pos (show nI 4 = (4 : Int32) from rfl)]
    cases q : sp_bad V V l f with
    | none => simp only [pc_none, if_true, ite_self]
    | some x =>
      have := sp_bad_le hV q
      simp only [pc_some, if_neg (pn_neg (n := x) (show x < 2 ^ 31 by omega)), show (2 : Int32) * nI x = nI (2 * x) from pk_mul 2 x, if_true, pu_10, er]
      by_cases c1 : a % 2 = 1
      · rw [if_pos (show nI (a % 2) = 1 by rw [c1]; rfl)]
        by_cases c2 : pv_L V (4 * l) ≤ pv_F V (5 * f) + 1
        · have d : ¬ (a % 2 = 1 ∧ pv_F V (5 * f) + 1 < pv_L V (4 * l)) := by omega
          rw [if_pos ((pn_gt1 (by omega) (by omega)).mpr c2), if_neg d]
        · have d : a % 2 = 1 ∧ pv_F V (5 * f) + 1 < pv_L V (4 * l) := by omega
          rw [if_neg (fun q => c2 ((pn_gt1 (by omega) (by omega)).mp q)), if_pos d]
      · have d : ¬ (a % 2 = 1 ∧ pv_F V (5 * f) + 1 < pv_L V (4 * l)) := by omega
        rw [if_neg d, if_neg (show ¬ nI (a % 2) = 1 by rw [show a % 2 = 0 by omega]; decide)]
  · rw [sp_tr5]
    show ((f_X10_badBy fu M (b + 110) (nI k) (nI (pv_L V (4 * l))) (nI (pv_L V (4 * l + 1))) (nI (pv_L V (4 * l + 2))) (nI (pv_F V (5 * f) + pv_gr V * a)) (nI (pv_F V (5 * f + 1) + pv_gr V * a / 2)) (nI (pv_F V (5 * f + 2))) (nI (pv_F V (5 * f + 4)))).bind fun x18 => some x18) = _
    rw [vm_by hfu hc (by omega) (by omega) (by omega) (by omega) (by omega) (by omega) (by omega)]
    rfl
end TR
theorem vc_tf (fu : Nat) {b s a : Nat} {V : pv_V} {M : gz_M} (h : sF b s M) (hc : vy_c a V M) : f_X4_toolRefusal fu M (b + 94 + 2 * s) a = some (-4) := by
  simp only [f_X4_toolRefusal, h.1.gd, (h.rr fu).1, (h.rr fu).2.2, Option.bind_some, if_true, pu_10]
theorem vc_tR (fu : Nat) {b s t z a : Nat} {V : pv_V} {M : gz_M} (h : sR b s t z M) (hc : vy_c a V M) : f_X4_toolRefusal fu M (b + 94 + 2 * s) a = some (-3) := by
  simp only [f_X4_toolRefusal, h.1.gd, (h.rr fu).1, (h.rr fu).2.2, Option.bind_some, if_true, pu_10]
theorem vc_tT (fu : Nat) {b s t l q a : Nat} {V : pv_V} {M : gz_M} (h : sT b s t l q M) (hc : vy_c a V M) : f_X4_toolRefusal fu M (b + 94 + 2 * s) a = some (if l < pv_nl V then 0 else -5) := by
  have := (vc_ok hc).2.1
  have := h.2.2.2.1
  simp only [f_X4_toolRefusal, gz_jn, h.1.gd, (h.rr fu).1, (h.rr fu).2.2, Option.bind_some, if_true, h.la, vc_nl hc]
  by_cases c : l < pv_nl V
  · rw [if_neg (nI_ge c (by omega)), if_pos c]
  · rw [if_pos (nI_le (by omega) (by omega)), if_neg c]
theorem op_tries (b : Nat) {fu : Nat} (hfu : 5000 ≤ fu) : gz_op_tries (pi_I b) fu b (b + 110) := by
  intro M v f s hI
  rcases pg_val hI v with ⟨k, V, rfl, hv⟩ | hz
  · have hok := hv.ok
    have o1 := hok.1
    have o2 := hok.2.1
    have op2 : 2 ^ pv_nl V ≤ 2 ^ 10 := Nat.pow_le_pow_right (by omega) o2
    by_cases hc : (0 ≤ f ∧ f ≤ nI (pv_nf V) - 1) ∧ (0 ≤ s ∧ s ≤ 7)
    · obtain ⟨c1, c2⟩ := hc
      obtain ⟨f, hf, rfl⟩ := (pn_lt (by omega)).mp c1
      obtain ⟨s, hs, rfl⟩ := pu_sh8 c2
      rcases pg_sh hI hs with hf | ⟨t, z, hr⟩ | ⟨t, l, a, ht⟩
      · obtain ⟨M1, M2, r1, r2, r3, hw⟩ := pu_rfw fu hI 2 (by decide) (-4) pu_k4
        have hv' := hv.same hw
        have hx' := hf.same hw
        refine ⟨-4, M1, M2, ?_, ?_, r3⟩
        · simp only [f_X9_tries, gz_jn, hv.gC, hv.vC fu, hv.fC fu, hv.lC fu, hv.sC fu, pu_within, pu_shelf, pu_count, Option.bind_some, pu_ii, pu_10, if_true, gz_b2, if_pos c1, if_pos c2, hv.p1, hv.p2, hv.p3, hf.1.p1, hf.1.p2, vc_tf fu hf hv.c, r1, n_02, n_12, n_01, n_20, n_21, n_30, n_40, n_50, if_false]
        · simp only [f_X10_tries, gz_jn, hv'.gM, hv'.vM fu, hv'.fM fu, hv'.lM fu, hv'.sM fu, hv'.nM fu, pn_0_1, pn_0_2, pn_0_3, pn_0_4, pn_0_5, pn_0_7, pn_0_10, pn_0_40, pn_1_4, pn_1_6, pn_1_9, Option.bind_some, pu_ii, pu_10, if_true, gz_b2, if_pos c1, if_pos c2, hx'.1.m0, hx'.sh, f_X10_noTool, hx'.1.m0, r2, n_02, n_12, n_01, n_20, n_21, n_30, n_40, n_50, if_false]
      · obtain ⟨M1, M2, r1, r2, r3, hw⟩ := pu_rfw fu hI 1 (by decide) (-3) pu_k3
        have hv' := hv.same hw
        have hx' := hr.same hw
        refine ⟨-3, M1, M2, ?_, ?_, r3⟩
        · simp only [f_X9_tries, gz_jn, hv.gC, hv.vC fu, hv.fC fu, hv.lC fu, hv.sC fu, pu_within, pu_shelf, pu_count, Option.bind_some, pu_ii, pu_10, if_true, gz_b2, if_pos c1, if_pos c2, hv.p1, hv.p2, hv.p3, hr.1.p1, hr.1.p2, vc_tR fu hr hv.c, r1, n_02, n_12, n_01, n_20, n_21, n_30, n_40, n_50, if_false]
        · simp only [f_X10_tries, gz_jn, hv'.gM, hv'.vM fu, hv'.fM fu, hv'.lM fu, hv'.sM fu, hv'.nM fu, pn_0_1, pn_0_2, pn_0_3, pn_0_4, pn_0_5, pn_0_7, pn_0_10, pn_0_40, pn_1_4, pn_1_6, pn_1_9, Option.bind_some, pu_ii, pu_10, if_true, gz_b2, if_pos c1, if_pos c2, hx'.1.m0, hx'.sh, f_X10_noTool, hx'.1.m0, r2, n_02, n_12, n_01, n_20, n_21, n_30, n_40, n_50, if_false]
      · by_cases hl : l < pv_nl V
        · refine ⟨sp_tr V l a t f, M, M, ?_, ?_, hI⟩
          · simp only [f_X9_tries, gz_jn, hv.gC, hv.vC fu, hv.fC fu, hv.lC fu, hv.sC fu, pu_within, pu_shelf, pu_count, Option.bind_some, pu_ii, pu_10, if_true, gz_b2, if_pos c1, if_pos c2, hv.p1, hv.p2, hv.p3, ht.1.p1, ht.1.p2, vc_tT fu ht hv.c, if_pos hl, vc_tr ht hv.c hf hl]
          · simp only [f_X10_tries, f_X10_noTool, gz_jn, hv.gM, hv.vM fu, hv.fM fu, hv.lM fu, hv.sM fu, hv.nM fu, pn_0_1, pn_0_2, pn_0_3, pn_0_4, pn_0_5, pn_0_7, pn_0_10, pn_0_40, pn_1_4, pn_1_6, pn_1_9, Option.bind_some, pu_ii, pu_10, if_true, gz_b2, if_pos c1, if_pos c2, ht.1.m0, ht.sh, ht.1.m6, ht.tl, vm_nl fu hv.m, if_pos (nI_lt hl (show pv_nl V < 2 ^ 31 by omega)), n_20, n_21, if_false, vm_tr hfu ht hv.m hf hl]
        · obtain ⟨M1, M2, r1, r2, r3, hw⟩ := pu_rfw fu hI 3 (by decide) (-5) pu_k5
          have hv' := hv.same hw
          have hx' := ht.same hw
          refine ⟨-5, M1, M2, ?_, ?_, r3⟩
          · simp only [f_X9_tries, gz_jn, hv.gC, hv.vC fu, hv.fC fu, hv.lC fu, hv.sC fu, pu_within, pu_shelf, pu_count, Option.bind_some, pu_ii, pu_10, if_true, gz_b2, if_pos c1, if_pos c2, hv.p1, hv.p2, hv.p3, ht.1.p1, ht.1.p2, vc_tT fu ht hv.c, if_neg hl, r1, n_02, n_12, n_01, n_20, n_21, n_30, n_40, n_50, if_false]
          · simp only [f_X10_tries, gz_jn, hv'.gM, hv'.vM fu, hv'.fM fu, hv'.lM fu, hv'.sM fu, hv'.nM fu, pn_0_1, pn_0_2, pn_0_3, pn_0_4, pn_0_5, pn_0_7, pn_0_10, pn_0_40, pn_1_4, pn_1_6, pn_1_9, Option.bind_some, pu_ii, pu_10, if_true, gz_b2, if_pos c1, if_pos c2, hx'.1.m0, hx'.sh, f_X10_noTool, hx'.1.m6, hx'.tl, vm_nl fu hv'.m, if_neg (nI_nlt (a := l) (b := pv_nl V) (by omega) (by have := ht.2.2.2.1; omega)), r2, n_02, n_12, n_01, n_20, n_21, n_30, n_40, n_50, if_false]
    · obtain ⟨M1, M2, r1, r2, r3, hw⟩ := pu_rfw fu hI 0 (by decide) (-2) pu_k2
      refine ⟨-2, M1, M2, ?_, ?_, r3⟩
      · simp only [f_X9_tries, gz_jn, hv.gC, hv.vC fu, hv.fC fu, hv.lC fu, hv.sC fu, pu_within, pu_shelf, pu_count, Option.bind_some, pu_ii, pu_10, if_true, gz_b2, r1, pu_n2 hc]
      · have hv' := hv.same hw
        simp only [f_X10_tries, gz_jn, hv'.gM, hv'.vM fu, hv'.fM fu, hv'.lM fu, hv'.sM fu, hv'.nM fu, pn_0_1, pn_0_2, pn_0_3, pn_0_4, pn_0_5, pn_0_7, pn_0_10, pn_0_40, pn_1_4, pn_1_6, pn_1_9, Option.bind_some, pu_ii, pu_10, if_true, gz_b2, r2, pu_n2 hc]
  · obtain ⟨M1, M2, r1, r2, r3, hw⟩ := pu_rfw fu hI 0 (by decide) (-2) pu_k2
    refine ⟨-2, M1, M2, ?_, ?_, r3⟩
    · simp only [f_X9_tries, gz_jn, hz.gC, hz.vC fu, hz.fC fu, hz.lC fu, hz.sC fu, pu_within, pu_shelf, pu_count, Option.bind_some, pu_ii, pu_10, if_true, gz_b2, r1]
    · have hv' := hz.same hw
      simp only [f_X10_tries, gz_jn, hv'.gM, hv'.vM fu, hv'.fM fu, hv'.lM fu, hv'.sM fu, hv'.nM fu, pn_0_1, pn_0_2, pn_0_3, pn_0_4, pn_0_5, pn_0_7, pn_0_10, pn_0_40, pn_1_4, pn_1_6, pn_1_9, Option.bind_some, pu_ii, pu_10, if_true, gz_b2, r2]
theorem pl_sho {b k s t l a : Nat} {V : pv_V} {M : gz_M} {fu : Nat} (hfu : 5000 ≤ fu) (hv : vb b k V M) (ht : sT b s t l a M) (hl : l < pv_nl V) : ∃ r : Int32, (∀ j, lp_X9_shoes_62 j fu M b (nI s) (b + 13 + 5 * k) fu (0 : Int32) (0 : Int32) = j r) ∧ ∀ j, lp_X10_shoes_46 j fu M (b + 110) (nI k) (nI s) fu (0 : Int32) (0 : Int32) = j r := by
  have o1 := hv.ok.1
  let S : Nat → Int32 := fun m => Nat.rec (0 : Int32) (fun f r => if sp_tr V l a t f = -1 then r else r ||| ((1 : Int32) <<< (nI f &&& 31))) m
  have hS : ∀ f, S (f + 1) = if sp_tr V l a t f = -1 then S f else S f ||| ((1 : Int32) <<< (nI f &&& 31)) := fun n => rfl
  refine ⟨S (pv_nf V), fun j => ?_, fun j => ?_⟩
  · refine pl_fn (fun fuel i s' => lp_X9_shoes_62 j fu M b (nI s) (b + 13 + 5 * k) fuel s' i) j S (pv_nf V) ?_ ?_ (fuel := fu) (by omega)
    · intro fuel i hi
      rw [lp_X9_shoes_62, vc_nf hv.c, Option.bind_some, if_neg (pn_nle hi (by omega)), ht.1.p1, Option.bind_some, ht.1.p2, Option.bind_some, vc_tr ht hv.c hi hl, Option.bind_some, hS]
      simp only [gz_jn, pn_1]
      by_cases c : sp_tr V l a t i = -1
      · rw [if_pos c, if_pos c]
      · rw [if_neg c, if_neg c]
    · intro fuel
      rw [lp_X9_shoes_62, vc_nf hv.c, Option.bind_some, if_pos (pn_le (Nat.le_refl _) (by omega))]
  · refine pl_fn (fun fuel i s' => lp_X10_shoes_46 j fu M (b + 110) (nI k) (nI s) fuel s' i) j S (pv_nf V) ?_ ?_ (fuel := fu) (by omega)
    · intro fuel i hi
      rw [lp_X10_shoes_46, vm_nf fu hv.m, Option.bind_some, if_neg (pn_nle hi (by omega)), vm_tr hfu ht hv.m hi hl, Option.bind_some, hS]
      simp only [gz_jn, pn_1]
      by_cases c : sp_tr V l a t i = -1
      · rw [if_pos c, if_pos c, Int32.or_zero]
      · rw [if_neg c, if_neg c]
    · intro fuel
      rw [lp_X10_shoes_46, vm_nf fu hv.m, Option.bind_some, if_pos (pn_le (Nat.le_refl _) (by omega))]
theorem op_shoes (b : Nat) {fu : Nat} (hfu : 5000 ≤ fu) : gz_op_shoes (pi_I b) fu b (b + 110) := by
  intro M v s hI
  rcases pg_val hI v with ⟨k, V, rfl, hv⟩ | hz
  · have hok := hv.ok
    have o1 := hok.1
    have o2 := hok.2.1
    have op2 : 2 ^ pv_nl V ≤ 2 ^ 10 := Nat.pow_le_pow_right (by omega) o2
    by_cases hc : (0 ≤ s ∧ s ≤ 7)
    · have c1 := hc
      obtain ⟨s, hs, rfl⟩ := pu_sh8 c1
      rcases pg_sh hI hs with hf | ⟨t, z, hr⟩ | ⟨t, l, a, ht⟩
      · obtain ⟨M1, M2, r1, r2, r3, hw⟩ := pu_rfw fu hI 2 (by decide) (-4) pu_k4
        have hv' := hv.same hw
        have hx' := hf.same hw
        refine ⟨-4, M1, M2, ?_, ?_, r3⟩
        · simp only [f_X9_shoes, gz_jn, hv.gC, hv.vC fu, hv.fC fu, hv.lC fu, hv.sC fu, pu_within, pu_shelf, pu_count, Option.bind_some, pu_ii, pu_10, if_true, gz_b2, if_pos c1, hv.p1, hv.p2, hv.p3, hf.1.p1, hf.1.p2, vc_tf fu hf hv.c, r1, n_02, n_12, n_01, n_20, n_21, n_30, n_40, n_50, if_false]
        · simp only [f_X10_shoes, gz_jn, hv'.gM, hv'.vM fu, hv'.fM fu, hv'.lM fu, hv'.sM fu, hv'.nM fu, pn_0_1, pn_0_2, pn_0_3, pn_0_4, pn_0_5, pn_0_7, pn_0_10, pn_0_40, pn_1_4, pn_1_6, pn_1_9, Option.bind_some, pu_ii, pu_10, if_true, gz_b2, if_pos c1, hx'.1.m0, hx'.sh, f_X10_noTool, hx'.1.m0, r2, n_02, n_12, n_01, n_20, n_21, n_30, n_40, n_50, if_false]
      · obtain ⟨M1, M2, r1, r2, r3, hw⟩ := pu_rfw fu hI 1 (by decide) (-3) pu_k3
        have hv' := hv.same hw
        have hx' := hr.same hw
        refine ⟨-3, M1, M2, ?_, ?_, r3⟩
        · simp only [f_X9_shoes, gz_jn, hv.gC, hv.vC fu, hv.fC fu, hv.lC fu, hv.sC fu, pu_within, pu_shelf, pu_count, Option.bind_some, pu_ii, pu_10, if_true, gz_b2, if_pos c1, hv.p1, hv.p2, hv.p3, hr.1.p1, hr.1.p2, vc_tR fu hr hv.c, r1, n_02, n_12, n_01, n_20, n_21, n_30, n_40, n_50, if_false]
        · simp only [f_X10_shoes, gz_jn, hv'.gM, hv'.vM fu, hv'.fM fu, hv'.lM fu, hv'.sM fu, hv'.nM fu, pn_0_1, pn_0_2, pn_0_3, pn_0_4, pn_0_5, pn_0_7, pn_0_10, pn_0_40, pn_1_4, pn_1_6, pn_1_9, Option.bind_some, pu_ii, pu_10, if_true, gz_b2, if_pos c1, hx'.1.m0, hx'.sh, f_X10_noTool, hx'.1.m0, r2, n_02, n_12, n_01, n_20, n_21, n_30, n_40, n_50, if_false]
      · by_cases hl : l < pv_nl V
        · obtain ⟨r, q1, q2⟩ := pl_sho hfu hv ht hl
          refine ⟨r, M, M, ?_, ?_, hI⟩
          · simp only [f_X9_shoes, gz_jn, hv.gC, hv.vC fu, hv.fC fu, hv.lC fu, hv.sC fu, pu_within, pu_shelf, pu_count, Option.bind_some, pu_ii, pu_10, if_true, gz_b2, if_pos c1, hv.p1, hv.p2, hv.p3, ht.1.p1, ht.1.p2, vc_tT fu ht hv.c, if_pos hl, q1]
          · simp only [f_X10_shoes, f_X10_noTool, gz_jn, hv.gM, hv.vM fu, hv.fM fu, hv.lM fu, hv.sM fu, hv.nM fu, pn_0_1, pn_0_2, pn_0_3, pn_0_4, pn_0_5, pn_0_7, pn_0_10, pn_0_40, pn_1_4, pn_1_6, pn_1_9, Option.bind_some, pu_ii, pu_10, if_true, gz_b2, if_pos c1, ht.1.m0, ht.sh, ht.1.m6, ht.tl, vm_nl fu hv.m, if_pos (nI_lt hl (show pv_nl V < 2 ^ 31 by omega)), n_20, n_21, if_false, q2]
        · obtain ⟨M1, M2, r1, r2, r3, hw⟩ := pu_rfw fu hI 3 (by decide) (-5) pu_k5
          have hv' := hv.same hw
          have hx' := ht.same hw
          refine ⟨-5, M1, M2, ?_, ?_, r3⟩
          · simp only [f_X9_shoes, gz_jn, hv.gC, hv.vC fu, hv.fC fu, hv.lC fu, hv.sC fu, pu_within, pu_shelf, pu_count, Option.bind_some, pu_ii, pu_10, if_true, gz_b2, if_pos c1, hv.p1, hv.p2, hv.p3, ht.1.p1, ht.1.p2, vc_tT fu ht hv.c, if_neg hl, r1, n_02, n_12, n_01, n_20, n_21, n_30, n_40, n_50, if_false]
          · simp only [f_X10_shoes, gz_jn, hv'.gM, hv'.vM fu, hv'.fM fu, hv'.lM fu, hv'.sM fu, hv'.nM fu, pn_0_1, pn_0_2, pn_0_3, pn_0_4, pn_0_5, pn_0_7, pn_0_10, pn_0_40, pn_1_4, pn_1_6, pn_1_9, Option.bind_some, pu_ii, pu_10, if_true, gz_b2, if_pos c1, hx'.1.m0, hx'.sh, f_X10_noTool, hx'.1.m6, hx'.tl, vm_nl fu hv'.m, if_neg (nI_nlt (a := l) (b := pv_nl V) (by omega) (by have := ht.2.2.2.1; omega)), r2, n_02, n_12, n_01, n_20, n_21, n_30, n_40, n_50, if_false]
    · obtain ⟨M1, M2, r1, r2, r3, hw⟩ := pu_rfw fu hI 0 (by decide) (-2) pu_k2
      refine ⟨-2, M1, M2, ?_, ?_, r3⟩
      · simp only [f_X9_shoes, gz_jn, hv.gC, hv.vC fu, hv.fC fu, hv.lC fu, hv.sC fu, pu_within, pu_shelf, pu_count, Option.bind_some, pu_ii, pu_10, if_true, gz_b2, r1, if_neg hc]
      · have hv' := hv.same hw
        simp only [f_X10_shoes, gz_jn, hv'.gM, hv'.vM fu, hv'.fM fu, hv'.lM fu, hv'.sM fu, hv'.nM fu, pn_0_1, pn_0_2, pn_0_3, pn_0_4, pn_0_5, pn_0_7, pn_0_10, pn_0_40, pn_1_4, pn_1_6, pn_1_9, Option.bind_some, pu_ii, pu_10, if_true, gz_b2, r2, if_neg hc]
  · obtain ⟨M1, M2, r1, r2, r3, hw⟩ := pu_rfw fu hI 0 (by decide) (-2) pu_k2
    refine ⟨-2, M1, M2, ?_, ?_, r3⟩
    · simp only [f_X9_shoes, gz_jn, hz.gC, hz.vC fu, hz.fC fu, hz.lC fu, hz.sC fu, pu_within, pu_shelf, pu_count, Option.bind_some, pu_ii, pu_10, if_true, gz_b2, r1]
    · have hv' := hz.same hw
      simp only [f_X10_shoes, gz_jn, hv'.gM, hv'.vM fu, hv'.fM fu, hv'.lM fu, hv'.sM fu, hv'.nM fu, pn_0_1, pn_0_2, pn_0_3, pn_0_4, pn_0_5, pn_0_7, pn_0_10, pn_0_40, pn_1_4, pn_1_6, pn_1_9, Option.bind_some, pu_ii, pu_10, if_true, gz_b2, r2]
