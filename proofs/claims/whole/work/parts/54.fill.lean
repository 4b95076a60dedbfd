/-! the table is filled -/
theorem pu_same {M : gz_M} {a k j : Nat} {v : Int32} : (gz_sI M a k v).2.2.1 a j = if j = k then v else M.2.2.1 a j := by
  rw [pu_sI_at]
  by_cases h : j = k
  · rw [if_pos ⟨rfl, h⟩, if_pos h]
  · rw [if_neg (fun q => h q.2), if_neg h]
def sp_mv (t : Nat) : Option (Nat × Nat) → Nat
  | none => t
  | some _ => 0
def sp_wv : Option (Nat × Nat) → Nat
  | none => 0
  | some (_, x) => x
/-- how many (by times) are out -/
def sp_ms (V : pv_V) (s : Nat) : Nat → Nat := fb_sm (fun f => sp_mv (pv_F V (5 * f + 3)) (sp_own V V f s (pv_nl V)))
/-- the greatest badness -/
def sp_ws (V : pv_V) (s : Nat) : Nat → Nat
  | 0 => 0
  | f + 1 => if sp_ws V s f < sp_wv (sp_own V V f s (pv_nl V)) then sp_wv (sp_own V V f s (pv_nl V)) else sp_ws V s f
theorem sp_ms_s (V : pv_V) (s f : Nat) : sp_ms V s (f + 1) = sp_ms V s f + sp_mv (pv_F V (5 * f + 3)) (sp_own V V f s (pv_nl V)) := rfl
theorem sp_tl_s (V : pv_V) (s f : Nat) : sp_tl V s none (f + 1) = sp_tl V s none f + sp_cost V f s := by
  rw [show sp_tl V s none (f + 1) = sp_tl V s none f + (if none = some f then 0 else sp_cost V f s) from (Nat.add_assoc _ _ _).symm, if_neg (by simp)]
theorem sp_wv_le {V : pv_V} {f s : Nat} (hV : pv_ok V) : sp_wv (sp_own V V f s (pv_nl V)) ≤ 810 := by
  cases e : sp_own V V f s (pv_nl V) with
  | none => exact Nat.zero_le _
  | some p => obtain ⟨i, x⟩ := p; exact (sp_own_ok hV _ i x e).2.1
theorem sp_ws_le {V : pv_V} {s : Nat} (hV : pv_ok V) : ∀ f, sp_ws V s f ≤ 810
  | 0 => Nat.zero_le _
  | f + 1 => by
    have := sp_ws_le (s := s) hV f
    have := sp_wv_le (f := f) (s := s) hV
    unfold sp_ws
    split <;> omega
theorem sp_ms_le {V : pv_V} {s f : Nat} (hV : pv_ok V) (hf : f ≤ pv_nf V) : sp_ms V s f ≤ 1188 := by
  have h : sp_ms V s f ≤ f * 99 := fb_sm_bound (fun g hg => by
    have := (hV.2.2.2.2.2.1 g (by omega)).2.2.1
    cases sp_own V V g s (pv_nl V) with
    | none => exact this
    | some p => exact Nat.zero_le _)
  have := hV.1
  omega
def tb (T : Nat) (V : pv_V) (n : Nat) (M : gz_M) : Prop := M.2.2.1 T 4 = nI (2 ^ pv_nl V) ∧ ∀ s, s < 2 ^ pv_nl V → M.2.2.1 (T + 1) s = nI (sp_tl V s none n) ∧ M.2.2.1 (T + 2) s = nI (sp_ms V s n) ∧ M.2.2.1 (T + 3) s = nI (sp_ws V s n)
theorem vc_af {fu : Nat} (hfu : 5000 ≤ fu) {T a f : Nat} {V : pv_V} {M : gz_M} (h : t_l T M) (hv : vy_c a V M) (hd : a + 5 ≤ T ∨ T + 5 ≤ a) (hf : f < pv_nf V) (ht : tb T V f M) (hl : ∀ s, s < 2 ^ pv_nl V → M.2.2.1 (T + 4) s = pc_n (sp_own V V f s (pv_nl V))) : ∃ M', f_X3_addFoot fu M T a (nI f) = some M' ∧ pf_f (t_P T) M M' ∧ tb T V (f + 1) M' := by
  have hok := vc_ok hv
  have o1 := hok.1
  have o2 := hok.2.1
  have hp := tp_le o2
  obtain ⟨t4, tt⟩ := ht
  have e3 : f_X7_footPart fu M a (nI f) (3 : Int32) = some (nI (pv_F V (5 * f + 3))) := vc_fp fu hv hf (m := 3) (by omega)
  have ec : f_X7_costAt fu M a (nI f) (2147483647 : Int32) = some (nI (sp_ct V f none)) := vc_ct fu hv hf (o := none) (fun i x e => by cases e)
  unfold f_X3_addFoot
  rw [h.gd, e3, Option.bind_some, ec, Option.bind_some]
  obtain ⟨M', ⟨g1, g2, g3, g5⟩, g4⟩ := pl_up (σ := gz_M) (fun fuel i s => lp_X3_addFoot_19 (fun M22 => some M22) T (nI (pv_F V (5 * f + 3))) (nI (sp_ct V f none)) fuel i s) (fun s => some s) (fun i N => pf_f (t_P T) M N ∧ N.2.2.1 T = M.2.2.1 T ∧ N.2.2.1 (T + 4) = M.2.2.1 (T + 4) ∧ ∀ s, s < 2 ^ pv_nl V → N.2.2.1 (T + 1) s = nI (sp_tl V s none (if s < i then f + 1 else f)) ∧ N.2.2.1 (T + 2) s = nI (sp_ms V s (if s < i then f + 1 else f)) ∧ N.2.2.1 (T + 3) s = nI (sp_ws V s (if s < i then f + 1 else f))) (2 ^ pv_nl V) (fun fuel i N hi hq => by
    obtain ⟨w, z1, z2, z3⟩ := hq
    have ls : t_l T N := h.same w.2.1 w.2.2.2.1
    have zi := z3 i hi
    rw [if_neg (Nat.lt_irrefl i)] at zi
    have hold := sp_own_ok (V := V) (W := V) (f := f) (set := i) hok (pv_nl V)
    have e4 : N.2.2.1 (T + 4) i = pc_n (sp_own V V f i (pv_nl V)) := by rw [z2]; exact hl i hi
    have eo : ∀ s, s ≠ i → (if s < i + 1 then f + 1 else f) = if s < i then f + 1 else f := fun s hs => by
      by_cases c : s < i
      · rw [if_pos c, if_pos (by omega)]
      · rw [if_neg c, if_neg (by omega)]
    have ei : (if i < i + 1 then f + 1 else f) = f + 1 := if_pos (by omega)
    try dsimp only
    rw [lp_X3_addFoot_19, ls.g4, z1, t4, Option.bind_some, if_neg (pn_nle hi (by omega)), ls.r3, Option.bind_some, ls.a3 (by omega), e4, Option.bind_some]
    simp only [gz_jn]
    cases e : sp_own V V f i (pv_nl V) with
    | none =>
      have lk : t_l T (gz_sI N (T + 1) i (nI (sp_tl V i none f) + nI (sp_ct V f none))) := ls.same rfl rfl
      refine ⟨gz_sI (gz_sI N (T + 1) i (nI (sp_tl V i none f) + nI (sp_ct V f none))) (T + 2) i (nI (sp_ms V i f) + nI (pv_F V (5 * f + 3))), ⟨(w.two (by unfold t_P; omega)).two (by unfold t_P; omega), ?_, ?_, fun s hs => ⟨?_, ?_, ?_⟩⟩, ?_⟩
      · rw [pv_I1 (by omega), pv_I1 (by omega)]; exact z1
      · rw [pv_I1 (by omega), pv_I1 (by omega)]; exact z2
      · rw [pv_I1 (by omega), pu_same]
        by_cases c : s = i
        · subst c; rw [if_pos rfl, ei, sp_tl_s, nI_add]; unfold sp_cost; rw [e]
        · rw [if_neg c, eo s c]; exact (z3 s hs).1
      · rw [pu_same, pv_I1 (by omega)]
        by_cases c : s = i
        · subst c; rw [if_pos rfl, ei, sp_ms_s, nI_add, e]; rfl
        · rw [if_neg c, eo s c]; exact (z3 s hs).2.1
      · rw [pv_I1 (by omega), pv_I1 (by omega)]
        by_cases c : s = i
        · subst c; rw [ei, zi.2.2, sp_ws, e]; rfl
        · rw [eo s c]; exact (z3 s hs).2.2
      · rw [if_pos pc_n0, ls.r0, Option.bind_some, ls.a0 (by omega), zi.1, Option.bind_some, ls.t0 (by omega), Option.bind_some, lk.r1, Option.bind_some, lk.a1 (by omega), pv_I1 (by omega), zi.2.1, Option.bind_some, lk.t1 (by omega), Option.bind_some, pn_1]
    | some p =>
      obtain ⟨j, x⟩ := p
      obtain ⟨a1, a2, a3, a4⟩ := hold j x e
      have lk : t_l T (gz_sI N (T + 1) i (nI (sp_tl V i none f) + nI (pv_F V (5 * f + 3)) * nI x)) := ls.same rfl rfl
      have hw := sp_ws_le (s := i) hok f
      refine ⟨gz_sI (gz_sI N (T + 1) i (nI (sp_tl V i none f) + nI (pv_F V (5 * f + 3)) * nI x)) (T + 3) i (if nI (sp_ws V i f) < nI x then nI x else nI (sp_ws V i f)), ⟨(w.two (by unfold t_P; omega)).two (by unfold t_P; omega), ?_, ?_, fun s hs => ⟨?_, ?_, ?_⟩⟩, ?_⟩
      · rw [pv_I1 (by omega), pv_I1 (by omega)]; exact z1
      · rw [pv_I1 (by omega), pv_I1 (by omega)]; exact z2
      · rw [pv_I1 (by omega), pu_same]
        by_cases c : s = i
        · subst c; rw [if_pos rfl, ei, sp_tl_s, pk_mul, nI_add]; unfold sp_cost; rw [e]; rfl
        · rw [if_neg c, eo s c]; exact (z3 s hs).1
      · rw [pv_I1 (by omega), pv_I1 (by omega)]
        by_cases c : s = i
        · subst c; rw [ei, zi.2.1, sp_ms_s, e]; rfl
        · rw [eo s c]; exact (z3 s hs).2.1
      · rw [pu_same, pv_I1 (by omega)]
        by_cases c : s = i
        · subst c
          rw [if_pos rfl, ei, sp_ws, e]
          show _ = nI (if sp_ws V s f < x then x else sp_ws V s f)
          by_cases d : sp_ws V s f < x
          · rw [if_pos d, if_pos (nI_lt d (by omega))]
          · rw [if_neg d, if_neg (nI_nlt (by omega) (by omega))]
        · rw [if_neg c, eo s c]; exact (z3 s hs).2.2
      · rw [pc_n1, if_neg (pn_mx (n := x) (by omega)).1, ls.r0, Option.bind_some, ls.a0 (by omega), zi.1, Option.bind_some, ls.t0 (by omega), Option.bind_some, lk.r2, Option.bind_some, Option.bind_some, lk.a2 (by omega), pv_I1 (by omega), zi.2.2, Option.bind_some, lk.t2 (by omega), Option.bind_some, pn_1]) (fun fuel N hq => by
    obtain ⟨w, z1, z2, z3⟩ := hq
    have ls : t_l T N := h.same w.2.1 w.2.2.2.1
    try dsimp only
    rw [lp_X3_addFoot_19, ls.g4, z1, t4, Option.bind_some, if_pos (pn_le (Nat.le_refl _) (by omega))]) (2 ^ pv_nl V) 0 M fu (by omega) (by omega) ⟨pf_f.refl, rfl, rfl, fun s hs => by rw [if_neg (Nat.not_lt_zero s)]; exact tt s hs⟩
  refine ⟨M', g4, g1, by rw [g2]; exact t4, fun s hs => ?_⟩
  have := g5 s hs
  rw [if_pos hs] at this
  exact this
theorem vc_ff {fu : Nat} (hfu : 5000 ≤ fu) {T a : Nat} {V : pv_V} {M : gz_M} (h : t_l T M) (hv : vy_c a V M) (hd : a + 5 ≤ T ∨ T + 5 ≤ a) : ∃ M', f_X3_fillFor fu M T a = some M' ∧ pf_f (t_P T) M M' ∧ tb T V (pv_nf V) M' := by
  have hok := vc_ok hv
  have o1 := hok.1
  have o2 := hok.2.1
  have h0 : t_l T (gz_sI M T 4 (nI (2 ^ pv_nl V))) := h.same rfl rfl
  have w0 : pf_f (t_P T) M (gz_sI M T 4 (nI (2 ^ pv_nl V))) := pf_f.one (by unfold t_P; omega)
  obtain ⟨M1, p1, p2, p3, p4⟩ := vc_sp hfu h0 (hv.fr w0 (fun c c1 c2 => by unfold t_P; omega)) hd pv_I9
  have w1 : pf_f (t_P T) M M1 := w0.trans p2 (fun _ q => q) (fun _ q => q)
  unfold f_X3_fillFor
  rw [h.gd, vc_nl hv, Option.bind_some, pn_shl (by omega), pu_pI (ci := 3) 4 _ h.1, Option.bind_some, p1, Option.bind_some]
  obtain ⟨M', ⟨g1, g2⟩, g4⟩ := pl_up (σ := gz_M) (fun fuel i s => lp_X3_fillFor_17 (fun M9 => some M9) fu T a fuel i s) (fun s => some s) (fun i N => pf_f (t_P T) M N ∧ tb T V i N) (pv_nf V) (fun fuel i N hi hq => by
    obtain ⟨w, z⟩ := hq
    have ls : t_l T N := h.same w.2.1 w.2.2.2.1
    have vs := hv.fr w (fun c c1 c2 => by unfold t_P; omega)
    obtain ⟨N1, n1, n2, n3⟩ := vc_fl hfu ls vs hd hi
    have w1 : pf_f (t_P T) M N1 := w.trans n2 (fun _ q => q) (fun c q => by subst q; unfold t_P; omega)
    have z1 : tb T V i N1 := ⟨by rw [n2.2.2.2.2 _ (by omega)]; exact z.1, fun s hs => by rw [n2.2.2.2.2 _ (by omega), n2.2.2.2.2 _ (by omega), n2.2.2.2.2 _ (by omega)]; exact z.2 s hs⟩
    have v1 := hv.fr w1 (fun c c1 c2 => by unfold t_P; omega)
    obtain ⟨N2, m1, m2, m3⟩ := vc_af hfu (h.same w1.2.1 w1.2.2.2.1) v1 hd hi z1 n3
    refine ⟨N2, ⟨w1.trans m2 (fun _ q => q) (fun _ q => q), m3⟩, ?_⟩
    try dsimp only
    rw [lp_X3_fillFor_17, vc_nf vs, Option.bind_some, if_neg (pn_nle hi (by omega)), n1, Option.bind_some, m1, Option.bind_some, pn_1]) (fun fuel N hq => by
    obtain ⟨w, z⟩ := hq
    have vs := hv.fr w (fun c c1 c2 => by unfold t_P; omega)
    try dsimp only
    rw [lp_X3_fillFor_17, vc_nf vs, Option.bind_some, if_pos (pn_le (Nat.le_refl _) (by omega))]) (pv_nf V) 0 M1 fu (by omega) (by omega) ⟨w1, by rw [p3]; exact pv_I9, fun s hs => ⟨(p4 s hs).1, (p4 s hs).2.1, (p4 s hs).2.2⟩⟩
  exact ⟨M', g4, g1, g2⟩
