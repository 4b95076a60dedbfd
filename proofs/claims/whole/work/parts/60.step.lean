/-! search, step -/
theorem gc_done (fu : Nat) {b x : Nat} {V : pv_V} {M : gz_M} (hL : iv_L b M) (hc : pv_c (b + 8) V M) (hok : pv_ok V) (hx : M.2.2.1 (b + 7) 4 = nI x) (hx' : x ≤ 2 ^ pv_nl V) : f_X1_isDone fu M (b + 7) = some (if x < 2 ^ pv_nl V then 0 else 1) := by
  obtain ⟨g1, g2, g3, g4, g5⟩ := lc_g hL
  have o2 := hok.2.1
  have hp := tp_le o2
  have hs : f_X1_sets fu M (b + 7) = some (nI (2 ^ pv_nl V)) := by
    unfold f_X1_sets
    rw [pu_gd (ci := 1) g3, g4, Option.bind_some, pu_gI (ci := 7) 5 g5.1, hc.2.1, Option.bind_some, pn_shl (by omega)]
  unfold f_X1_isDone
  rw [pu_gd (ci := 1) g3, pu_gI (ci := 1) 4 g3, hx, Option.bind_some, hs, Option.bind_some]
  simp only [gz_jn]
  by_cases c : x < 2 ^ pv_nl V
  · rw [if_pos (nI_lt c (by omega)), if_pos c]; rfl
  · rw [if_neg (nI_nlt (by omega) (by omega)), if_neg c]; rfl
theorem gm_done (fu : Nat) {mo x : Nat} {V : pv_V} {M : gz_M} (hy : vy_m mo 4 V M) (hx : M.2.2.1 mo 17 = nI x) (hx' : x ≤ 2 ^ pv_nl V) : f_X10_isDone fu M mo = some (if x < 2 ^ pv_nl V then 0 else 1) := by
  have o2 := (vm_ok hy).2.1
  have hp := tp_le o2
  have h1 := Nat.one_le_two_pow (n := pv_nl V)
  have ea : f_X10_all fu M mo (4 : Int32) = some (nI (2 ^ pv_nl V) - 1) := vm_all fu hy
  unfold f_X10_isDone
  rw [vm_gd hy, pu_gI (ci := 10) 17 hy.1.1, hx, Option.bind_some, ea, Option.bind_some, pn_pow]
  simp only [gz_jn]
  by_cases c : x < 2 ^ pv_nl V
  · rw [if_pos (nI_le (by omega) (by omega)), if_pos c]; rfl
  · rw [if_neg (nI_ge (by omega) (by omega)), if_neg c]; rfl
theorem op_search (b : Nat) {fu : Nat} (hfu : 5000 ≤ fu) : gz_op_search (pi_I b) fu b (b + 110) := by
  intro M w hI
  obtain ⟨h1, h2, h3, h4, h5, h6, ⟨h7, ⟨V, hok, hc8, hg⟩⟩, h8⟩ := id hI
  obtain ⟨g1, g2, g3, g4, g5⟩ := lc_g h1
  by_cases hc : 0 ≤ w ∧ w ≤ 4
  · rcases hg with ⟨u1, u2⟩ | ⟨u1, g, n, x, v1, v2, v3, v4, v5, v6, v7, v8, v9, v10, v11⟩
    · obtain ⟨M1, M2, r1, r2, r3, hw⟩ := pu_rfw fu hI 3 (by decide) (-5) pu_k5
      have O1 := h2.same hw.2.1 hw.2.2.2.1
      have e : M1.2.2.1 (b + 110) 15 = -1 := by rw [hw.2.2.2.2 _ (by omega) (by omega)]; exact u2
      refine ⟨-5, M1, M2, ?_, ?_, r3⟩
      · simp only [f_X9_search, gz_jn, h1.g, pu_within, if_pos hc, Option.bind_some, pu_10, g1, g2, pu_gI (ci := 1) 1 g3, show M.2.2.1 (b + 7) 1 = 0 from u1, if_true, r1, gz_b2]
      · simp only [f_X10_search, gz_jn, O1.g, pn_0_4, if_pos hc, Option.bind_some, pu_10, pu_gI (ci := 10) 15 (ly_m0 O1), e, if_true, r2, gz_b2]
    · obtain ⟨w, hw, rfl⟩ := pu_num (n := 4) (by decide) hc
      have hy := vy_mm h2 (show 4 < 5 by omega) hok v10
      have d1 := gc_done fu h1 hc8 hok v8 v3
      have d2 := gm_done fu hy v9 v3
      have e1 : M.2.2.1 (b + 7) 1 = 1 := u1
      have e2 : M.2.2.1 (b + 7) 2 = nI g := v4
      have e3 : M.2.2.1 (b + 7) 3 = nI n := v6
      have e4 : M.2.2.1 (b + 7) 4 = nI x := v8
      have e5 : M.2.2.1 (b + 7) 5 = M.2.2.1 (b + 110) 18 := by
        rcases v11 with ⟨z1, z2, z3⟩ | ⟨y, t, z1, z2, z3, z4, z5, z6⟩
        · rw [z3]; exact z1
        · rw [z4]; exact z3
      have hn15 : ¬ nI g = -1 := pn_neg (by omega)
      have hw5 : w = 0 ∨ w = 1 ∨ w = 2 ∨ w = 3 ∨ w = 4 := by omega
      rcases hw5 with rfl | rfl | rfl | rfl | rfl
      · refine ⟨nI g, M, M, ?_, ?_, hI⟩
        · simp only [f_X9_search, gz_jn, h1.g, pu_within, if_pos hc, Option.bind_some, pu_10, g1, g2, pu_gI (ci := 1) 1 g3, e1, pu_gI (ci := 1) 2 g3, e2]
          rfl
        · simp only [f_X10_search, gz_jn, h2.g, pn_0_4, if_pos hc, Option.bind_some, pu_10, pu_gI (ci := 10) 15 (ly_m0 h2), v5, if_neg hn15]
          rfl
      · refine ⟨nI n, M, M, ?_, ?_, hI⟩
        · simp only [f_X9_search, gz_jn, h1.g, pu_within, if_pos hc, Option.bind_some, pu_10, g1, g2, pu_gI (ci := 1) 1 g3, e1, pu_gI (ci := 1) 3 g3, e3]
          rfl
        · simp only [f_X10_search, gz_jn, h2.g, pn_0_4, if_pos hc, Option.bind_some, pu_10, pu_gI (ci := 10) 15 (ly_m0 h2), v5, if_neg hn15, pu_gI (ci := 10) 16 (ly_m0 h2), v7]
          rfl
      · refine ⟨nI x, M, M, ?_, ?_, hI⟩
        · simp only [f_X9_search, gz_jn, h1.g, pu_within, if_pos hc, Option.bind_some, pu_10, g1, g2, pu_gI (ci := 1) 1 g3, e1, pu_gI (ci := 1) 4 g3, e4]
          rfl
        · simp only [f_X10_search, gz_jn, h2.g, pn_0_4, if_pos hc, Option.bind_some, pu_10, pu_gI (ci := 10) 15 (ly_m0 h2), v5, if_neg hn15, pu_gI (ci := 10) 17 (ly_m0 h2), v9]
          rfl
      · refine ⟨M.2.2.1 (b + 110) 18, M, M, ?_, ?_, hI⟩
        · simp only [f_X9_search, gz_jn, h1.g, pu_within, if_pos hc, Option.bind_some, pu_10, g1, g2, pu_gI (ci := 1) 1 g3, e1, pu_gI (ci := 1) 5 g3, e5]
          rfl
        · simp only [f_X10_search, gz_jn, h2.g, pn_0_4, if_pos hc, Option.bind_some, pu_10, pu_gI (ci := 10) 15 (ly_m0 h2), v5, if_neg hn15, pu_gI (ci := 10) 18 (ly_m0 h2)]
          rfl
      · refine ⟨if x < 2 ^ pv_nl V then 0 else 1, M, M, ?_, ?_, hI⟩
        · simp only [f_X9_search, gz_jn, h1.g, pu_within, if_pos hc, Option.bind_some, pu_10, g1, g2, pu_gI (ci := 1) 1 g3, e1, d1]
          by_cases c : x < 2 ^ pv_nl V
          · simp only [if_pos c]; rfl
          · simp only [if_neg c]; rfl
        · simp only [f_X10_search, gz_jn, h2.g, pn_0_4, if_pos hc, Option.bind_some, pu_10, pu_gI (ci := 10) 15 (ly_m0 h2), v5, if_neg hn15, d2]
          by_cases c : x < 2 ^ pv_nl V
          · simp only [if_pos c]; rfl
          · simp only [if_neg c]; rfl
  · obtain ⟨M1, M2, r1, r2, r3, hw⟩ := pu_rfw fu hI 0 (by decide) (-2) pu_k2
    have O1 := h2.same hw.2.1 hw.2.2.2.1
    refine ⟨-2, M1, M2, ?_, ?_, r3⟩
    · simp only [f_X9_search, gz_jn, h1.g, pu_within, if_neg hc, Option.bind_some, if_true, r1, gz_b2]
    · simp only [f_X10_search, gz_jn, O1.g, pn_0_4, if_neg hc, Option.bind_some, if_true, r2, gz_b2]
/-! the sets looked at: which is next, the best so far with its total -/
def sp_im (V : pv_V) (x : Nat) : Option (Nat × Nat) → Bool
  | none => true
  | some (_, t) => decide (sp_tot V x < t)
def gsn (V : pv_V) (n : Nat) (s : Nat × Option (Nat × Nat)) : Nat × Option (Nat × Nat) := (s.1 + 1, if sp_bc s.1 ≤ n ∧ sp_im V s.1 s.2 = true then some (s.1, sp_tot V s.1) else s.2)
def gi (V : pv_V) (n : Nat) : Nat → Nat × Option (Nat × Nat) → Nat × Option (Nat × Nat)
  | 0, s => s
  | d + 1, s => if s.1 < 2 ^ pv_nl V then gi V n d (gsn V n s) else s
def gok (V : pv_V) (s : Nat × Option (Nat × Nat)) : Prop := s.1 ≤ 2 ^ pv_nl V ∧ ∀ b t, s.2 = some (b, t) → b < 1024 ∧ t < 2 ^ 24
theorem gok.sn {V : pv_V} {n : Nat} {s : Nat × Option (Nat × Nat)} (hV : pv_ok V) (h : gok V s) (hx : s.1 < 2 ^ pv_nl V) : gok V (gsn V n s) := by
  have hp := tp_le hV.2.1
  have ht := sp_tot_lt (set := s.1) hV
  refine ⟨hx, fun b t e => ?_⟩
  unfold gsn at e
  dsimp only at e
  split at e
  · cases e; omega
  · exact h.2 b t e
theorem gok_gi {V : pv_V} {n : Nat} (hV : pv_ok V) : ∀ d s, gok V s → gok V (gi V n d s)
  | 0, s, h => h
  | d + 1, s, h => by
    rw [gi]
    split
    · rename_i hx
      exact gok_gi hV d _ (h.sn hV hx)
    · exact h
def gC (w : Nat) (s : Nat × Option (Nat × Nat)) (M : gz_M) : Prop := M.2.2.1 w 4 = nI s.1 ∧ M.2.2.1 w 5 = pc_i s.2 ∧ M.2.2.1 w 6 = pc_o (s.2.map Prod.snd)
def gM (mo : Nat) (s : Nat × Option (Nat × Nat)) (M : gz_M) : Prop := M.2.2.1 mo 17 = nI s.1 ∧ M.2.2.1 mo 18 = pc_i s.2 ∧ ∀ b t, s.2 = some (b, t) → M.2.2.1 mo 19 = nI t
theorem tq.fr {T : Nat} {V : pv_V} {M M' : gz_M} {P : Nat → Prop} (h : tq T V M) (w : pf_f P M M') (hp : ∀ c, T ≤ c → c < T + 5 → ¬ P c) : tq T V M' := ⟨h.1.same w.2.1 w.2.2.2.1, h.2.1, by rw [w.2.2.2.2 _ (hp _ (by omega) (by omega))]; exact h.2.2.1, fun s hs => by rw [w.2.2.2.2 _ (hp _ (by omega) (by omega)), w.2.2.2.2 _ (hp _ (by omega) (by omega)), w.2.2.2.2 _ (hp _ (by omega) (by omega))]; exact h.2.2.2 s hs⟩
theorem gl_C1 {fu b n kk i f : Nat} {V : pv_V} {M N : gz_M} {s : Nat × Option (Nat × Nat)} (hL : iv_L b M) (ht : tq (b + 62) V M) (hc : pv_c (b + 8) V M) (hn : M.2.2.1 (b + 7) 3 = nI n) (hn11 : n ≤ 11) (hk : kk < 2 ^ 20) (hi : i < kk) (hx : s.1 < 2 ^ pv_nl V) (hs : gok V s) (hg : gC (b + 7) s N) (w : pf_f (fun c => c = b + 7) M N) (hf : ∀ k, k < 4 → N.2.2.1 (b + 7) k = M.2.2.1 (b + 7) k) : ∃ N1, lp_X1_lookAt_2 (fun M22 => some M22) fu (b + 7) (b + 62) (nI kk) (f + 1) (nI i) N = lp_X1_lookAt_2 (fun M22 => some M22) fu (b + 7) (b + 62) (nI kk) f (nI (i + 1)) N1 ∧ gC (b + 7) (gsn V n s) N1 ∧ pf_f (fun c => c = b + 7) M N1 ∧ ∀ k, k < 4 → N1.2.2.1 (b + 7) k = M.2.2.1 (b + 7) k := by
  obtain ⟨x, o⟩ := s
  have hx : x < 2 ^ pv_nl V := hx
  have hok := ht.2.1
  have hp := tp_le hok.2.1
  have b1 := bc_le x
  have t1 := sp_tot_lt (set := x) hok
  have LN := hL.same w.2.1 w.2.2.2.1
  have tN := ht.fr w (fun c c1 c2 => by omega)
  have cN : pv_c (b + 8) V N := hc.same (fun c c1 c2 => w.2.2.2.2 c (by omega))
  have g4 : N.2.2.1 (b + 7) 4 = nI x := hg.1
  have g5 : N.2.2.1 (b + 7) 5 = pc_i o := hg.2.1
  have g6 : N.2.2.1 (b + 7) 6 = pc_o (o.map Prod.snd) := hg.2.2
  have hs2 : ∀ y t, o = some (y, t) → y < 1024 ∧ t < 2 ^ 24 := hs.2
  have k7 : N.2.1 (b + 7) = (2, 0) := (lc_g LN).2.2.1
  have d1 := gc_done fu LN cN hok g4 (show x ≤ _ by omega)
  rw [if_pos hx] at d1
  have e3 : N.2.2.1 (b + 7) 3 = nI n := (hf 3 (by omega)).trans hn
  have pI4 : ∀ (N' : gz_M) (v : Int32), N'.2.1 (b + 7) = (2, 0) → gz_pI N' 1 4 (b + 7) v = some (gz_sI N' (b + 7) 4 v) := fun N' v h => pu_pI (ci := 1) 4 v h
  have A : ∀ (N' : gz_M), N'.2.1 (b + 7) = (2, 0) → N'.2.2.1 (b + 7) 4 = nI x → ((gz_gI N' 1 4 (b + 7)).bind fun x20 => (gz_pI N' 1 4 (b + 7) (x20 + (1 : Int32))).bind fun M21 => lp_X1_lookAt_2 (fun M22 => some M22) fu (b + 7) (b + 62) (nI kk) f (nI (i + 1)) M21) = lp_X1_lookAt_2 (fun M22 => some M22) fu (b + 7) (b + 62) (nI kk) f (nI (i + 1)) (gz_sI N' (b + 7) 4 (nI (x + 1))) := fun N' h1 h2 => by
    rw [pu_gI (ci := 1) 4 h1, h2, Option.bind_some, pn_1, pI4 _ _ h1, Option.bind_some]
  obtain ⟨F, hF⟩ : ∃ F : Int32 → Option Int32, F = f_J6_bitCount_0f7a4 fu N := ⟨_, rfl⟩
  have hF2 : F (nI x) = some (nI (sp_bc x)) := by rw [hF]; exact bc_C fu N (by omega)
  rw [lp_X1_lookAt_2, if_neg (pn_nle hi (by omega)), d1, Option.bind_some, ← hF]
  simp only [if_true, pu_gI (ci := 1) 4 k7, g4, Option.bind_some, hF2, pu_gI (ci := 1) 3 k7, e3, gz_jn, pn_1, pu_gI (ci := 1) 5 k7, pu_gI (ci := 1) 6 k7, tN.1.r0, tN.tot hx]
  have stay : (gsn V n (x, o)).2 = o → ∃ N1, lp_X1_lookAt_2 (fun M22 => some M22) fu (b + 7) (b + 62) (nI kk) f (nI (i + 1)) (gz_sI N (b + 7) 4 (nI (x + 1))) = lp_X1_lookAt_2 (fun M22 => some M22) fu (b + 7) (b + 62) (nI kk) f (nI (i + 1)) N1 ∧ gC (b + 7) (gsn V n (x, o)) N1 ∧ pf_f (fun c => c = b + 7) M N1 ∧ ∀ k, k < 4 → N1.2.2.1 (b + 7) k = M.2.2.1 (b + 7) k := fun e => by
    refine ⟨_, rfl, ⟨?_, ?_, ?_⟩, w.two rfl, fun k hk => ?_⟩
    · rw [pv_I9]; rfl
    · rw [pv_I0 (by omega), e]; exact g5
    · rw [pv_I0 (by omega), e]; exact g6
    · rw [pv_I0 (by omega)]; exact hf k hk
  have take : (gsn V n (x, o)).2 = some (x, sp_tot V x) → ∃ N1, lp_X1_lookAt_2 (fun M22 => some M22) fu (b + 7) (b + 62) (nI kk) f (nI (i + 1)) (gz_sI (gz_sI (gz_sI N (b + 7) 5 (nI x)) (b + 7) 6 (nI (sp_tot V x))) (b + 7) 4 (nI (x + 1))) = lp_X1_lookAt_2 (fun M22 => some M22) fu (b + 7) (b + 62) (nI kk) f (nI (i + 1)) N1 ∧ gC (b + 7) (gsn V n (x, o)) N1 ∧ pf_f (fun c => c = b + 7) M N1 ∧ ∀ k, k < 4 → N1.2.2.1 (b + 7) k = M.2.2.1 (b + 7) k := fun e => by
    refine ⟨_, rfl, ⟨?_, ?_, ?_⟩, ((w.two rfl).two rfl).two rfl, fun k hk => ?_⟩
    · rw [pv_I9]; rfl
    · rw [pv_I0 (by omega), pv_I0 (by omega), pv_I9, e]; rfl
    · rw [pv_I0 (by omega), pv_I9, e]; rfl
    · rw [pv_I0 (by omega), pv_I0 (by omega), pv_I0 (by omega)]; exact hf k hk
  have B : ((gz_pI N 1 5 (b + 7) (nI x)).bind fun M14 => (gz_gR M14 3 0 (b + 62)).bind fun x15 => (gz_gI M14 1 4 (b + 7)).bind fun x16 => (gz_aI M14 x15 x16).bind fun x17 => (gz_pI M14 1 6 (b + 7) x17).bind fun M18 => (gz_gI M18 1 4 (b + 7)).bind fun x20 => (gz_pI M18 1 4 (b + 7) (x20 + (1 : Int32))).bind fun M21 => lp_X1_lookAt_2 (fun M22 => some M22) fu (b + 7) (b + 62) (nI kk) f (nI (i + 1)) M21) = lp_X1_lookAt_2 (fun M22 => some M22) fu (b + 7) (b + 62) (nI kk) f (nI (i + 1)) (gz_sI (gz_sI (gz_sI N (b + 7) 5 (nI x)) (b + 7) 6 (nI (sp_tot V x))) (b + 7) 4 (nI (x + 1))) := by
    have t5 : tq (b + 62) V (gz_sI N (b + 7) 5 (nI x)) := ht.fr (w.two rfl) (fun c c1 c2 => by omega)
    rw [pu_pI (ci := 1) 5 _ k7, Option.bind_some, t5.1.r0, Option.bind_some, pu_gI (ci := 1) 4 (show (gz_sI N (b + 7) 5 (nI x)).2.1 (b + 7) = (2, 0) from k7), pv_I0 (by omega), g4, Option.bind_some, t5.tot hx, Option.bind_some, pu_pI (ci := 1) 6 _ (show (gz_sI N (b + 7) 5 (nI x)).2.1 (b + 7) = (2, 0) from k7), Option.bind_some]
    exact A _ k7 (by rw [pv_I0 (by omega), pv_I0 (by omega)]; exact g4)
  by_cases c2 : sp_bc x ≤ n
  · rw [if_neg (show ¬ nI n < nI (sp_bc x) from nI_nlt c2 (by omega)), if_neg (by decide)]
    rw [show N.2.2.1 (b + 7) 5 = pc_i o from g5, show N.2.2.1 (b + 7) 6 = pc_o (o.map Prod.snd) from g6]
    cases o with
    | none =>
      rw [if_pos pc_i0, B]
      exact take (by unfold gsn; exact if_pos ⟨c2, rfl⟩)
    | some p =>
      obtain ⟨y, t⟩ := p
      obtain ⟨y1, y2⟩ := hs2 y t rfl
      rw [pc_i1, if_neg (pn_neg (n := y) (by omega)), Option.map_some, pc_some]
      by_cases c1 : sp_tot V x < t
      · rw [if_neg (nI_ge c1 (by omega)), B]
        exact take (by unfold gsn; exact if_pos ⟨c2, decide_eq_true c1⟩)
      · rw [if_pos (nI_le (by omega) (by omega)), pI4 N _ k7, Option.bind_some]
        exact stay (by unfold gsn; exact if_neg (fun q => c1 (of_decide_eq_true q.2)))
  · rw [if_pos (show nI n < nI (sp_bc x) from nI_lt (by omega) (by omega)), pI4 N _ k7, Option.bind_some]
    exact stay (by unfold gsn; exact if_neg (fun q => c2 q.1))
theorem gl_C {fu b n kk : Nat} {V : pv_V} {M : gz_M} (hL : iv_L b M) (ht : tq (b + 62) V M) (hc : pv_c (b + 8) V M) (hn : M.2.2.1 (b + 7) 3 = nI n) (hn11 : n ≤ 11) (hk : kk < 2 ^ 20) : ∀ d i s N f, i + d = kk → d < f → gok V s → gC (b + 7) s N → pf_f (fun c => c = b + 7) M N → (∀ k, k < 4 → N.2.2.1 (b + 7) k = M.2.2.1 (b + 7) k) → ∃ N', lp_X1_lookAt_2 (fun M22 => some M22) fu (b + 7) (b + 62) (nI kk) f (nI i) N = some N' ∧ gC (b + 7) (gi V n d s) N' ∧ pf_f (fun c => c = b + 7) M N' ∧ ∀ k, k < 4 → N'.2.2.1 (b + 7) k = M.2.2.1 (b + 7) k := by
  intro d
  induction d with
  | zero =>
    intro i s N f h1 h2 hs hg w hf
    obtain ⟨f, rfl⟩ : ∃ f', f = f' + 1 := ⟨f - 1, by omega⟩
    refine ⟨N, ?_, hg, w, hf⟩
    rw [lp_X1_lookAt_2, if_pos (pn_le (show kk ≤ i by omega) (by omega))]
  | succ d ih =>
    intro i s N f h1 h2 hs hg w hf
    obtain ⟨f, rfl⟩ : ∃ f', f = f' + 1 := ⟨f - 1, by omega⟩
    by_cases hx : s.1 < 2 ^ pv_nl V
    · obtain ⟨N1, a1, a2, a3, a4⟩ := gl_C1 (fu := fu) (f := f) hL ht hc hn hn11 hk (show i < kk by omega) hx hs hg w hf
      obtain ⟨N2, e1, e2, e3, e4⟩ := ih (i + 1) (gsn V n s) N1 f (by omega) (by omega) (hs.sn ht.2.1 hx) a2 a3 a4
      refine ⟨N2, a1.trans e1, ?_, e3, e4⟩
      rw [gi, if_pos hx]
      exact e2
    · refine ⟨N, ?_, ?_, w, hf⟩
      · have d1 := gc_done fu (hL.same w.2.1 w.2.2.2.1) (hc.same (fun c c1 c2 => w.2.2.2.2 c (by omega))) ht.2.1 hg.1 hs.1
        rw [if_neg hx] at d1
        rw [lp_X1_lookAt_2, if_neg (pn_nle (show i < kk by omega) (by omega)), d1, Option.bind_some, if_neg (by decide)]
      · rw [gi, if_neg hx]
        exact hg
theorem gl_M1 {fu mo n kk i f : Nat} (hfu : 5000 ≤ fu) {V : pv_V} {M N : gz_M} {s : Nat × Option (Nat × Nat)} (hy : vy_m mo 4 V M) (hn : M.2.2.1 mo 16 = nI n) (hn11 : n ≤ 11) (hk : kk < 2 ^ 20) (hi : i < kk) (hx : s.1 < 2 ^ pv_nl V) (hs : gok V s) (hg : gM mo s N) (w : pf_f (fun c => c = mo) M N) (hf : ∀ k, ¬ (17 ≤ k ∧ k ≤ 19) → N.2.2.1 mo k = M.2.2.1 mo k) (j : gz_M → Option (Int32 × gz_M)) : ∃ N1, lp_X10_step_43 j fu mo (nI kk) (f + 1) (nI i) N = lp_X10_step_43 j fu mo (nI kk) f (nI (i + 1)) N1 ∧ gM mo (gsn V n s) N1 ∧ pf_f (fun c => c = mo) M N1 ∧ ∀ k, ¬ (17 ≤ k ∧ k ≤ 19) → N1.2.2.1 mo k = M.2.2.1 mo k := by
  obtain ⟨x, o⟩ := s
  have hx : x < 2 ^ pv_nl V := hx
  have hok := vm_ok hy
  have hp := tp_le hok.2.1
  have b1 := bc_le x
  have t1 := sp_tot_lt (set := x) hok
  have yN := hy.fr w (fun c c1 c2 => by omega)
  obtain ⟨g4, g5, g6⟩ := hg
  have k7 : N.2.1 mo = (11, 0) := yN.1.1
  have d1 := gm_done fu yN g4 (show x ≤ _ by omega)
  rw [if_pos hx] at d1
  have e3 : N.2.2.1 mo 16 = nI n := (hf 16 (by omega)).trans hn
  have et : f_X10_totalOf fu N mo (4 : Int32) (nI x) (-1 : Int32) = some (nI (sp_tot V x)) := vm_tot hfu yN (by omega)
  have A : ∀ (N' : gz_M), N'.2.1 mo = (11, 0) → N'.2.2.1 mo 17 = nI x → ((gz_gI N' 10 17 mo).bind fun x20 => (gz_pI N' 10 17 mo (x20 + (1 : Int32))).bind fun M21 => lp_X10_step_43 j fu mo (nI kk) f (nI (i + 1)) M21) = lp_X10_step_43 j fu mo (nI kk) f (nI (i + 1)) (gz_sI N' mo 17 (nI (x + 1))) := fun N' h1 h2 => by
    rw [pu_gI (ci := 10) 17 h1, h2, Option.bind_some, pn_1, pu_pI (ci := 10) 17 _ h1, Option.bind_some]
  rw [lp_X10_step_43, if_neg (pn_nle hi (by omega)), d1, Option.bind_some]
  simp only [if_true, pu_gI (ci := 10) 17 k7, show N.2.2.1 mo 17 = nI x from g4, Option.bind_some, bc_M hfu N (show x < 2 ^ 20 by omega), pu_gI (ci := 10) 16 k7, e3, gz_jn, pn_1, pu_gI (ci := 10) 18 k7, pu_gI (ci := 10) 19 k7, et]
  have stay : (gsn V n (x, o)).2 = o → ∃ N1, lp_X10_step_43 j fu mo (nI kk) f (nI (i + 1)) (gz_sI N mo 17 (nI (x + 1))) = lp_X10_step_43 j fu mo (nI kk) f (nI (i + 1)) N1 ∧ gM mo (gsn V n (x, o)) N1 ∧ pf_f (fun c => c = mo) M N1 ∧ ∀ k, ¬ (17 ≤ k ∧ k ≤ 19) → N1.2.2.1 mo k = M.2.2.1 mo k := fun e => by
    refine ⟨_, rfl, ⟨?_, ?_, fun y t q => ?_⟩, w.two rfl, fun k hk => ?_⟩
    · rw [pv_I9]; rfl
    · rw [pv_I0 (by omega), e]; exact g5
    · rw [pv_I0 (by omega)]; rw [e] at q; exact g6 y t q
    · rw [pv_I0 (by omega)]; exact hf k hk
  have take : (gsn V n (x, o)).2 = some (x, sp_tot V x) → ∃ N1, lp_X10_step_43 j fu mo (nI kk) f (nI (i + 1)) (gz_sI (gz_sI (gz_sI N mo 18 (nI x)) mo 19 (nI (sp_tot V x))) mo 17 (nI (x + 1))) = lp_X10_step_43 j fu mo (nI kk) f (nI (i + 1)) N1 ∧ gM mo (gsn V n (x, o)) N1 ∧ pf_f (fun c => c = mo) M N1 ∧ ∀ k, ¬ (17 ≤ k ∧ k ≤ 19) → N1.2.2.1 mo k = M.2.2.1 mo k := fun e => by
    refine ⟨_, rfl, ⟨?_, ?_, fun y t q => ?_⟩, ((w.two rfl).two rfl).two rfl, fun k hk => ?_⟩
    · rw [pv_I9]; rfl
    · rw [pv_I0 (by omega), pv_I0 (by omega), pv_I9, e]; rfl
    · rw [pv_I0 (by omega), pv_I9]; rw [e] at q; cases q; rfl
    · rw [pv_I0 (by omega), pv_I0 (by omega), pv_I0 (by omega)]; exact hf k hk
  have B : ((gz_pI N 10 18 mo (nI x)).bind fun M17 => (gz_pI M17 10 19 mo (nI (sp_tot V x))).bind fun M18 => (gz_gI M18 10 17 mo).bind fun x20 => (gz_pI M18 10 17 mo (x20 + (1 : Int32))).bind fun M21 => lp_X10_step_43 j fu mo (nI kk) f (nI (i + 1)) M21) = lp_X10_step_43 j fu mo (nI kk) f (nI (i + 1)) (gz_sI (gz_sI (gz_sI N mo 18 (nI x)) mo 19 (nI (sp_tot V x))) mo 17 (nI (x + 1))) := by
    rw [pu_pI (ci := 10) 18 _ k7, Option.bind_some, pu_pI (ci := 10) 19 _ (show (gz_sI N mo 18 (nI x)).2.1 mo = (11, 0) from k7), Option.bind_some]
    exact A _ k7 (by rw [pv_I0 (by omega), pv_I0 (by omega)]; exact g4)
  by_cases c2 : sp_bc x ≤ n
  · rw [if_neg (show ¬ nI n < nI (sp_bc x) from nI_nlt c2 (by omega))]
    rw [show N.2.2.1 mo 18 = pc_i o from g5]
    cases o with
    | none =>
      rw [if_pos pc_i0, B]
      exact take (by unfold gsn; exact if_pos ⟨c2, rfl⟩)
    | some p =>
      obtain ⟨y, t⟩ := p
      obtain ⟨y1, y2⟩ := hs.2 y t rfl
      rw [pc_i1, if_neg (pn_neg (n := y) (by omega)), g6 y t rfl]
      by_cases c1 : sp_tot V x < t
      · rw [if_neg (nI_ge c1 (by omega)), B]
        exact take (by unfold gsn; exact if_pos ⟨c2, decide_eq_true c1⟩)
      · rw [if_pos (nI_le (by omega) (by omega)), pu_pI (ci := 10) 17 _ k7, Option.bind_some]
        exact stay (by unfold gsn; exact if_neg (fun q => c1 (of_decide_eq_true q.2)))
  · rw [if_pos (show nI n < nI (sp_bc x) from nI_lt (by omega) (by omega)), pu_pI (ci := 10) 17 _ k7, Option.bind_some]
    exact stay (by unfold gsn; exact if_neg (fun q => c2 q.1))
theorem gl_M {fu mo n kk : Nat} (hfu : 5000 ≤ fu) {V : pv_V} {M : gz_M} (hy : vy_m mo 4 V M) (hn : M.2.2.1 mo 16 = nI n) (hn11 : n ≤ 11) (hk : kk < 2 ^ 20) (j : gz_M → Option (Int32 × gz_M)) : ∀ d i s N f, i + d = kk → d < f → gok V s → gM mo s N → pf_f (fun c => c = mo) M N → (∀ k, ¬ (17 ≤ k ∧ k ≤ 19) → N.2.2.1 mo k = M.2.2.1 mo k) → ∃ N', lp_X10_step_43 j fu mo (nI kk) f (nI i) N = j N' ∧ gM mo (gi V n d s) N' ∧ pf_f (fun c => c = mo) M N' ∧ ∀ k, ¬ (17 ≤ k ∧ k ≤ 19) → N'.2.2.1 mo k = M.2.2.1 mo k := by
  intro d
  induction d with
  | zero =>
    intro i s N f h1 h2 hs hg w hf
    obtain ⟨f, rfl⟩ : ∃ f', f = f' + 1 := ⟨f - 1, by omega⟩
    refine ⟨N, ?_, hg, w, hf⟩
    rw [lp_X10_step_43, if_pos (pn_le (show kk ≤ i by omega) (by omega))]
  | succ d ih =>
    intro i s N f h1 h2 hs hg w hf
    obtain ⟨f, rfl⟩ : ∃ f', f = f' + 1 := ⟨f - 1, by omega⟩
    by_cases hx : s.1 < 2 ^ pv_nl V
    · obtain ⟨N1, a1, a2, a3, a4⟩ := gl_M1 (f := f) hfu hy hn hn11 hk (show i < kk by omega) hx hs hg w hf j
      obtain ⟨N2, e1, e2, e3, e4⟩ := ih (i + 1) (gsn V n s) N1 f (by omega) (by omega) (hs.sn (vm_ok hy) hx) a2 a3 a4
      refine ⟨N2, a1.trans e1, ?_, e3, e4⟩
      rw [gi, if_pos hx]
      exact e2
    · refine ⟨N, ?_, ?_, w, hf⟩
      · have d1 := gm_done fu (hy.fr w (fun c c1 c2 => by omega)) hg.1 hs.1
        rw [if_neg hx] at d1
        rw [lp_X10_step_43, if_neg (pn_nle (show i < kk by omega) (by omega)), d1, Option.bind_some, if_neg (by decide)]
      · rw [gi, if_neg hx]
        exact hg
theorem op_step (b : Nat) {fu : Nat} (hfu : 5000 ≤ fu) : gz_op_step (pi_I b) fu b (b + 110) := by
  intro M kk hI
  obtain ⟨h1, h2, h3, h4, h5, h6, ⟨h7, ⟨V, hok, hc8, hg⟩⟩, h8⟩ := id hI
  obtain ⟨g1, g2, g3, g4, g5⟩ := lc_g h1
  by_cases hc : 1 ≤ kk ∧ kk ≤ 999
  · rcases hg with ⟨u1, u2⟩ | ⟨u1, g, n, x, v1, v2, v3, v4, v5, v6, v7, v8, v9, v10, v11⟩
    · obtain ⟨M1, M2, r1, r2, r3, hw⟩ := pu_rfw fu hI 3 (by decide) (-5) pu_k5
      have O1 := h2.same hw.2.1 hw.2.2.2.1
      have e : M1.2.2.1 (b + 110) 15 = -1 := by rw [hw.2.2.2.2 _ (by omega) (by omega)]; exact u2
      refine ⟨-5, M1, M2, ?_, ?_, r3⟩
      · simp only [f_X9_step, gz_jn, h1.g, pu_within, if_pos hc, Option.bind_some, pu_10, g1, g2, pu_gI (ci := 1) 1 g3, show M.2.2.1 (b + 7) 1 = 0 from u1, if_true, r1, gz_b2]
      · simp only [f_X10_step, gz_jn, O1.g, pn_1_999, if_pos hc, Option.bind_some, pu_10, pu_gI (ci := 10) 15 (ly_m0 O1), e, if_true, r2, gz_b2]
    · have e1 : M.2.2.1 (b + 7) 1 = 1 := u1
      have hy := vy_mm h2 (show 4 < 5 by omega) hok v10
      have d1 := gc_done fu h1 hc8 hok v8 v3
      have hn15 : ¬ nI g = -1 := pn_neg (by omega)
      have hp := tp_le hok.2.1
      by_cases hx : x < 2 ^ pv_nl V
      · rw [if_pos hx] at d1
        obtain ⟨kk, hkk, rfl⟩ := pu_num (a := kk) (n := 999) (by decide) ⟨Int32.le_trans (by decide) hc.1, hc.2⟩
        obtain ⟨M7, q1, w7, q2⟩ := vc_ff hfu (t_mk h1) (vy_snap h1 hok hc8) (by omega)
        have w7' := pf_tw w7
        have i7 := hI.scratch w7' (w7.2.2.2.2 _ (by unfold t_P; omega))
        have L7 := h1.same w7.2.1 w7.2.2.2.1
        have O7 := h2.same w7.2.1 w7.2.2.2.1
        have t7 : tq (b + 62) V M7 := ⟨t_mk L7, hok, q2⟩
        have r7 : ∀ c, c < b + 61 → M7.2.2.1 c = M.2.2.1 c := fun c z => w7.2.2.2.2 c (by unfold t_P; omega)
        have r7' : ∀ c, b + 110 ≤ c → c < b + 147 → M7.2.2.1 c = M.2.2.1 c := fun c z1 z2 => w7.2.2.2.2 c (by unfold t_P; omega)
        have c7 : pv_c (b + 8) V M7 := hc8.same (fun c z1 z2 => r7 c (by omega))
        obtain ⟨o, hs, hC, hM⟩ : ∃ o, gok V (x, o) ∧ gC (b + 7) (x, o) M7 ∧ gM (b + 110) (x, o) M7 := by
          rcases v11 with ⟨z1, z2, z3⟩ | ⟨y, t, z1, z2, z3, z4, z5, z6⟩
          · refine ⟨none, ⟨v3, fun b t e => by cases e⟩, ⟨?_, ?_, ?_⟩, ⟨?_, ?_, fun b t e => by cases e⟩⟩
            · rw [r7 _ (by omega)]; exact v8
            · rw [r7 _ (by omega)]; exact z1
            · rw [r7 _ (by omega)]; exact z2
            · rw [r7' _ (by omega) (by omega)]; exact v9
            · rw [r7' _ (by omega) (by omega)]; exact z3
          · refine ⟨some (y, t), ⟨v3, fun b t e => by cases e; exact ⟨z1, z2⟩⟩, ⟨?_, ?_, ?_⟩, ⟨?_, ?_, fun b t e => ?_⟩⟩
            · rw [r7 _ (by omega)]; exact v8
            · rw [r7 _ (by omega)]; exact z3
            · rw [r7 _ (by omega)]; exact z5
            · rw [r7' _ (by omega) (by omega)]; exact v9
            · rw [r7' _ (by omega) (by omega)]; exact z4
            · rw [r7' _ (by omega) (by omega)]; cases e; exact z6
        obtain ⟨M8, p1, p2, p3, p4⟩ := gl_C (fu := fu) (n := n) (kk := kk) L7 t7 c7 (by rw [r7 _ (by omega)]; exact v6) (by omega) (by omega) kk 0 (x, o) M7 fu (by omega) (by omega) hs hC pf_f.refl (fun k _ => rfl)
        have L8 := L7.same p3.2.1 p3.2.2.2.1
        have O8 := O7.same p3.2.1 p3.2.2.2.1
        have r8 : ∀ c, c ≠ b + 7 → M8.2.2.1 c = M7.2.2.1 c := fun c z => p3.2.2.2.2 c z
        have y8 : vy_m (b + 110) 4 V M8 := vy_mm O8 (by omega) hok (v10.same (by rw [r8 _ (by omega), r7' _ (by omega) (by omega)]) (by rw [r8 _ (by omega), r7' _ (by omega) (by omega)]) (by rw [r8 _ (by omega), r7' _ (by omega) (by omega)]))
        have m8 : ∀ j, M8.2.2.1 (b + 110) j = M.2.2.1 (b + 110) j := fun j => by rw [r8 _ (by omega), r7' _ (by omega) (by omega)]
        obtain ⟨M9, s1, s2, s3, s4⟩ := gl_M hfu y8 (n := n) (kk := kk) ((m8 16).trans v7) (by omega) (by omega) (fun (M22 : gz_M) => (gz_gI M22 10 18 (b + 110)).bind fun x23 => if x23 = (-1 : Int32) then some ((-1 : Int32), M22) else (gz_gI M22 10 19 (b + 110)).bind fun x24 => some (x24, M22)) kk 0 (x, o) M8 fu (by omega) (by omega) hs ⟨by rw [r8 _ (by omega)]; exact hM.1, by rw [r8 _ (by omega)]; exact hM.2.1, fun b' t e => by rw [r8 _ (by omega)]; exact hM.2.2 b' t e⟩ pf_f.refl (fun k _ => rfl)
        have O9 := O8.same s3.2.1 s3.2.2.2.1
        have hgo := gok_gi (n := n) hok kk (x, o) hs
        have d2 := gm_done fu y8 ((m8 17).trans v9) v3
        rw [if_pos hx] at d2
        obtain ⟨f1, f2, f3, f4, f5⟩ := lc_g L7
        obtain ⟨e81, e82, e83, e84, e85⟩ := lc_g L8
        have hlook : f_X1_lookAt fu M7 (b + 7) (b + 62) (nI kk) = some M8 := by unfold f_X1_lookAt; rw [pu_gd (ci := 1) f3]; exact p1
        generalize hgv : gi V n kk (x, o) = S at p2 s2 hgo
        obtain ⟨x', o'⟩ := S
        obtain ⟨a1, a2, a3⟩ := p2
        obtain ⟨b1, b2, b3⟩ := s2
        refine ⟨pc_o (o'.map Prod.snd), M8, M9, ?_, ?_, ?_⟩
        · simp only [f_X9_step, gz_jn, h1.g, pu_within, if_pos hc, Option.bind_some, pu_10, g1, g2, g4, pu_gI (ci := 1) 1 g3, e1, d1, if_true, lc_R h1 7 62 (by decide), q1, f1, f2, lc_R L7 7 62 (by decide), hlook, e81, e82, pu_gI (ci := 1) 6 e83, a3]
        · have hend : (gz_gI M9 10 18 (b + 110)).bind (fun x23 => if x23 = (-1 : Int32) then some ((-1 : Int32), M9) else (gz_gI M9 10 19 (b + 110)).bind fun x24 => some (x24, M9)) = some (pc_o (o'.map Prod.snd), M9) := by
            rw [pu_gI (ci := 10) 18 (ly_m0 O9), b2, Option.bind_some]
            cases o' with
            | none => rw [if_pos pc_i0]; rfl
            | some p =>
              obtain ⟨y, t⟩ := p
              obtain ⟨z1, z2⟩ := hgo.2 y t rfl
              have z1 : y < 1024 := z1
              rw [pc_i1, if_neg (pn_neg (n := y) (by omega)), pu_gI (ci := 10) 19 (ly_m0 O9), b3 y t rfl, Option.bind_some]
              rfl
          simp only [f_X10_step, gz_jn, O8.g, pn_1_999, if_pos hc, Option.bind_some, pu_10, pu_gI (ci := 10) 15 (ly_m0 O8), m8 15, v5, if_neg hn15, d2, if_true]
          exact s1.trans hend
        · refine i7.going (p3.trans s3 (fun c z => by unfold pc_G; omega) (fun c z => by unfold pc_G; omega)) (fun j hj => ?_) ⟨V, hok, c7.same (fun c z1 z2 => ?_), Or.inr ⟨?_, g, n, x', v1, v2, hgo.1, ?_, ?_, ?_, ?_, ?_, b1, ?_, ?_⟩⟩
          · rw [s4 j (by omega), r8 _ (by omega)]
          · rw [s3.2.2.2.2 _ (by omega), r8 _ (by omega)]
          · rw [s3.2.2.2.2 _ (by omega), p4 1 (by omega), r7 _ (by omega)]; exact e1
          · rw [s3.2.2.2.2 _ (by omega), p4 2 (by omega), r7 _ (by omega)]; exact v4
          · rw [s4 15 (by omega), m8]; exact v5
          · rw [s3.2.2.2.2 _ (by omega), p4 3 (by omega), r7 _ (by omega)]; exact v6
          · rw [s4 16 (by omega), m8]; exact v7
          · rw [s3.2.2.2.2 _ (by omega)]; exact a1
          · exact y8.2.2.2.same (s3.2.2.2.2 _ (by omega)) (s3.2.2.2.2 _ (by omega)) (s3.2.2.2.2 _ (by omega))
          · rw [s3.2.2.2.2 (b + 5 + 2) (by omega)]
            cases o' with
            | none => exact Or.inl ⟨a2, a3, b2⟩
            | some p =>
              obtain ⟨y, t⟩ := p
              obtain ⟨z1, z2⟩ := hgo.2 y t rfl
              exact Or.inr ⟨y, t, z1, z2, a2, b2, a3, b3 y t rfl⟩
      · rw [if_neg hx] at d1
        obtain ⟨M1, M2, r1, r2, r3, hw⟩ := pu_rfw fu hI 3 (by decide) (-5) pu_k5
        have O1 := h2.same hw.2.1 hw.2.2.2.1
        have m1 : ∀ c, b + 110 ≤ c → c < b + 147 → M1.2.2.1 c = M.2.2.1 c := fun c z1 z2 => hw.2.2.2.2 _ (by omega) (by omega)
        have y1 : vy_m (b + 110) 4 V M1 := vy_mm O1 (by omega) hok (v10.same (m1 _ (by omega) (by omega)) (m1 _ (by omega) (by omega)) (m1 _ (by omega) (by omega)))
        have d2 := gm_done fu y1 (show M1.2.2.1 (b + 110) 17 = nI x by rw [m1 _ (by omega) (by omega)]; exact v9) v3
        rw [if_neg hx] at d2
        refine ⟨-5, M1, M2, ?_, ?_, r3⟩
        · simp only [f_X9_step, gz_jn, h1.g, pu_within, if_pos hc, Option.bind_some, pu_10, g1, g2, pu_gI (ci := 1) 1 g3, e1, d1, r1, gz_b2]
        · simp only [f_X10_step, gz_jn, O1.g, pn_1_999, if_pos hc, Option.bind_some, pu_10, pu_gI (ci := 10) 15 (ly_m0 O1), show M1.2.2.1 (b + 110) 15 = nI g by rw [m1 _ (by omega) (by omega)]; exact v5, if_neg hn15, d2, r2, gz_b2]
  · obtain ⟨M1, M2, r1, r2, r3, hw⟩ := pu_rfw fu hI 0 (by decide) (-2) pu_k2
    have O1 := h2.same hw.2.1 hw.2.2.2.1
    refine ⟨-2, M1, M2, ?_, ?_, r3⟩
    · simp only [f_X9_step, gz_jn, h1.g, pu_within, if_neg hc, Option.bind_some, if_true, r1, gz_b2]
    · simp only [f_X10_step, gz_jn, O1.g, pn_1_999, if_neg hc, Option.bind_some, if_true, r2, gz_b2]
