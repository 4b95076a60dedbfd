/-! statements: the class -/
theorem pu_b2 {α β γ : Type} {x : α} {M : β} {f : α → β → Option γ} : gz_b2 (some (x, M)) f = f x M := rfl
section STC
variable {fu b n k : Nat} {T : Nat → Nat} {C : gz_M} {t : tok} {V : pv_V}
theorem vl_k {C : gz_M} (hL : iv_L b C) (hk : k < 4) : vl_c (b + 13 + 5 * k) C := by
  have e := vl_at hL (vl_mem k hk).1
  rw [← Nat.add_assoc] at e
  exact e
theorem rc_foot (hfu : 5000 ≤ fu) (hL : iv_L b C) (hC : tC b T n C) (ht : tk T n t) (hr : rC b t C) (h4 : C.2.2.1 (b + 3) 4 = -1) (hk : k < 4) (hV : pv_ok V) (hc : pv_c (b + 13 + 5 * k) V C) (hn : pv_nf V < 12) : ∃ C', f_X2_readFoot fu C (b + 3) (b + 13 + 5 * k) = some C' ∧ oC b k (pF T n V t) C C' := by
  obtain ⟨k1, k2, k3⟩ := lr_k hL
  have hT := hC.2.1
  have hn250 := hC.1
  have hv : vl_c (b + 13 + 5 * k) C := vl_k hL hk
  obtain ⟨C1, n1, n2, n3, n4⟩ := rc_next hfu hL hC ht.2.1 hr.2.2
  obtain ⟨L1, K1⟩ := rc_ns hL hC n2
  obtain ⟨kk1, -⟩ := nx_ok (T := T) (n := n) (e := t.2.2) ht.2.1 hT
  obtain ⟨x0, x1, x2, C2, C3, C4, g1, g2, g3, l0, l1, l2, w34, p3l, p3r⟩ := rc_3 hfu L1 K1 kk1 n3 (n4.trans h4) (hi := 30) (by omega)
  obtain ⟨o3l, o3r⟩ := p3_ok (hi := 30) kk1 hT
  have e1 : f_X2_number fu C1 (b + 3) (0 : Int32) (30 : Int32) = some (nI x0, C2) := g1
  have e2 : f_X2_number fu C2 (b + 3) (0 : Int32) (30 : Int32) = some (nI x1, C3) := g2
  have e3 : f_X2_number fu C3 (b + 3) (0 : Int32) (30 : Int32) = some (nI x2, C4) := g3
  have w4 : pf_f (fun c => c = b + 3) C C4 := n2.trans w34 (fun _ q => q) (fun _ q => q)
  obtain ⟨L4, K4⟩ := rc_ns hL hC w4
  have v4 : vl_c (b + 13 + 5 * k) C4 := vl_k L4 hk
  have c4 : pv_c (b + 13 + 5 * k) V C4 := hc.same (fun c q1 q2 => w4.2.2.2.2 c (by omega))
  obtain ⟨M10, a1, a2, a3, a4⟩ := vl_af fu v4 c4 hn x0 x1 x2
  have v10 : vl_c (b + 13 + 5 * k) M10 := v4.same a2.2.1 a2.2.2.2.1
  have L10 : iv_L b M10 := L4.same a2.2.1 a2.2.2.2.1
  have K10 : tC b T n M10 := K4.same (a2.2.2.2.2 _ (by omega)) (a2.2.2.2.2 _ (by omega))
  have s10 : M10.2.2.1 (b + 3) = C4.2.2.1 (b + 3) := a2.2.2.2.2 _ (by omega)
  have n10 : gz_gI M10 7 4 (b + 13 + 5 * k) = some (nI (pv_nf V + 1)) := by rw [pu_gI (ci := 7) 4 v10.1, a3.1]; rfl
  have w10 : pf_f (fun c => c = b + 3 ∨ pc_C b k c) C M10 := w4.trans a2 (fun _ q => Or.inl q) (fun c q => Or.inr (by unfold pc_C; omega))
  obtain ⟨q1, q2, q3⟩ := lr_k L10
  unfold pF
  cases h0 : p3 T n 30 (nx T n t.2.2) with
  | inl f =>
    have ff := o3l f h0
    have f10 : gz_gI M10 2 4 (b + 3) = some (nI f) := by rw [pu_gI (ci := 2) 4 q1, s10, p3l f h0]
    have ne : ¬ nI f = (-1 : Int32) := nI_n1 (by omega)
    refine ⟨M10, ?_, w10, fun f' e => ?_, fun V' t' e => (by cases e)⟩
    · unfold f_X2_readFoot
      rw [pu_gd (ci := 2) k1, pu_gI (ci := 7) 4 hv.1, hc.1, Option.bind_some, if_pos (show nI (pv_nf V) < (12 : Int32) from nI_lt (b := 12) hn (by omega)), n1, Option.bind_some, e1, pu_b2, e2, pu_b2, e3, pu_b2, a1, Option.bind_some, n10, Option.bind_some, f10, Option.bind_some, nI_pred]
      simp only [gz_jn, f10, Option.bind_some, if_neg ne]
    · cases e
      rw [s10]; exact p3l f h0
  | inr q =>
    obtain ⟨y0, y1, y2, t2⟩ := q
    obtain ⟨rfl, rfl, rfl, r4, f4⟩ := p3r _ _ _ _ h0
    obtain ⟨-, -, -, kk2, -⟩ := o3r _ _ _ _ h0
    have f10 : gz_gI M10 2 4 (b + 3) = some (-1) := by rw [pu_gI (ci := 2) 4 q1, s10, f4]
    have r10 : rC b t2 M10 := by unfold rC; rw [s10]; exact r4
    have i10 : ∀ m, m < 5 → M10.2.2.1 (b + 13 + 5 * k + 1) (5 * pv_nf V + m) = nI (pt x0 x1 x2 1 0 m) := fun m hm => by
      rw [a4, if_neg (by omega), if_pos (by omega), Nat.add_sub_cancel_left]
    have j10 : ∀ j, j < 5 * pv_nf V → M10.2.2.1 (b + 13 + 5 * k + 1) j = C.2.2.1 (b + 13 + 5 * k + 1) j := fun j hj => by
      rw [a4, if_neg (by omega), if_neg (by omega), w4.2.2.2.2 _ (by omega)]
    have m10 : ∀ j, j ≠ 4 → M10.2.2.1 (b + 13 + 5 * k) j = C.2.2.1 (b + 13 + 5 * k) j := fun j hj => by
      rw [a4, if_neg (by omega), if_neg (by omega), w4.2.2.2.2 _ (by omega)]
    have o10 : ∀ c, c = b + 13 + 5 * k + 2 ∨ c = b + 13 + 5 * k + 3 ∨ c = b + 13 + 5 * k + 4 → M10.2.2.1 c = C.2.2.1 c := fun c q => by
      funext j
      rw [a4, if_neg (by omega), if_neg (by omega), w4.2.2.2.2 _ (by omega)]
    have z10 : M10.2.2.1 (b + 13 + 5 * k) 4 = nI (pv_nf V + 1) := a3.1
    obtain ⟨po1, po1'⟩ := po_ok (w := 1) (lo := 1) (hi := 99) (d := 1) kk2 hT ⟨by omega, by omega⟩
    obtain ⟨C5, j1, w5, s5, p5, q5⟩ := rc_pF (m' := 3) (lo' := 1) (hi' := 99) hfu L10 K10 kk2 r10 (by rw [s10]; exact f4) (m := 3) (lo := 1) (hi := 99) (g := pv_nf V) (w := 1) (d := 1) rfl rfl rfl v10 (by omega) (by omega) (by omega) (by omega) (by omega) (by omega) (i10 3 (by omega))
    have L5 : iv_L b C5 := L10.same w5.2.1 w5.2.2.2.1
    have K5 : tC b T n C5 := K10.same (w5.2.2.2.2 _ (by omega)) (w5.2.2.2.2 _ (by omega))
    obtain ⟨u1, u2, u3⟩ := lr_k L5
    have v5 : vl_c (b + 13 + 5 * k) C5 := v10.same w5.2.1 w5.2.2.2.1
    have W5 : pf_f (fun c => c = b + 3 ∨ pc_C b k c) C C5 := w10.trans w5 (fun _ q => q) (fun c q => by unfold pc_C; omega)
    cases h1 : po T n 1 1 99 1 t2 with
    | inl f =>
      have ff := po1 f h1
      have f5 : gz_gI C5 2 4 (b + 3) = some (nI f) := by rw [pu_gI (ci := 2) 4 u1, p5 f h1]
      have ne : ¬ nI f = (-1 : Int32) := nI_n1 (by omega)
      refine ⟨C5, ?_, W5, fun f' e => ?_, fun V' t' e => (by simp only [h1] at e; cases e)⟩
      · unfold f_X2_readFoot
        rw [pu_gd (ci := 2) k1, pu_gI (ci := 7) 4 hv.1, hc.1, Option.bind_some, if_pos (show nI (pv_nf V) < (12 : Int32) from nI_lt (b := 12) hn (by omega)), n1, Option.bind_some, e1, pu_b2, e2, pu_b2, e3, pu_b2, a1, Option.bind_some, n10, Option.bind_some, f10, Option.bind_some, nI_pred]
        simp only [gz_jn, if_true]
        refine (j1 (fun M18 => (gz_gI M18 2 4 (b + 3)).bind fun x19 => if x19 = (-1 : Int32) then (f_X2_isWord fu M18 (b + 3) 2).bind fun x20 => if x20 = 0 then some M18 else (f_X2_next fu M18 (b + 3)).bind fun M21 => gz_b2 (f_X2_number fu M21 (b + 3) (0 : Int32) (9 : Int32)) fun x22 M23 => (f_X7_putFootPart fu M23 (b + 13 + 5 * k) (nI (pv_nf V)) (4 : Int32) x22).bind fun M24 => some M24 else some M18)).trans ?_
        try dsimp only
        rw [f5, Option.bind_some, if_neg ne]
      · simp only [h1] at e
        cases e
        exact p5 f h1
    | inr q =>
      obtain ⟨x3, t4⟩ := q
      obtain ⟨i5, r5, f5'⟩ := q5 _ _ h1
      obtain ⟨-, -, kk4, -⟩ := po1' _ _ h1
      have f5 : gz_gI C5 2 4 (b + 3) = some (-1) := by rw [pu_gI (ci := 2) 4 u1, f5']
      obtain ⟨po2, po2'⟩ := po_ok (w := 2) (lo := 0) (hi := 9) (d := 0) kk4 hT ⟨by omega, by omega⟩
      obtain ⟨C6, j2, w6, s6, p6, q6⟩ := rc_pF (m' := 4) (lo' := 0) (hi' := 9) hfu L5 K5 kk4 r5 f5' (m := 4) (lo := 0) (hi := 9) (g := pv_nf V) (w := 2) (d := 0) rfl rfl rfl v5 (by omega) (by omega) (by omega) (by omega) (by omega) (by omega) (by rw [s5 _ (by omega)]; exact i10 4 (by omega))
      have W6 : pf_f (fun c => c = b + 3 ∨ pc_C b k c) C C6 := W5.trans w6 (fun _ q => q) (fun c q => by unfold pc_C; omega)
      have run : f_X2_readFoot fu C (b + 3) (b + 13 + 5 * k) = some C6 := by
        unfold f_X2_readFoot
        rw [pu_gd (ci := 2) k1, pu_gI (ci := 7) 4 hv.1, hc.1, Option.bind_some, if_pos (show nI (pv_nf V) < (12 : Int32) from nI_lt (b := 12) hn (by omega)), n1, Option.bind_some, e1, pu_b2, e2, pu_b2, e3, pu_b2, a1, Option.bind_some, n10, Option.bind_some, f10, Option.bind_some, nI_pred]
        simp only [gz_jn, if_true]
        refine (j1 (fun M18 => (gz_gI M18 2 4 (b + 3)).bind fun x19 => if x19 = (-1 : Int32) then (f_X2_isWord fu M18 (b + 3) 2).bind fun x20 => if x20 = 0 then some M18 else (f_X2_next fu M18 (b + 3)).bind fun M21 => gz_b2 (f_X2_number fu M21 (b + 3) (0 : Int32) (9 : Int32)) fun x22 M23 => (f_X7_putFootPart fu M23 (b + 13 + 5 * k) (nI (pv_nf V)) (4 : Int32) x22).bind fun M24 => some M24 else some M18)).trans ?_
        try dsimp only
        rw [f5, Option.bind_some, if_pos rfl]
        exact j2 (fun M => some M)
      cases h2 : po T n 2 0 9 0 t4 with
      | inl f =>
        refine ⟨C6, run, W6, fun f' e => ?_, fun V' t' e => (by simp only [h1, h2] at e; cases e)⟩
        simp only [h1, h2] at e
        cases e
        exact p6 f h2
      | inr q =>
        obtain ⟨x4, t6⟩ := q
        obtain ⟨i6, r6, f6⟩ := q6 _ _ h2
        refine ⟨C6, run, W6, fun f' e => (by simp only [h1, h2] at e; cases e), fun V' t' e => ?_⟩
        simp only [h1, h2] at e
        cases e
        refine ⟨r6, f6, pvc_fF hc ?_ (fun j hj => ?_) (fun j hj => ?_) (l5 ?_ ?_ ?_ ?_ i6) (fun c q => ?_)⟩
        · rw [w6.2.2.2.2 _ (by omega), w5.2.2.2.2 _ (by omega)]; exact z10
        · rw [w6.2.2.2.2 _ (by omega), w5.2.2.2.2 _ (by omega)]; exact m10 j hj
        · rw [s6 _ (by omega), s5 _ (by omega)]; exact j10 j hj
        · rw [s6 _ (by omega), s5 _ (by omega)]; exact i10 0 (by omega)
        · rw [s6 _ (by omega), s5 _ (by omega)]; exact i10 1 (by omega)
        · rw [s6 _ (by omega), s5 _ (by omega)]; exact i10 2 (by omega)
        · rw [s6 _ (by omega)]; exact i5
        · rw [w6.2.2.2.2 _ (by omega), w5.2.2.2.2 _ (by omega)]; exact o10 c q
theorem rc_last (hfu : 5000 ≤ fu) (hL : iv_L b C) (hC : tC b T n C) (ht : tk T n t) (hr : rC b t C) (h4 : C.2.2.1 (b + 3) 4 = -1) (hk : k < 4) (hV : pv_ok V) (hc : pv_c (b + 13 + 5 * k) V C) (hn : pv_nl V < 10) : ∃ C', f_X2_readLast fu C (b + 3) (b + 13 + 5 * k) = some C' ∧ oC b k (pLa T n V t) C C' := by
  obtain ⟨k1, k2, k3⟩ := lr_k hL
  have hT := hC.2.1
  have hn250 := hC.1
  have hv : vl_c (b + 13 + 5 * k) C := vl_k hL hk
  obtain ⟨C1, n1, n2, n3, n4⟩ := rc_next hfu hL hC ht.2.1 hr.2.2
  obtain ⟨L1, K1⟩ := rc_ns hL hC n2
  obtain ⟨kk1, -⟩ := nx_ok (T := T) (n := n) (e := t.2.2) ht.2.1 hT
  obtain ⟨x0, x1, x2, C2, C3, C4, g1, g2, g3, l0, l1, l2, w34, p3l, p3r⟩ := rc_3 hfu L1 K1 kk1 n3 (n4.trans h4) (hi := 40) (by omega)
  obtain ⟨o3l, o3r⟩ := p3_ok (hi := 40) kk1 hT
  have e1 : f_X2_number fu C1 (b + 3) (0 : Int32) (40 : Int32) = some (nI x0, C2) := g1
  have e2 : f_X2_number fu C2 (b + 3) (0 : Int32) (40 : Int32) = some (nI x1, C3) := g2
  have e3 : f_X2_number fu C3 (b + 3) (0 : Int32) (40 : Int32) = some (nI x2, C4) := g3
  have w4 : pf_f (fun c => c = b + 3) C C4 := n2.trans w34 (fun _ q => q) (fun _ q => q)
  obtain ⟨L4, K4⟩ := rc_ns hL hC w4
  have v4 : vl_c (b + 13 + 5 * k) C4 := vl_k L4 hk
  have c4 : pv_c (b + 13 + 5 * k) V C4 := hc.same (fun c q1 q2 => w4.2.2.2.2 c (by omega))
  obtain ⟨M10, a1, a2, a3, a4⟩ := vl_al fu v4 c4 hn x0 x1 x2
  have v10 : vl_c (b + 13 + 5 * k) M10 := v4.same a2.2.1 a2.2.2.2.1
  have L10 : iv_L b M10 := L4.same a2.2.1 a2.2.2.2.1
  have K10 : tC b T n M10 := K4.same (a2.2.2.2.2 _ (by omega)) (a2.2.2.2.2 _ (by omega))
  have s10 : M10.2.2.1 (b + 3) = C4.2.2.1 (b + 3) := a2.2.2.2.2 _ (by omega)
  have w10 : pf_f (fun c => c = b + 3 ∨ pc_C b k c) C M10 := w4.trans a2 (fun _ q => Or.inl q) (fun c q => Or.inr (by unfold pc_C; omega))
  obtain ⟨q1, q2, q3⟩ := lr_k L10
  unfold pLa
  cases h0 : p3 T n 40 (nx T n t.2.2) with
  | inl f =>
    have ff := o3l f h0
    have f10 : gz_gI M10 2 4 (b + 3) = some (nI f) := by rw [pu_gI (ci := 2) 4 q1, s10, p3l f h0]
    have ne : ¬ nI f = (-1 : Int32) := nI_n1 (by omega)
    refine ⟨M10, ?_, w10, fun f' e => ?_, fun V' t' e => (by cases e)⟩
    · unfold f_X2_readLast
      rw [pu_gd (ci := 2) k1, pu_gI (ci := 7) 5 hv.1, hc.2.1, Option.bind_some, if_pos (show nI (pv_nl V) < (10 : Int32) from nI_lt (b := 10) hn (by omega)), n1, Option.bind_some, e1, pu_b2, e2, pu_b2, e3, pu_b2, a1, Option.bind_some, f10, Option.bind_some]
      simp only [gz_jn, if_neg ne]
    · cases e
      rw [s10]; exact p3l f h0
  | inr q =>
    obtain ⟨y0, y1, y2, t2⟩ := q
    obtain ⟨rfl, rfl, rfl, r4, f4⟩ := p3r _ _ _ _ h0
    obtain ⟨-, -, -, kk2, -⟩ := o3r _ _ _ _ h0
    have f10 : gz_gI M10 2 4 (b + 3) = some (-1) := by rw [pu_gI (ci := 2) 4 q1, s10, f4]
    have r10 : rC b t2 M10 := by unfold rC; rw [s10]; exact r4
    have i10 : ∀ m, m < 4 → M10.2.2.1 (b + 13 + 5 * k + 2) (4 * pv_nl V + m) = nI (pt x0 x1 x2 0 0 m) := fun m hm => by
      rw [a4, if_neg (by omega), if_pos (by omega), Nat.add_sub_cancel_left]
    have j10 : ∀ j, j < 4 * pv_nl V → M10.2.2.1 (b + 13 + 5 * k + 2) j = C.2.2.1 (b + 13 + 5 * k + 2) j := fun j hj => by
      rw [a4, if_neg (by omega), if_neg (by omega), w4.2.2.2.2 _ (by omega)]
    have m10 : ∀ j, j ≠ 5 → M10.2.2.1 (b + 13 + 5 * k) j = C.2.2.1 (b + 13 + 5 * k) j := fun j hj => by
      rw [a4, if_neg (by omega), if_neg (by omega), w4.2.2.2.2 _ (by omega)]
    have o10 : ∀ c, c = b + 13 + 5 * k + 1 ∨ c = b + 13 + 5 * k + 3 ∨ c = b + 13 + 5 * k + 4 → M10.2.2.1 c = C.2.2.1 c := fun c q => by
      funext j
      rw [a4, if_neg (by omega), if_neg (by omega), w4.2.2.2.2 _ (by omega)]
    have z10 : M10.2.2.1 (b + 13 + 5 * k) 5 = nI (pv_nl V + 1) := a3.2.1
    obtain ⟨C5, j1, w5, s5, p5, q5⟩ := rc_pL (hi' := 99) hfu L10 K10 kk2 r10 (by rw [s10]; exact f4) (hi := 99) (g := pv_nl V) (w := 4) (d := 0) rfl v10 (by omega) hn z10 (by omega) (by omega) (i10 3 (by omega))
    have W5 : pf_f (fun c => c = b + 3 ∨ pc_C b k c) C C5 := w10.trans w5 (fun _ q => q) (fun c q => by unfold pc_C; omega)
    have run : f_X2_readLast fu C (b + 3) (b + 13 + 5 * k) = some C5 := by
      unfold f_X2_readLast
      rw [pu_gd (ci := 2) k1, pu_gI (ci := 7) 5 hv.1, hc.2.1, Option.bind_some, if_pos (show nI (pv_nl V) < (10 : Int32) from nI_lt (b := 10) hn (by omega)), n1, Option.bind_some, e1, pu_b2, e2, pu_b2, e3, pu_b2, a1, Option.bind_some, f10, Option.bind_some]
      simp only [gz_jn, if_true]
      exact j1 (fun M => some M)
    cases h1 : po T n 4 0 99 0 t2 with
    | inl f =>
      refine ⟨C5, run, W5, fun f' e => ?_, fun V' t' e => (by simp only [h1] at e; cases e)⟩
      simp only [h1] at e
      cases e
      exact p5 f h1
    | inr q =>
      obtain ⟨x3, t4⟩ := q
      obtain ⟨i5, r5, f5⟩ := q5 _ _ h1
      refine ⟨C5, run, W5, fun f' e => (by simp only [h1] at e; cases e), fun V' t' e => ?_⟩
      simp only [h1] at e
      cases e
      refine ⟨r5, f5, pvc_fL hc ?_ (fun j hj => ?_) (fun j hj => ?_) (l4 ?_ ?_ ?_ i5) (fun c q => ?_)⟩
      · rw [w5.2.2.2.2 _ (by omega)]; exact z10
      · rw [w5.2.2.2.2 _ (by omega)]; exact m10 j hj
      · rw [s5 _ (by omega)]; exact j10 j hj
      · rw [s5 _ (by omega)]; exact i10 0 (by omega)
      · rw [s5 _ (by omega)]; exact i10 1 (by omega)
      · rw [s5 _ (by omega)]; exact i10 2 (by omega)
      · rw [w5.2.2.2.2 _ (by omega)]; exact o10 c q
theorem rc_wa (hfu : 5000 ≤ fu) (hL : iv_L b C) (hC : tC b T n C) (ht : tk T n t) (hr : rC b t C) (h4 : C.2.2.1 (b + 3) 4 = -1) (hk : k < 4) (hc : pv_c (b + 13 + 5 * k) V C) : ∃ C1 C', f_X2_next fu C (b + 3) = some C1 ∧ gz_gR C1 7 2 (b + 13 + 5 * k) = some (b + 13 + 5 * k + 3) ∧ f_X2_readMeasures fu C1 (b + 3) (b + 13 + 5 * k + 3) (9 : Int32) = some C' ∧ oC b k (pWa T n V t) C C' := by
  have hT := hC.2.1
  obtain ⟨C1, n1, n2, n3, n4⟩ := rc_next hfu hL hC ht.2.1 hr.2.2
  obtain ⟨L1, K1⟩ := rc_ns hL hC n2
  obtain ⟨kk1, -⟩ := nx_ok (T := T) (n := n) (e := t.2.2) ht.2.1 hT
  have v1 : vl_c (b + 13 + 5 * k) C1 := vl_k L1 hk
  obtain ⟨C2, g1, g2, g3, g4⟩ := rc_ms hfu L1 K1 kk1 n3 (n4.trans h4) (r := b + 13 + 5 * k + 3) (hi := 9) (by omega) v1.2.2.2.1 (by omega)
  have w2 : pf_f (fun c => c = b + 3 ∨ c = b + 13 + 5 * k + 3) C C2 := n2.trans g2 (fun _ q => Or.inl q) (fun _ q => q)
  refine ⟨C1, C2, n1, pu_gR (ci := 7) v1.1 v1.2.2.2.2.2.2.2.1, g1, w2.trans pf_f.refl (fun c q => by unfold pc_C; omega) (fun _ (q : False) => q.elim), ?_⟩
  unfold pWa
  cases h0 : p3 T n 9 (nx T n t.2.2) with
  | inl f => exact ⟨fun f' e => (by cases e; exact g3 f h0), fun V' t' e => by cases e⟩
  | inr q =>
    obtain ⟨x0, x1, x2, t2⟩ := q
    obtain ⟨z0, z1, z2, z3, z4⟩ := g4 _ _ _ _ h0
    refine ⟨fun f' e => (by cases e), fun V' t' e => ?_⟩
    cases e
    obtain ⟨h1, h2, h3, h4, h5, h6, h7, h8⟩ := hc
    refine ⟨z3, z4, ?_, ?_, ?_, ?_, l3 z0 z1 z2, fun m hm => ?_, fun j hj => ?_, fun j hj => ?_⟩
    · rw [w2.2.2.2.2 _ (by omega)]; exact h1
    · rw [w2.2.2.2.2 _ (by omega)]; exact h2
    · rw [w2.2.2.2.2 _ (by omega)]; exact h3
    · rw [w2.2.2.2.2 _ (by omega)]; exact h4
    · rw [w2.2.2.2.2 _ (by omega)]; exact h6 m hm
    · rw [w2.2.2.2.2 _ (by omega)]; exact h7 j hj
    · rw [w2.2.2.2.2 _ (by omega)]; exact h8 j hj
theorem rc_ov (hfu : 5000 ≤ fu) (hL : iv_L b C) (hC : tC b T n C) (ht : tk T n t) (hr : rC b t C) (h4 : C.2.2.1 (b + 3) 4 = -1) (hk : k < 4) (hc : pv_c (b + 13 + 5 * k) V C) : ∃ C1 C', f_X2_next fu C (b + 3) = some C1 ∧ gz_gR C1 7 3 (b + 13 + 5 * k) = some (b + 13 + 5 * k + 4) ∧ f_X2_readMeasures fu C1 (b + 3) (b + 13 + 5 * k + 4) (30 : Int32) = some C' ∧ oC b k (pOv T n V t) C C' := by
  have hT := hC.2.1
  obtain ⟨C1, n1, n2, n3, n4⟩ := rc_next hfu hL hC ht.2.1 hr.2.2
  obtain ⟨L1, K1⟩ := rc_ns hL hC n2
  obtain ⟨kk1, -⟩ := nx_ok (T := T) (n := n) (e := t.2.2) ht.2.1 hT
  have v1 : vl_c (b + 13 + 5 * k) C1 := vl_k L1 hk
  obtain ⟨C2, g1, g2, g3, g4⟩ := rc_ms hfu L1 K1 kk1 n3 (n4.trans h4) (r := b + 13 + 5 * k + 4) (hi := 30) (by omega) v1.2.2.2.2.1 (by omega)
  have w2 : pf_f (fun c => c = b + 3 ∨ c = b + 13 + 5 * k + 4) C C2 := n2.trans g2 (fun _ q => Or.inl q) (fun _ q => q)
  refine ⟨C1, C2, n1, pu_gR (ci := 7) v1.1 v1.2.2.2.2.2.2.2.2, g1, w2.trans pf_f.refl (fun c q => by unfold pc_C; omega) (fun _ (q : False) => q.elim), ?_⟩
  unfold pOv
  cases h0 : p3 T n 30 (nx T n t.2.2) with
  | inl f => exact ⟨fun f' e => (by cases e; exact g3 f h0), fun V' t' e => by cases e⟩
  | inr q =>
    obtain ⟨x0, x1, x2, t2⟩ := q
    obtain ⟨z0, z1, z2, z3, z4⟩ := g4 _ _ _ _ h0
    refine ⟨fun f' e => (by cases e), fun V' t' e => ?_⟩
    cases e
    obtain ⟨h1, h2, h3, h4, h5, h6, h7, h8⟩ := hc
    refine ⟨z3, z4, ?_, ?_, ?_, ?_, fun m hm => ?_, l3 z0 z1 z2, fun j hj => ?_, fun j hj => ?_⟩
    · rw [w2.2.2.2.2 _ (by omega)]; exact h1
    · rw [w2.2.2.2.2 _ (by omega)]; exact h2
    · rw [w2.2.2.2.2 _ (by omega)]; exact h3
    · rw [w2.2.2.2.2 _ (by omega)]; exact h4
    · rw [w2.2.2.2.2 _ (by omega)]; exact h5 m hm
    · rw [w2.2.2.2.2 _ (by omega)]; exact h7 j hj
    · rw [w2.2.2.2.2 _ (by omega)]; exact h8 j hj
theorem rc_out (hfu : 5000 ≤ fu) (hL : iv_L b C) (hC : tC b T n C) (ht : tk T n t) (hr : rC b t C) (h4 : C.2.2.1 (b + 3) 4 = -1) (hk : k < 4) (hc : pv_c (b + 13 + 5 * k) V C) : ∃ (x : Nat) (C1 C2 C' : gz_M), f_X2_next fu C (b + 3) = some C1 ∧ f_X2_number fu C1 (b + 3) (0 : Int32) (99 : Int32) = some (nI x, C2) ∧ gz_pI C2 7 6 (b + 13 + 5 * k) (nI x) = some C' ∧ oC b k (pX T n V t) C C' := by
  have hT := hC.2.1
  obtain ⟨C1, n1, n2, n3, n4⟩ := rc_next hfu hL hC ht.2.1 hr.2.2
  obtain ⟨L1, K1⟩ := rc_ns hL hC n2
  obtain ⟨kk1, -⟩ := nx_ok (T := T) (n := n) (e := t.2.2) ht.2.1 hT
  obtain ⟨x, C2, a1, -, -, a3, a4, a5⟩ := rc_n hfu L1 K1 kk1 n3 (n4.trans h4) (lo := 0) (hi := 99) (by omega) (by omega) (by omega)
  have w2 : pf_f (fun c => c = b + 3) C C2 := n2.trans a3 (fun _ q => q) (fun _ q => q)
  obtain ⟨L2, K2⟩ := rc_ns hL hC w2
  have v2 : vl_c (b + 13 + 5 * k) C2 := vl_k L2 hk
  have s3 : (gz_sI C2 (b + 13 + 5 * k) 6 (nI x)).2.2.1 (b + 3) = C2.2.2.1 (b + 3) := pv_I1 (by omega)
  refine ⟨x, C1, C2, _, n1, a1, pu_pI (ci := 7) 6 _ v2.1, (w2.trans pf_f.refl (S := fun c => c = b + 3 ∨ pc_C b k c) (fun _ q => Or.inl q) (fun _ (q : False) => q.elim)).two (by unfold pc_C; omega), ?_⟩
  unfold pX
  cases h0 : pn T n 0 99 (nx T n t.2.2) with
  | none => exact ⟨fun f' e => (by cases e; rw [s3]; exact a4 h0), fun V' t' e => by cases e⟩
  | some q =>
    obtain ⟨y, t2⟩ := q
    obtain ⟨rfl, z3, z4⟩ := a5 _ _ h0
    refine ⟨fun f' e => (by cases e), fun V' t' e => ?_⟩
    cases e
    obtain ⟨h1, h2, h3, h4, h5, h6, h7, h8⟩ := hc
    refine ⟨by unfold rC; rw [s3]; exact z3, by rw [s3]; exact z4, ?_, ?_, ?_, ?_, fun m hm => ?_, fun m hm => ?_, fun j hj => ?_, fun j hj => ?_⟩
    · rw [pv_I0 (by omega), w2.2.2.2.2 _ (by omega)]; exact h1
    · rw [pv_I0 (by omega), w2.2.2.2.2 _ (by omega)]; exact h2
    · exact pv_I9
    · rw [pv_I0 (by omega), w2.2.2.2.2 _ (by omega)]; exact h4
    · rw [pv_I1 (by omega), w2.2.2.2.2 _ (by omega)]; exact h5 m hm
    · rw [pv_I1 (by omega), w2.2.2.2.2 _ (by omega)]; exact h6 m hm
    · rw [pv_I1 (by omega), w2.2.2.2.2 _ (by omega)]; exact h7 j hj
    · rw [pv_I1 (by omega), w2.2.2.2.2 _ (by omega)]; exact h8 j hj
theorem rc_grow (hfu : 5000 ≤ fu) (hL : iv_L b C) (hC : tC b T n C) (ht : tk T n t) (hr : rC b t C) (h4 : C.2.2.1 (b + 3) 4 = -1) (hk : k < 4) (hc : pv_c (b + 13 + 5 * k) V C) : ∃ (x : Nat) (C1 C2 C' : gz_M), f_X2_next fu C (b + 3) = some C1 ∧ f_X2_number fu C1 (b + 3) (0 : Int32) (9 : Int32) = some (nI x, C2) ∧ gz_pI C2 7 7 (b + 13 + 5 * k) (nI x) = some C' ∧ oC b k (pG T n V t) C C' := by
  have hT := hC.2.1
  obtain ⟨C1, n1, n2, n3, n4⟩ := rc_next hfu hL hC ht.2.1 hr.2.2
  obtain ⟨L1, K1⟩ := rc_ns hL hC n2
  obtain ⟨kk1, -⟩ := nx_ok (T := T) (n := n) (e := t.2.2) ht.2.1 hT
  obtain ⟨x, C2, a1, -, -, a3, a4, a5⟩ := rc_n hfu L1 K1 kk1 n3 (n4.trans h4) (lo := 0) (hi := 9) (by omega) (by omega) (by omega)
  have w2 : pf_f (fun c => c = b + 3) C C2 := n2.trans a3 (fun _ q => q) (fun _ q => q)
  obtain ⟨L2, K2⟩ := rc_ns hL hC w2
  have v2 : vl_c (b + 13 + 5 * k) C2 := vl_k L2 hk
  have s3 : (gz_sI C2 (b + 13 + 5 * k) 7 (nI x)).2.2.1 (b + 3) = C2.2.2.1 (b + 3) := pv_I1 (by omega)
  refine ⟨x, C1, C2, _, n1, a1, pu_pI (ci := 7) 7 _ v2.1, (w2.trans pf_f.refl (S := fun c => c = b + 3 ∨ pc_C b k c) (fun _ q => Or.inl q) (fun _ (q : False) => q.elim)).two (by unfold pc_C; omega), ?_⟩
  unfold pG
  cases h0 : pn T n 0 9 (nx T n t.2.2) with
  | none => exact ⟨fun f' e => (by cases e; rw [s3]; exact a4 h0), fun V' t' e => by cases e⟩
  | some q =>
    obtain ⟨y, t2⟩ := q
    obtain ⟨rfl, z3, z4⟩ := a5 _ _ h0
    refine ⟨fun f' e => (by cases e), fun V' t' e => ?_⟩
    cases e
    obtain ⟨h1, h2, h3, h4, h5, h6, h7, h8⟩ := hc
    refine ⟨by unfold rC; rw [s3]; exact z3, by rw [s3]; exact z4, ?_, ?_, ?_, ?_, fun m hm => ?_, fun m hm => ?_, fun j hj => ?_, fun j hj => ?_⟩
    · rw [pv_I0 (by omega), w2.2.2.2.2 _ (by omega)]; exact h1
    · rw [pv_I0 (by omega), w2.2.2.2.2 _ (by omega)]; exact h2
    · rw [pv_I0 (by omega), w2.2.2.2.2 _ (by omega)]; exact h3
    · exact pv_I9
    · rw [pv_I1 (by omega), w2.2.2.2.2 _ (by omega)]; exact h5 m hm
    · rw [pv_I1 (by omega), w2.2.2.2.2 _ (by omega)]; exact h6 m hm
    · rw [pv_I1 (by omega), w2.2.2.2.2 _ (by omega)]; exact h7 j hj
    · rw [pv_I1 (by omega), w2.2.2.2.2 _ (by omega)]; exact h8 j hj
theorem rc_st (hfu : 5000 ≤ fu) (hL : iv_L b C) (hC : tC b T n C) (ht : tk T n t) (hr : rC b t C) (h4 : C.2.2.1 (b + 3) 4 = -1) (hk : k < 4) (hV : pv_ok V) (hc : pv_c (b + 13 + 5 * k) V C) : ∃ C', f_X2_readStatement fu C (b + 3) (b + 13 + 5 * k) = some C' ∧ oC b k (ps T n V t) C C' := by
  obtain ⟨k1, k2, k3⟩ := lr_k hL
  have wP : ∀ a, a < 18 → wd T t a → f_X2_isWord fu C (b + 3) a = some 1 := fun a ha q => (rc_wd hfu hL hC ht hr ha).1 q
  have wN : ∀ a, a < 18 → ¬ wd T t a → f_X2_isWord fu C (b + 3) a = some 0 := fun a ha q => (rc_wd hfu hL hC ht hr ha).2 q
  have hfail := rc_fail fu hL hr h4
  have ofail : oC b k (.inl t.2.1) C (gz_sI C (b + 3) 4 (nI t.2.1)) := ⟨pf_f.one (Or.inl rfl), fun f e => (by cases e; exact pv_I9), fun V' t' e => by cases e⟩
  have hv : vl_c (b + 13 + 5 * k) C := vl_k hL hk
  have o1 := hV.1
  have o2 := hV.2.1
  unfold f_X2_readStatement ps
  rw [pu_gd (ci := 2) k1]
  simp only [gz_jn]
  by_cases c0 : wd T t 0
  · rw [wP 0 (by omega) c0, Option.bind_some, pu_10]
    by_cases cn : pv_nf V < 12
    · obtain ⟨C', e1, e2⟩ := rc_foot hfu hL hC ht hr h4 hk hV hc cn
      rw [if_pos ⟨c0, cn⟩, e1, Option.bind_some]
      exact ⟨C', rfl, e2⟩
    · have e1 : f_X2_readFoot fu C (b + 3) (b + 13 + 5 * k) = some (gz_sI C (b + 3) 4 (nI t.2.1)) := by
        unfold f_X2_readFoot
        rw [pu_gd (ci := 2) k1, pu_gI (ci := 7) 4 hv.1, hc.1, Option.bind_some, if_neg (show ¬ nI (pv_nf V) < (12 : Int32) from nI_nlt (b := 12) (by omega) (by omega)), hfail, Option.bind_some]
      rw [if_neg (fun q => cn q.2), if_neg (fun q => wd_ne (by omega) (by omega) c0 (wl_ne 3 (by decide)) q.1), if_neg (wd_ne (by omega) (by omega) c0 (wl_ne 5 (by decide))), if_neg (wd_ne (by omega) (by omega) c0 (wl_ne 6 (by decide))), if_neg (wd_ne (by omega) (by omega) c0 (wl_ne 7 (by decide))), if_neg (wd_ne (by omega) (by omega) c0 (wl_ne 8 (by decide))), e1, Option.bind_some]
      exact ⟨_, rfl, ofail⟩
  · rw [wN 0 (by omega) c0, Option.bind_some, if_pos rfl, if_neg (fun q => c0 q.1)]
    by_cases c3 : wd T t 3
    · rw [wP 3 (by omega) c3, Option.bind_some, pu_10]
      by_cases cn : pv_nl V < 10
      · obtain ⟨C', e1, e2⟩ := rc_last hfu hL hC ht hr h4 hk hV hc cn
        rw [if_pos ⟨c3, cn⟩, e1, Option.bind_some]
        exact ⟨C', rfl, e2⟩
      · have e1 : f_X2_readLast fu C (b + 3) (b + 13 + 5 * k) = some (gz_sI C (b + 3) 4 (nI t.2.1)) := by
          unfold f_X2_readLast
          rw [pu_gd (ci := 2) k1, pu_gI (ci := 7) 5 hv.1, hc.2.1, Option.bind_some, if_neg (show ¬ nI (pv_nl V) < (10 : Int32) from nI_nlt (b := 10) (by omega) (by omega)), hfail, Option.bind_some]
        rw [if_neg (fun q => cn q.2), if_neg (wd_ne (by omega) (by omega) c3 (wl_ne3 5 (by decide))), if_neg (wd_ne (by omega) (by omega) c3 (wl_ne3 6 (by decide))), if_neg (wd_ne (by omega) (by omega) c3 (wl_ne3 7 (by decide))), if_neg (wd_ne (by omega) (by omega) c3 (wl_ne3 8 (by decide))), e1, Option.bind_some]
        exact ⟨_, rfl, ofail⟩
    · rw [wN 3 (by omega) c3, Option.bind_some, if_pos rfl, if_neg (fun q => c3 q.1)]
      by_cases c5 : wd T t 5
      · obtain ⟨C1, C', e1, e2, e3, e4⟩ := rc_wa hfu hL hC ht hr h4 hk hc
        rw [wP 5 (by omega) c5, Option.bind_some, pu_10, if_pos c5, e1, Option.bind_some, e2, Option.bind_some, e3, Option.bind_some]
        exact ⟨C', rfl, e4⟩
      · rw [wN 5 (by omega) c5, Option.bind_some, if_pos rfl, if_neg c5]
        by_cases c6 : wd T t 6
        · obtain ⟨C1, C', e1, e2, e3, e4⟩ := rc_ov hfu hL hC ht hr h4 hk hc
          rw [wP 6 (by omega) c6, Option.bind_some, pu_10, if_pos c6, e1, Option.bind_some, e2, Option.bind_some, e3, Option.bind_some]
          exact ⟨C', rfl, e4⟩
        · rw [wN 6 (by omega) c6, Option.bind_some, if_pos rfl, if_neg c6]
          by_cases c7 : wd T t 7
          · obtain ⟨x, C1, C2, C', e1, e2, e3, e4⟩ := rc_out hfu hL hC ht hr h4 hk hc
            rw [wP 7 (by omega) c7, Option.bind_some, pu_10, if_pos c7, e1, Option.bind_some, e2, pu_b2, e3, Option.bind_some]
            exact ⟨C', rfl, e4⟩
          · rw [wN 7 (by omega) c7, Option.bind_some, if_pos rfl, if_neg c7]
            by_cases c8 : wd T t 8
            · obtain ⟨x, C1, C2, C', e1, e2, e3, e4⟩ := rc_grow hfu hL hC ht hr h4 hk hc
              rw [wP 8 (by omega) c8, Option.bind_some, pu_10, if_pos c8, e1, Option.bind_some, e2, pu_b2, e3, Option.bind_some]
              exact ⟨C', rfl, e4⟩
            · rw [wN 8 (by omega) c8, Option.bind_some, if_pos rfl, if_neg c8, hfail, Option.bind_some]
              exact ⟨_, rfl, ofail⟩
end STC
