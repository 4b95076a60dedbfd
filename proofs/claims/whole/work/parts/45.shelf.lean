/-! a shelf -/
def sq (b s : Nat) (M : gz_M) : Prop := iv_L b M ∧ iv_O (b + 110) M ∧ s < 8 ∧ ∀ j, j < 40 → M.2.2.2.1 (b + 95 + 2 * s) j = M.2.2.2.1 (b + 115 + s) j
def sF (b s : Nat) (M : gz_M) : Prop := sq b s M ∧ M.2.2.1 (b + 94 + 2 * s) 1 = -1 ∧ M.2.2.1 (b + 111) s = 0
def sR (b s t n : Nat) (M : gz_M) : Prop := sq b s M ∧ t ≤ 4 ∧ n ≤ 40 ∧ M.2.2.1 (b + 94 + 2 * s) 1 = nI t ∧ M.2.2.1 (b + 94 + 2 * s) 2 = nI n ∧ M.2.2.1 (b + 111) s = 1 ∧ M.2.2.1 (b + 112) s = nI t ∧ M.2.2.1 (b + 113) s = nI n
def sT (b s t l a : Nat) (M : gz_M) : Prop := sq b s M ∧ 1 ≤ t ∧ t ≤ 5 ∧ l ≤ 9 ∧ a ≤ 30 ∧ M.2.2.1 (b + 94 + 2 * s) 1 = nI (10 + t) ∧ M.2.2.1 (b + 94 + 2 * s) 3 = nI l ∧ M.2.2.1 (b + 94 + 2 * s) 4 = nI a ∧ M.2.2.1 (b + 111) s = 2 ∧ M.2.2.1 (b + 124) s = nI t ∧ M.2.2.1 (b + 125) s = nI l ∧ M.2.2.1 (b + 126) s = nI a
theorem pg_sh {b : Nat} {M : gz_M} (h : pi_I b M) {s : Nat} (hs : s < 8) : sF b s M ∨ (∃ t n, sR b s t n M) ∨ ∃ t l a, sT b s t l a M := by
  obtain ⟨h1, h2, h3, h4, h5, h6, h7, h8⟩ := h
  obtain ⟨q0, hsh⟩ := h6 s hs
  rcases hsh with ⟨q1, q2⟩ | ⟨t, n, q⟩ | ⟨t, l, a, q⟩
  · exact Or.inl ⟨⟨h1, h2, hs, q0⟩, q1, q2⟩
  · exact Or.inr (Or.inl ⟨t, n, ⟨h1, h2, hs, q0⟩, q⟩)
  · exact Or.inr (Or.inr ⟨t, l, a, ⟨h1, h2, hs, q0⟩, q⟩)
theorem sq.same {b s : Nat} {M M' : gz_M} (h : sq b s M) (w : pf_w b M M') : sq b s M' := by
  obtain ⟨h1, h2, h3, h4⟩ := h
  obtain ⟨w1, w2, w3, w4, w5⟩ := w
  exact ⟨h1.same w2 w4, h2.same w2 w4, h3, fun j hj => by rw [w3]; exact h4 j hj⟩
theorem sF.same {b s : Nat} {M M' : gz_M} (h : sF b s M) (w : pf_w b M M') : sF b s M' := by
  have h0 := h.1.2.2.1
  unfold sF
  rw [w.2.2.2.2 (b + 94 + 2 * s) (by omega) (by omega), w.2.2.2.2 (b + 111) (by omega) (by omega)]
  exact ⟨h.1.same w, h.2⟩
theorem sR.same {b s t n : Nat} {M M' : gz_M} (h : sR b s t n M) (w : pf_w b M M') : sR b s t n M' := by
  have h0 := h.1.2.2.1
  unfold sR
  rw [w.2.2.2.2 (b + 94 + 2 * s) (by omega) (by omega), w.2.2.2.2 (b + 111) (by omega) (by omega), w.2.2.2.2 (b + 112) (by omega) (by omega), w.2.2.2.2 (b + 113) (by omega) (by omega)]
  exact ⟨h.1.same w, h.2⟩
theorem sT.same {b s t l a : Nat} {M M' : gz_M} (h : sT b s t l a M) (w : pf_w b M M') : sT b s t l a M' := by
  have h0 := h.1.2.2.1
  unfold sT
  rw [w.2.2.2.2 (b + 94 + 2 * s) (by omega) (by omega), w.2.2.2.2 (b + 111) (by omega) (by omega), w.2.2.2.2 (b + 124) (by omega) (by omega), w.2.2.2.2 (b + 125) (by omega) (by omega), w.2.2.2.2 (b + 126) (by omega) (by omega)]
  exact ⟨h.1.same w, h.2⟩
section SH
variable {b s t n l a : Nat} {M : gz_M}
theorem sq.gC {α : Type} {o : Option α} (h : sq b s M) : gz_gd M 9 b o = o := h.1.g
theorem sq.gM {α : Type} {o : Option α} (h : sq b s M) : gz_gd M 10 (b + 110) o = o := h.2.1.g
theorem sq.p1 (h : sq b s M) : gz_gR M 9 2 b = some (b + 4) := (ly_sh h.1 h.2.2.1).1
theorem sq.p2 (h : sq b s M) : gz_aR M (b + 4) (nI s) = some (b + 94 + 2 * s) := (ly_sh h.1 h.2.2.1).2.1
theorem sq.k (h : sq b s M) : M.2.1 (b + 94 + 2 * s) = (5, 0) := (ly_sh h.1 h.2.2.1).2.2.1
theorem sq.kl (h : sq b s M) : M.2.1 (b + 95 + 2 * s) = (21, 40) := (ly_sh h.1 h.2.2.1).2.2.2.1
theorem sq.el (h : sq b s M) : gz_gR M 4 0 (b + 94 + 2 * s) = some (b + 95 + 2 * s) := pu_gR (ci := 4) h.k (ly_sh h.1 h.2.2.1).2.2.2.2
theorem sq.gd {α : Type} {o : Option α} (h : sq b s M) : gz_gd M 4 (b + 94 + 2 * s) o = o := pu_gd (ci := 4) h.k
theorem sq.g {k : Nat} (h : sq b s M) : gz_gI M 4 k (b + 94 + 2 * s) = some (M.2.2.1 (b + 94 + 2 * s) k) := pu_gI (ci := 4) k h.k
theorem sq.m0 (h : sq b s M) : gz_gR M 10 0 (b + 110) = some (b + 111) := (ly_m8 h.2.1 h.2.2.1).1
theorem sq.a0 (h : sq b s M) : gz_aI M (b + 111) (nI s) = some (M.2.2.1 (b + 111) s) := (ly_m8 h.2.1 h.2.2.1).2.1
theorem sq.m1 (h : sq b s M) : gz_gR M 10 1 (b + 110) = some (b + 112) := (ly_m8 h.2.1 h.2.2.1).2.2.1
theorem sq.a1 (h : sq b s M) : gz_aI M (b + 112) (nI s) = some (M.2.2.1 (b + 112) s) := (ly_m8 h.2.1 h.2.2.1).2.2.2.1
theorem sq.m2 (h : sq b s M) : gz_gR M 10 2 (b + 110) = some (b + 113) := (ly_m8 h.2.1 h.2.2.1).2.2.2.2.1
theorem sq.a2 (h : sq b s M) : gz_aI M (b + 113) (nI s) = some (M.2.2.1 (b + 113) s) := (ly_m8 h.2.1 h.2.2.1).2.2.2.2.2.1
theorem sq.m5 (h : sq b s M) : gz_gR M 10 5 (b + 110) = some (b + 124) := (ly_m8 h.2.1 h.2.2.1).2.2.2.2.2.2.1
theorem sq.a5 (h : sq b s M) : gz_aI M (b + 124) (nI s) = some (M.2.2.1 (b + 124) s) := (ly_m8 h.2.1 h.2.2.1).2.2.2.2.2.2.2.1
theorem sq.m6 (h : sq b s M) : gz_gR M 10 6 (b + 110) = some (b + 125) := (ly_m8 h.2.1 h.2.2.1).2.2.2.2.2.2.2.2.1
theorem sq.a6 (h : sq b s M) : gz_aI M (b + 125) (nI s) = some (M.2.2.1 (b + 125) s) := (ly_m8 h.2.1 h.2.2.1).2.2.2.2.2.2.2.2.2.1
theorem sq.m7 (h : sq b s M) : gz_gR M 10 7 (b + 110) = some (b + 126) := (ly_m8 h.2.1 h.2.2.1).2.2.2.2.2.2.2.2.2.2.1
theorem sq.a7 (h : sq b s M) : gz_aI M (b + 126) (nI s) = some (M.2.2.1 (b + 126) s) := (ly_m8 h.2.1 h.2.2.1).2.2.2.2.2.2.2.2.2.2.2
theorem sq.m3 (h : sq b s M) : gz_gR M 10 3 (b + 110) = some (b + 114) := (ly_ms h.2.1 h.2.2.1).1
theorem sq.a3 (h : sq b s M) : gz_aR M (b + 114) (nI s) = some (b + 115 + s) := (ly_ms h.2.1 h.2.2.1).2.1
theorem sq.k3 (h : sq b s M) : M.2.1 (b + 115 + s) = (21, 40) := (ly_ms h.2.1 h.2.2.1).2.2
theorem sF.rr (fu : Nat) (h : sF b s M) : f_X4_isRow fu M (b + 94 + 2 * s) = some 0 ∧ f_X4_isTool fu M (b + 94 + 2 * s) = some 0 ∧ f_X4_isFree fu M (b + 94 + 2 * s) = some 1 := (pu_kinds fu h.1.k).1 h.2.1
theorem sR.rr (fu : Nat) (h : sR b s t n M) : f_X4_isRow fu M (b + 94 + 2 * s) = some 1 ∧ f_X4_isTool fu M (b + 94 + 2 * s) = some 0 ∧ f_X4_isFree fu M (b + 94 + 2 * s) = some 0 := (pu_kinds fu h.1.k).2.1 t h.2.1 h.2.2.2.1
theorem sT.rr (fu : Nat) (h : sT b s t l a M) : f_X4_isRow fu M (b + 94 + 2 * s) = some 0 ∧ f_X4_isTool fu M (b + 94 + 2 * s) = some 1 ∧ f_X4_isFree fu M (b + 94 + 2 * s) = some 0 := (pu_kinds fu h.1.k).2.2 t h.2.1 h.2.2.1 h.2.2.2.2.2.1
theorem sF.r (fu : Nat) (h : sF b s M) : f_X4_rowRefusal fu M (b + 94 + 2 * s) = some (-4) := by
  obtain ⟨q1, q2, q3⟩ := h.rr fu
  unfold f_X4_rowRefusal
  simp only [gz_jn, h.1.gd, q2, q3, Option.bind_some, pu_10, if_true]
theorem sR.r (fu : Nat) (h : sR b s t n M) : f_X4_rowRefusal fu M (b + 94 + 2 * s) = some 0 := by
  obtain ⟨q1, q2, q3⟩ := h.rr fu
  unfold f_X4_rowRefusal
  simp only [gz_jn, h.1.gd, q2, q3, Option.bind_some, pu_10, if_true]
theorem sT.r (fu : Nat) (h : sT b s t l a M) : f_X4_rowRefusal fu M (b + 94 + 2 * s) = some (-3) := by
  obtain ⟨q1, q2, q3⟩ := h.rr fu
  unfold f_X4_rowRefusal
  simp only [gz_jn, h.1.gd, q2, q3, Option.bind_some, pu_10, if_true]
theorem sF.sh (h : sF b s M) : gz_aI M (b + 111) (nI s) = some 0 := by rw [h.1.a0, h.2.2]
theorem sR.sh (h : sR b s t n M) : gz_aI M (b + 111) (nI s) = some 1 := by rw [h.1.a0, h.2.2.2.2.2.1]
theorem sT.sh (h : sT b s t l a M) : gz_aI M (b + 111) (nI s) = some 2 := by rw [h.1.a0, h.2.2.2.2.2.2.2.2.1]
theorem sR.ct (h : sR b s t n M) : gz_gI M 4 1 (b + 94 + 2 * s) = some (nI t) := by rw [h.1.g, h.2.2.2.1]
theorem sR.sz (h : sR b s t n M) : gz_gI M 4 2 (b + 94 + 2 * s) = some (nI n) := by rw [h.1.g, h.2.2.2.2.1]
theorem sR.st (h : sR b s t n M) : gz_aI M (b + 112) (nI s) = some (nI t) := by rw [h.1.a1, h.2.2.2.2.2.2.1]
theorem sR.sn (h : sR b s t n M) : gz_aI M (b + 113) (nI s) = some (nI n) := by rw [h.1.a2, h.2.2.2.2.2.2.2]
theorem sR.eC (h : sR b s t n M) {i : Nat} (hi : i < n) : gz_aL M (b + 95 + 2 * s) (nI i) = some (M.2.2.2.1 (b + 95 + 2 * s) i) := pu_aL h.1.kl (by have := h.2.2.1; omega) (by decide)
theorem sR.eM (h : sR b s t n M) {i : Nat} (hi : i < n) : gz_aL M (b + 115 + s) (nI i) = some (M.2.2.2.1 (b + 95 + 2 * s) i) := by
  rw [pu_aL h.1.k3 (by have := h.2.2.1; omega) (by decide), h.1.2.2.2 i (by have := h.2.2.1; omega)]
theorem sT.ct (h : sT b s t l a M) : gz_gI M 4 1 (b + 94 + 2 * s) = some (nI (10 + t)) := by rw [h.1.g, h.2.2.2.2.2.1]
theorem sT.la (h : sT b s t l a M) : gz_gI M 4 3 (b + 94 + 2 * s) = some (nI l) := by rw [h.1.g, h.2.2.2.2.2.2.1]
theorem sT.ba (h : sT b s t l a M) : gz_gI M 4 4 (b + 94 + 2 * s) = some (nI a) := by rw [h.1.g, h.2.2.2.2.2.2.2.1]
theorem sT.tk (h : sT b s t l a M) : gz_aI M (b + 124) (nI s) = some (nI t) := by rw [h.1.a5, h.2.2.2.2.2.2.2.2.2.1]
theorem sT.tl (h : sT b s t l a M) : gz_aI M (b + 125) (nI s) = some (nI l) := by rw [h.1.a6, h.2.2.2.2.2.2.2.2.2.2.1]
theorem sT.ta (h : sT b s t l a M) : gz_aI M (b + 126) (nI s) = some (nI a) := by rw [h.1.a7, h.2.2.2.2.2.2.2.2.2.2.2]
end SH
/-! rows of longs written from the start -/
def pL (c : Nat) (g : Nat → Int64) (M : gz_M) (n : Nat) (M' : gz_M) : Prop := M'.1 = M.1 ∧ M'.2.1 = M.2.1 ∧ M'.2.2.1 = M.2.2.1 ∧ M'.2.2.2.2 = M.2.2.2.2 ∧ (∀ d, d ≠ c → M'.2.2.2.1 d = M.2.2.2.1 d) ∧ ∀ j, M'.2.2.2.1 c j = if j < n then g j else M.2.2.2.1 c j
theorem pL.zero {c : Nat} {g : Nat → Int64} {M : gz_M} : pL c g M 0 M := ⟨rfl, rfl, rfl, rfl, fun _ _ => rfl, fun j => (if_neg (by omega)).symm⟩
theorem pL.step {c n : Nat} {g : Nat → Int64} {M M' : gz_M} (h : pL c g M n M') : pL c g M (n + 1) (gz_sL M' c n (g n)) := by
  obtain ⟨h1, h2, h3, h4, h5, h6⟩ := h
  refine ⟨h1, h2, h3, h4, fun d hd => (pv_L2 hd).trans (h5 d hd), fun j => ?_⟩
  rw [pu_sL_at]
  by_cases e : j = n
  · subst e
    rw [if_pos ⟨rfl, rfl⟩, if_pos (by omega)]
  · rw [if_neg (fun q => e q.2), h6 j]
    by_cases q : j < n
    · rw [if_pos q, if_pos (by omega)]
    · rw [if_neg q, if_neg (by omega)]
theorem pu_fillL {fu : Nat} (hfu : 5000 ≤ fu) {c : Nat} {M : gz_M} (h : M.2.1 c = (21, 40)) (v : Int64) : ∃ M', f_J7_fill_d0a16 fu M c v = some M' ∧ pL c (fun _ => v) M 40 M' := by
  unfold f_J7_fill_d0a16
  rw [pu_ln h (by decide), Option.bind_some]
  obtain ⟨M', h1, h2⟩ := pl_up (fun fuel i s => lp_J7_fill_d0a16_6 (fun M5 => some M5) c v (nI 40) fuel i s) (fun s => some s) (pL c (fun _ => v) M) 40 (fun fuel i s hi hp => ⟨gz_sL s c i v, hp.step, by
    rw [lp_J7_fill_d0a16_6, if_neg (pn_nle hi (by omega)), pu_tL v (by rw [hp.2.1]; exact h) hi (by omega), Option.bind_some, pn_1]⟩) (fun fuel s hp => by
    rw [lp_J7_fill_d0a16_6, if_pos (pn_le (Nat.le_refl _) (by omega))]) 40 0 M fu (by omega) (by omega) pL.zero
  exact ⟨M', h2, h1⟩
theorem op_row (b : Nat) {fu : Nat} (hfu : 5000 ≤ fu) : gz_op_row (pi_I b) fu b (b + 110) := by
  intro M p0 p1 p2 hI
  obtain ⟨h1, h2, h3, h4, h5, h6, h7, h8⟩ := id hI
  by_cases hc : (0 ≤ p0 ∧ p0 ≤ 7) ∧ (0 ≤ p1 ∧ p1 ≤ 4) ∧ (0 ≤ p2 ∧ p2 ≤ 40)
  · obtain ⟨c0, c1, c2⟩ := hc
    obtain ⟨s, hs, rfl⟩ := pu_sh8 c0
    obtain ⟨t, ht, rfl⟩ := pu_num (n := 4) (by decide) c1
    obtain ⟨n, hn, rfl⟩ := pu_num (n := 40) (by decide) c2
    have hq : sq b s M := ⟨h1, h2, hs, (h6 s hs).1⟩
    generalize hMa : gz_sI (gz_sI M (b + 94 + 2 * s) 1 (nI t)) (b + 94 + 2 * s) 2 (nI n) = Ma
    have ka : Ma.2.1 = M.2.1 := by rw [← hMa]; rfl
    have ra : Ma.2.2.2.2 = M.2.2.2.2 := by rw [← hMa]; rfl
    have la : Ma.2.2.2.1 = M.2.2.2.1 := by rw [← hMa]; rfl
    have za : Ma.1 = M.1 := by rw [← hMa]; rfl
    obtain ⟨M1, e1, e2⟩ := pu_fillL hfu (M := Ma) (c := b + 95 + 2 * s) (by rw [ka]; exact hq.kl) 0
    have k1 : M1.2.1 = M.2.1 := e2.2.1.trans ka
    have r1 : M1.2.2.2.2 = M.2.2.2.2 := e2.2.2.2.1.trans ra
    have i1 : M1.2.2.1 = Ma.2.2.1 := e2.2.2.1
    have eC : f_X9_row fu M b (nI s) (nI t) (nI n) = some (1, M1) := by
      simp only [f_X9_row, gz_jn, hq.gC, pu_shelf, pu_within, Option.bind_some, pu_ii, if_pos c0, if_pos c1, if_pos c2, hq.p1, hq.p2, pu_10, f_X4_becomeRow, hq.gd, pu_pI (ci := 4) 1 (nI t) hq.k, pu_pI (ci := 4) (M := gz_sI M (b + 94 + 2 * s) 1 (nI t)) 2 (nI n) hq.k, hMa]
      have : gz_gR Ma 4 0 (b + 94 + 2 * s) = some (b + 95 + 2 * s) := pu_gR (ci := 4) (by rw [ka]; exact hq.k) (by rw [ra]; exact (ly_sh h1 hs).2.2.2.2)
      rw [this, Option.bind_some, e1]
      rfl
    have hO : iv_O (b + 110) M1 := h2.same k1 r1
    have kk : M1.2.1 (b + 111) = (20, 8) := hO.1 1 _ rfl
    have kk2 : M1.2.1 (b + 112) = (20, 8) := hO.1 2 _ rfl
    have kk3 : M1.2.1 (b + 113) = (20, 8) := hO.1 3 _ rfl
    have m3 : gz_gR M1 10 3 (b + 110) = some (b + 114) := lm_R hO 3 4 (by decide)
    generalize hMb : gz_sI (gz_sI (gz_sI M1 (b + 111) s 1) (b + 112) s (nI t)) (b + 113) s (nI n) = Mb
    have kb : Mb.2.1 = M1.2.1 := by rw [← hMb]; rfl
    have rb : Mb.2.2.2.2 = M1.2.2.2.2 := by rw [← hMb]; rfl
    have hOb : iv_O (b + 110) Mb := hO.same kb rb
    obtain ⟨M2, f1, f2⟩ := pl_up (fun fuel i st => lp_X10_row_67 (fun M15 => some ((1 : Int32), M15)) (b + 110) (nI s) fuel i st) (fun st => some ((1 : Int32), st)) (pL (b + 115 + s) (fun _ => 0) Mb) 40 (fun fuel i st hi hp => ⟨gz_sL st (b + 115 + s) i 0, hp.step, by
      have hO' : iv_O (b + 110) st := hOb.same hp.2.1 hp.2.2.2.1
      rw [lp_X10_row_67, if_neg (show ¬ (40 : Int32) ≤ nI i from pn_nle (n := 40) hi (by omega)), (ly_ms hO' hs).1, Option.bind_some, (ly_ms hO' hs).2.1, Option.bind_some, pu_tL 0 (ly_ms hO' hs).2.2 hi (by omega), Option.bind_some, pn_1]⟩) (fun fuel st hp => by
      rw [lp_X10_row_67, if_pos (show (40 : Int32) ≤ nI 40 from pn_le (n := 40) (Nat.le_refl _) (by omega))]) 40 0 Mb fu (by omega) (by omega) pL.zero
    have eM : f_X10_row fu M1 (b + 110) (nI s) (nI t) (nI n) = some (1, M2) := by
      simp only [f_X10_row, gz_jn, hO.g, pn_0_7, pn_0_4, pn_0_40, Option.bind_some, pu_ii, if_pos c0, if_pos c1, if_pos c2, pu_10, lm_R hO 0 1 (by decide), pu_tI (M := M1) (a := b + 110 + 1) (1 : Int32) kk hs (by decide)]
      have q1 : gz_gR (gz_sI M1 (b + 110 + 1) s 1) 10 1 (b + 110) = some (b + 112) := lm_R (M := gz_sI M1 (b + 110 + 1) s 1) (hO.same rfl rfl) 1 2 (by decide)
      rw [q1, Option.bind_some, pu_tI (nI t) (M := gz_sI M1 (b + 110 + 1) s 1) kk2 hs (by decide), Option.bind_some]
      have q2 : gz_gR (gz_sI (gz_sI M1 (b + 110 + 1) s 1) (b + 112) s (nI t)) 10 2 (b + 110) = some (b + 113) := lm_R (M := gz_sI (gz_sI M1 (b + 110 + 1) s 1) (b + 112) s (nI t)) (hO.same rfl rfl) 2 3 (by decide)
      rw [q2, Option.bind_some, pu_tI (nI n) (M := gz_sI (gz_sI M1 (b + 110 + 1) s 1) (b + 112) s (nI t)) kk3 hs (by decide), Option.bind_some]
      show lp_X10_row_67 _ _ _ _ _ (gz_sI (gz_sI (gz_sI M1 (b + 111) s 1) (b + 112) s (nI t)) (b + 113) s (nI n)) = _
      rw [hMb]
      exact f2
    refine ⟨1, M1, M2, eC, eM, ?_⟩
    have i2 : M2.2.2.1 = Mb.2.2.1 := f1.2.2.1
    have hIb : ∀ c j, Mb.2.2.1 c j = (gz_sI (gz_sI (gz_sI (gz_sI (gz_sI M (b + 94 + 2 * s) 1 (nI t)) (b + 94 + 2 * s) 2 (nI n)) (b + 111) s 1) (b + 112) s (nI t)) (b + 113) s (nI n)).2.2.1 c j := by
      intro c j
      rw [hMa, ← hMb]
      simp only [pu_sI_at, i1]
    refine hI.shelf (s := s) ?_ ?_ ?_ hs (fun c q1 q2 q3 q4 q5 q6 q7 => ?_) (fun c q1 q2 q3 => ?_) (fun c q j hjs => ?_) ⟨fun j hj => ?_, Or.inr (Or.inl ⟨t, n, ht, hn, ?_, ?_, ?_, ?_, ?_⟩)⟩
    · rw [f1.1, ← hMb]; show M1.1 = M.1; rw [e2.1, za]
    · rw [f1.2.1, kb, k1]
    · rw [f1.2.2.2.1, rb, r1]
    · rw [i2]
      funext j
      rw [hIb c j]
      simp [pv_I1, q1, q2, q3, q4, q5, q6, q7]
    · rw [f1.2.2.2.2.1 c q2, ← hMb]
      show M1.2.2.2.1 c = _
      rw [e2.2.2.2.2.1 c q1, la]
    · rw [i2, hIb c j]
      simp only [pu_sI_at]
      repeat rw [if_neg (by omega)]
    · rw [f1.2.2.2.2.2 j, if_pos hj, f1.2.2.2.2.1 _ (by omega), ← hMb]
      show M1.2.2.2.1 _ _ = _
      rw [e2.2.2.2.2.2 j, if_pos hj]
    all_goals (rw [i2, hIb]; repeat rw [pu_sI_at]; repeat (first | rw [if_pos ⟨rfl, rfl⟩] | rw [if_neg (by omega)]))
  · obtain ⟨M1, M2, r1, r2, r3, hw⟩ := pu_rfw fu hI 0 (by decide) (-2) pu_k2
    refine ⟨-2, M1, M2, ?_, ?_, r3⟩
    · simp only [f_X9_row, gz_jn, h1.g, pu_shelf, pu_within, Option.bind_some, pu_ii, r1, gz_b2, pu_n3 hc]
    · simp only [f_X10_row, gz_jn, (h2.same hw.2.1 hw.2.2.2.1).g, pn_0_7, pn_0_4, pn_0_40, Option.bind_some, pu_ii, r2, gz_b2, pu_n3 hc]
/-! what a row's sort makes of a long -/
theorem pu_fit (fu : Nat) (M : gz_M) (t : Int32) (v : Int64) : ∃ w, f_X10_fit fu M t v = some w := by
  unfold f_X10_fit
  simp only [gz_jn]
  repeat' split
  all_goals exact ⟨_, rfl⟩
theorem pu_put (fu : Nat) {b s t n i : Nat} {M : gz_M} (h : sR b s t n M) (hi : i < n) (v : Int64) : ∃ w, (∀ M', f_X10_fit fu M' (nI t) v = some w) ∧ f_X4_put fu M (b + 94 + 2 * s) (nI i) v = some (gz_sL M (b + 95 + 2 * s) i w) := by
  have hn := h.2.2.1
  have ht := h.2.1
  have hk : ∀ w, gz_tL M (b + 95 + 2 * s) (nI i) w = some (gz_sL M (b + 95 + 2 * s) i w) := fun w => pu_tL w h.1.kl (by omega) (by omega)
  have hcs : t = 0 ∨ t = 1 ∨ t = 2 ∨ t = 3 ∨ t = 4 := by omega
  unfold f_X4_put
  simp only [gz_jn, h.1.gd, h.ct, h.1.el, hk, Option.bind_some]
  rcases hcs with rfl | rfl | rfl | rfl | rfl
  · exact ⟨_, fun M' => rfl, rfl⟩
  · exact ⟨_, fun M' => rfl, rfl⟩
  · exact ⟨_, fun M' => rfl, rfl⟩
  · exact ⟨_, fun M' => rfl, rfl⟩
  · refine ⟨if lg_cmp v 0 = 0 then 0 else 1, fun M' => ?_, ?_⟩
    · show (if lg_cmp v 0 = 0 then some (0 : Int64) else some 1) = _
      split <;> rfl
    · show (if lg_cmp v 0 = 0 then some (gz_sL M (b + 95 + 2 * s) i 0) else some (gz_sL M (b + 95 + 2 * s) i 1)) = _
      split <;> rfl
theorem op_set (b : Nat) {fu : Nat} (hfu : 5000 ≤ fu) : gz_op_set (pi_I b) fu b (b + 110) := by
  intro M p0 p1 p2 hI
  obtain ⟨h1, h2, h3, h4, h5, h6, h7, h8⟩ := id hI
  by_cases c0 : 0 ≤ p0 ∧ p0 ≤ 7
  · obtain ⟨s, hs, rfl⟩ := pu_sh8 c0
    rcases pg_sh hI hs with hf | ⟨t, n, hr⟩ | ⟨t, l, a, ht⟩
    · obtain ⟨M1, M2, r1, r2, r3, hw⟩ := pu_rfw fu hI 2 (by decide) (-4) pu_k4
      have hf' := hf.same hw
      refine ⟨-4, M1, M2, ?_, ?_, r3⟩
      · simp only [f_X9_set, hf.1.gC, pu_shelf, if_pos c0, Option.bind_some, pu_10, hf.1.p1, hf.1.p2, hf.r fu, r1, gz_b2]
        rfl
      · simp only [f_X10_set, hf'.1.gM, pn_0_7, if_pos c0, Option.bind_some, pu_10, hf'.1.m0, hf'.sh, r2, gz_b2]
        rfl
    · have hn := hr.2.2.1
      by_cases c1 : 0 ≤ p1 ∧ p1 ≤ nI n - 1
      · obtain ⟨i, hi, rfl⟩ := (pn_lt (by omega)).mp c1
        obtain ⟨w, q1, q2⟩ := pu_put fu hr hi p2
        have hq : iv_O (b + 110) (gz_sL M (b + 95 + 2 * s) i w) := h2.same rfl rfl
        have hr' : sR b s t n M := hr
        have g0 := ly_m8 hq hs
        refine ⟨1, gz_sL M (b + 95 + 2 * s) i w, gz_sL (gz_sL M (b + 95 + 2 * s) i w) (b + 115 + s) i w, ?_, ?_, ?_⟩
        · simp only [f_X9_set, hr.1.gC, pu_shelf, if_pos c0, Option.bind_some, pu_10, hr.1.p1, hr.1.p2, hr.r fu, hr.sz, pu_within, if_pos c1, q2, if_true]
        · have a0 : (gz_sL M (b + 95 + 2 * s) i w).2.2.1 (b + 111) s = 1 := hr.2.2.2.2.2.1
          have a1 : (gz_sL M (b + 95 + 2 * s) i w).2.2.1 (b + 112) s = nI t := hr.2.2.2.2.2.2.1
          have a2 : (gz_sL M (b + 95 + 2 * s) i w).2.2.1 (b + 113) s = nI n := hr.2.2.2.2.2.2.2
          simp only [f_X10_set, hq.g, pn_0_7, if_pos c0, Option.bind_some, pu_10, g0.1, g0.2.1, a0, g0.2.2.1, g0.2.2.2.1, a1, g0.2.2.2.2.1, g0.2.2.2.2.2.1, a2, pu_inx, if_pos c1, (ly_ms hq hs).1, (ly_ms hq hs).2.1, q1, pu_tL w (ly_ms hq hs).2.2 (show i < 40 by omega) (by decide)]
          rfl
        · refine hI.shelf (s := s) rfl rfl rfl hs (fun c _ _ _ _ _ _ _ => rfl) (fun c q1 q2 q3 => ?_) (fun c q j hjs => rfl) ⟨fun j hj => ?_, (h6 s hs).2⟩
          · rw [pv_L2 q2, pv_L2 q1]
          · have := (h6 s hs).1 j hj
            rw [pu_sL_at, pu_sL_at, pu_sL_at, pu_sL_at]
            by_cases e : j = i
            · subst e
              rw [if_neg (by omega), if_pos ⟨rfl, rfl⟩, if_pos ⟨rfl, rfl⟩]
            · rw [if_neg (by omega), if_neg (by omega), if_neg (by omega), if_neg (by omega), this]
      · obtain ⟨M1, M2, r1, r2, r3, hw⟩ := pu_rfw fu hI 0 (by decide) (-2) pu_k2
        have hf' := hr.same hw
        refine ⟨-2, M1, M2, ?_, ?_, r3⟩
        · simp only [f_X9_set, hr.1.gC, pu_shelf, if_pos c0, Option.bind_some, pu_10, hr.1.p1, hr.1.p2, hr.r fu, hr.sz, pu_within, if_neg c1, if_true, r1, gz_b2]
        · simp only [f_X10_set, hf'.1.gM, pn_0_7, if_pos c0, Option.bind_some, pu_10, hf'.1.m0, hf'.sh, hf'.1.m2, hf'.sn, pu_inx, if_neg c1, r2, gz_b2, if_true]
          rfl
    · obtain ⟨M1, M2, r1, r2, r3, hw⟩ := pu_rfw fu hI 1 (by decide) (-3) pu_k3
      have hf' := ht.same hw
      refine ⟨-3, M1, M2, ?_, ?_, r3⟩
      · simp only [f_X9_set, ht.1.gC, pu_shelf, if_pos c0, Option.bind_some, pu_10, ht.1.p1, ht.1.p2, ht.r fu, r1, gz_b2]
        rfl
      · simp only [f_X10_set, hf'.1.gM, pn_0_7, if_pos c0, Option.bind_some, pu_10, hf'.1.m0, hf'.sh, r2, gz_b2, if_true]
  · obtain ⟨M1, M2, r1, r2, r3, hw⟩ := pu_rfw fu hI 0 (by decide) (-2) pu_k2
    refine ⟨-2, M1, M2, ?_, ?_, r3⟩
    · simp only [f_X9_set, gz_jn, h1.g, pu_shelf, if_neg c0, Option.bind_some, r1, gz_b2, if_true]
    · simp only [f_X10_set, gz_jn, (h2.same hw.2.1 hw.2.2.2.1).g, pn_0_7, if_neg c0, Option.bind_some, r2, gz_b2, if_true]
theorem op_element (b : Nat) {fu : Nat} (hfu : 5000 ≤ fu) : gz_op_element (pi_I b) fu b (b + 110) := by
  intro M p0 p1 hI
  obtain ⟨h1, h2, h3, h4, h5, h6, h7, h8⟩ := id hI
  by_cases c0 : 0 ≤ p0 ∧ p0 ≤ 7
  · obtain ⟨s, hs, rfl⟩ := pu_sh8 c0
    rcases pg_sh hI hs with hf | ⟨t, n, hr⟩ | ⟨t, l, a, ht⟩
    · refine ⟨0, ?_, ?_, hI⟩
      · simp only [f_X9_element, hf.1.gC, pu_shelf, if_pos c0, Option.bind_some, pu_10, hf.1.p1, hf.1.p2, f_X4_elementOrZero, gz_jn, hf.1.gd, (hf.rr fu).1, if_true]
      · simp only [f_X10_element, gz_jn, hf.1.gM, pn_0_7, if_pos c0, Option.bind_some, pu_10, hf.1.m0, hf.sh]
        rfl
    · have hn := hr.2.2.1
      by_cases c1 : 0 ≤ p1 ∧ p1 ≤ nI n - 1
      · obtain ⟨i, hi, rfl⟩ := (pn_lt (by omega)).mp c1
        refine ⟨M.2.2.2.1 (b + 95 + 2 * s) i, ?_, ?_, hI⟩
        · simp only [f_X9_element, hr.1.gC, pu_shelf, if_pos c0, Option.bind_some, pu_10, hr.1.p1, hr.1.p2, f_X4_elementOrZero, gz_jn, hr.1.gd, (hr.rr fu).1, if_neg (nI_pos (n := i) (by omega)), hr.sz, if_neg (nI_ge hi (by omega)), hr.1.el, hr.eC hi]
        · simp only [f_X10_element, gz_jn, hr.1.gM, pn_0_7, if_pos c0, Option.bind_some, pu_10, hr.1.m0, hr.sh, hr.1.m2, hr.sn, pu_inx, if_pos c1, if_true, hr.1.m3, hr.1.a3, hr.eM hi]
      · refine ⟨0, ?_, ?_, hI⟩
        · have : p1 < 0 ∨ (¬ p1 < 0 ∧ nI n ≤ p1) := by
            by_cases q : p1 < 0
            · exact Or.inl q
            · refine Or.inr ⟨q, Int32.not_lt.mp fun q2 => c1 ?_⟩
              obtain ⟨j, hj, rfl⟩ := nI_of q
              exact (pn_lt (by omega)).mpr ⟨j, (nI_ltI hj (by omega)).mp q2, rfl⟩
          simp only [f_X9_element, hr.1.gC, pu_shelf, if_pos c0, Option.bind_some, pu_10, hr.1.p1, hr.1.p2, f_X4_elementOrZero, gz_jn, hr.1.gd, (hr.rr fu).1, hr.sz]
          rcases this with q | ⟨q, q2⟩
          · rw [if_pos q]; rfl
          · rw [if_neg q, if_pos q2]; rfl
        · simp only [f_X10_element, gz_jn, hr.1.gM, pn_0_7, if_pos c0, Option.bind_some, pu_10, hr.1.m0, hr.sh, hr.1.m2, hr.sn, pu_inx, if_neg c1, if_true]
    · refine ⟨0, ?_, ?_, hI⟩
      · simp only [f_X9_element, ht.1.gC, pu_shelf, if_pos c0, Option.bind_some, pu_10, ht.1.p1, ht.1.p2, f_X4_elementOrZero, gz_jn, ht.1.gd, (ht.rr fu).1, if_true]
      · simp only [f_X10_element, gz_jn, ht.1.gM, pn_0_7, if_pos c0, Option.bind_some, pu_10, ht.1.m0, ht.sh]
        rfl
  · refine ⟨0, ?_, ?_, hI⟩
    · simp only [f_X9_element, h1.g, pu_shelf, if_neg c0, Option.bind_some, if_true]
    · simp only [f_X10_element, gz_jn, h2.g, pn_0_7, if_neg c0, Option.bind_some, if_true]
