/-! corners: the search of the class -/
def pcN : Option Nat → Int32
  | none => 2147483647
  | some x => nI x
def oadd (u v : Option Nat) : Option Nat := u.bind fun x => v.bind fun y => some (x + y)
theorem shr_le {V : pv_V} (hV : pv_ok V) {m i f x : Nat} (hm : m < 3) (h : shr V m i f = some x) : x ≤ 270 := sp_sh_le hV hm h
theorem pcN_ne {x : Nat} (h : x ≤ 100000) : ¬ pcN (some x) = 2147483647 := (pn_mx (n := x) (by omega)).1
section SK
variable {fu b : Nat} {V : pv_V}
theorem vc_as (hfu : 5000 ≤ fu) (hV : pv_ok V) {N : gz_M} (hR : k_R b V N) {m i rb ra : Nat} (hm : m < 3) (hi : i < sC V m) (u : Nat → Option Nat) (hu : ∀ f x, f < pv_nf V → u f = some x → x ≤ 1000) (hrb : N.2.1 rb = (20, 12)) (hra : N.2.1 ra = (20, 12)) (hb : rb ≠ ra) (hin : ∀ f, f < pv_nf V → N.2.2.1 rb f = pcN (u f)) (hra2 : b + 90 < ra ∧ ra < b + 93) : ∃ N', f_X0_addShares fu N (b + 79) (nI m) (nI i) rb ra = some N' ∧ pf_f (fun c => c = ra) N N' ∧ ∀ f, f < pv_nf V → N'.2.2.1 ra f = pcN (oadd (u f) (shr V m i f)) := by
  obtain ⟨L0, z0, s10, s11, ht, hs, h90⟩ := hR
  obtain ⟨k1, -⟩ := lk_r L0
  have o1 := hV.1
  have c12 := sC_le hV m
  obtain ⟨N', ⟨g1, g2⟩, g3⟩ := pl_up (σ := gz_M) (fun fuel f s => lp_X0_addShares_3 (fun M11 => some M11) (b + 79) (nI m) (nI i) rb ra fuel f s) (fun s => some s) (fun f s => pf_f (fun c => c = ra) N s ∧ ∀ g, g < f → s.2.2.1 ra g = pcN (oadd (u g) (shr V m i g))) (pv_nf V) (fun fuel f s hf hq => by
    obtain ⟨w, hq⟩ := hq
    have L1 := L0.same w.2.1 w.2.2.2.1
    have k9 : s.2.1 (b + 79) = (1, 0) := by rw [w.2.1]; exact k1
    obtain ⟨r1, r2, r3⟩ := lk_h L1 hm
    have qa : s.2.1 ra = (20, 12) := by rw [w.2.1]; exact hra
    have qb : s.2.1 rb = (20, 12) := by rw [w.2.1]; exact hrb
    have e6 : s.2.2.1 (b + 86 + m) (i * 12 + f) = pc_o (shr V m i f) := by rw [w.2.2.2.2 _ (by omega)]; exact hs m i f hm hi hf
    have e7 : s.2.2.1 rb f = pcN (u f) := by rw [w.2.2.2.2 _ hb]; exact hin f hf
    have ei : nI i * (12 : Int32) + nI f = nI (i * 12 + f) := by rw [show (12 : Int32) = nI 12 from rfl, pk_mul, nI_add]
    refine ⟨gz_sI s ra f (pcN (oadd (u f) (shr V m i f))), ⟨w.two rfl, fun g hg => ?_⟩, ?_⟩
    · rw [pu_same]
      by_cases q : g = f
      · rw [if_pos q, q]
      · rw [if_neg q]; exact hq g (by omega)
    · try dsimp only
      rw [lp_X0_addShares_3, pu_gI (ci := 0) 10 k9, w.2.2.2.2 _ (by omega), s10, Option.bind_some, if_neg (pn_nle hf (by omega)), r1, Option.bind_some, r2, Option.bind_some, ei, pu_aI r3 (show i * 12 + f < 144 by omega) (by decide), e6, Option.bind_some]
      simp only [gz_jn, pu_aI qb (show f < 12 by omega) (by decide), e7, Option.bind_some]
      have fin : ∀ x, x = pcN (oadd (u f) (shr V m i f)) → ((gz_tI s ra (nI f) x).bind fun M10 => lp_X0_addShares_3 (fun M11 => some M11) (b + 79) (nI m) (nI i) rb ra fuel (nI f + (1 : Int32)) M10) = lp_X0_addShares_3 (fun M11 => some M11) (b + 79) (nI m) (nI i) rb ra fuel (nI (f + 1)) (gz_sI s ra f (pcN (oadd (u f) (shr V m i f)))) := by
        rintro x rfl
        rw [pu_tI _ qa (show f < 12 by omega) (by decide), Option.bind_some, pn_1]
      cases q1 : shr V m i f with
      | none =>
        rw [if_pos pc_none]
        rw [q1] at fin
        refine fin _ ?_
        cases u f <;> rfl
      | some y =>
        have hy := shr_le hV hm q1
        rw [pc_some, if_neg (pn_neg (n := y) (by omega))]
        cases q2 : u f with
        | none =>
          rw [if_pos (show pcN none = 2147483647 from rfl)]
          rw [q1, q2] at fin
          exact fin _ rfl
        | some x =>
          have hx := hu f x hf q2
          rw [if_neg (pcN_ne (by omega))]
          rw [q1, q2] at fin
          refine fin _ ?_
          show nI x + nI y = nI (x + y)
          rw [nI_add]) (fun fuel s hq => by
    obtain ⟨w, hq⟩ := hq
    have k9 : s.2.1 (b + 79) = (1, 0) := by rw [w.2.1]; exact k1
    try dsimp only
    rw [lp_X0_addShares_3, pu_gI (ci := 0) 10 k9, w.2.2.2.2 _ (by omega), s10, Option.bind_some, if_pos (pn_le (Nat.le_refl _) (by omega))]) (pv_nf V) 0 N fu (by omega) (by omega) ⟨pf_f.refl, fun g hg => absurd hg (Nat.not_lt_zero g)⟩
  refine ⟨N', ?_, g1, g2⟩
  unfold f_X0_addShares
  rw [pu_gd (ci := 0) k1]
  exact g3
def oo (V : pv_V) : Option Nat → Nat
  | none => pv_out V
  | some v => v
theorem vc_sw (hfu : 5000 ≤ fu) (hV : pv_ok V) {N : gz_M} (hR : k_R b V N) {h : Nat} (hh : h < sC V 2) (u : Nat → Option Nat) (hu : ∀ f x, f < pv_nf V → u f = some x → x ≤ 1000) (hin : ∀ f, f < pv_nf V → N.2.2.1 (b + 92) f = pcN (u f)) : f_X0_sumWith fu N (b + 79) (nI h) = some (nI (fb_sm (fun f => pv_F V (5 * f + 3) * oo V (oadd (u f) (shr V 2 h f))) (pv_nf V))) := by
  obtain ⟨L0, z0, s10, s11, ht, hs, h90⟩ := hR
  obtain ⟨k1, r2, r3, r4, r5, r6, r7, r8, r9, r10, r11⟩ := lk_r L0
  obtain ⟨p1, p2, p3'⟩ := lk_h L0 (m := 2) (by omega)
  have p2' : gz_aR N (b + 85) (2 : Int32) = some (b + 86 + 2) := p2
  have o1 := hV.1
  have c12 := sC_le hV 2
  unfold f_X0_sumWith
  rw [pu_gd (ci := 0) k1]
  refine pl_fn (fun fuel f s => lp_X0_sumWith_4 (fun x16 => some x16) N (b + 79) (nI h) fuel s f) (fun s => some s) (fun k => nI (fb_sm (fun f => pv_F V (5 * f + 3) * oo V (oadd (u f) (shr V 2 h f))) k)) (pv_nf V) ?_ ?_ (fuel := fu) (by omega)
  · intro fuel f hf
    have ei : nI h * (12 : Int32) + nI f = nI (h * 12 + f) := by rw [show (12 : Int32) = nI 12 from rfl, pk_mul, nI_add]
    have e6 := hs 2 h f (by omega) hh hf
    have e8 := hin f hf
    have e11 := ht f hf
    try dsimp only
    rw [lp_X0_sumWith_4, pu_gI (ci := 0) 10 k1, s10, Option.bind_some, if_neg (pn_nle hf (by omega)), p1, Option.bind_some, p2', Option.bind_some, ei, pu_aI p3' (show h * 12 + f < 144 by omega) (by decide), e6, Option.bind_some]
    simp only [gz_jn, r5, r6, Option.bind_some, pu_aI r10 (show f < 12 by omega) (by decide), pu_aI r11 (show f < 12 by omega) (by decide), e8, e11, pu_gI (ci := 0) 11 k1, s11, pn_1, if_true, pu_10]
    rw [fb_sm_succ, ← nI_add (fb_sm (fun f => pv_F V (5 * f + 3) * oo V (oadd (u f) (shr V 2 h f))) f), ← pk_mul]
    cases q1 : shr V 2 h f with
    | none =>
      rw [if_pos pc_none]
      cases u f <;> rfl
    | some y =>
      have hy := shr_le hV (by omega) q1
      rw [pc_some, if_neg (pn_neg (n := y) (by omega))]
      cases q2 : u f with
      | none =>
        rw [if_pos (show pcN none = 2147483647 from rfl)]
        rfl
      | some x =>
        have hx := hu f x hf q2
        rw [if_neg (pcN_ne (by omega))]
        show lp_X0_sumWith_4 _ _ _ _ _ (_ + _ * (nI x + nI y)) _ = _
        rw [nI_add]
        rfl
  · intro fuel
    try dsimp only
    rw [lp_X0_sumWith_4, pu_gI (ci := 0) 10 k1, s10, Option.bind_some, if_pos (pn_le (Nat.le_refl _) (by omega))]
end SK
