/-! lines: the reference -/
section LM
variable {fu b k m : Nat} {V : pv_V} {N : gz_M}
abbrev lC (V : pv_V) (m A : Nat) : Nat := ln_C (sC V m) (ln_W V m) (sS V m) A 0
def l_z (b : Nat) (V : pv_V) (m : Nat) (N : gz_M) : Prop := ∀ i, i < sC V m → N.2.2.1 (b + 147) i = nI (sS V m i)
theorem lm_s (hO : iv_O (b + 110) N) : gz_gR N 10 27 (b + 110) = some (b + 147) ∧ N.2.1 (b + 147) = (20, 12) := ⟨lm_R hO 27 37 (by decide), hO.1 37 _ rfl⟩
theorem vm_l19 (hfu : 5000 ≤ fu) (hO : iv_O (b + 110) N) (hv : vy_m (b + 110) k V N) (hm : m < 3) (hz : l_z b V m N) {A f : Nat} (hA : A < 2 ^ 12) (hb : A.testBit (sC V m - 1) = true) (hf : f < pv_nf V) (J : Int32 → Option Int32) : lp_X10_lineSum_19 J fu N (b + 110) (nI k) (nI m) (nI A) (nI f) fu (0 : Int32) = J (nI (nb (sC V m) A (ix V m f))) := by
  have hV := vm_ok hv
  have c12 := sC_le hV m
  obtain ⟨x1, x2⟩ := ix_r hV hm hf
  obtain ⟨a1, a2, a3, a4⟩ := nb_r x1 hb
  obtain ⟨s1, s2⟩ := lm_s hO
  have fb := (hV.2.2.2.2.2.1 f hf).1 m hm
  have key : ∀ d p fuel, p + d = nb (sC V m) A (ix V m f) → d < fuel → lp_X10_lineSum_19 J fu N (b + 110) (nI k) (nI m) (nI A) (nI f) fuel (nI p) = J (nI (nb (sC V m) A (ix V m f))) := by
    intro d
    induction d with
    | zero =>
      intro p fuel he hf'
      obtain ⟨g, rfl⟩ : ∃ g, fuel = g + 1 := ⟨fuel - 1, by omega⟩
      have ep : p = nb (sC V m) A (ix V m f) := by omega
      rw [← ep] at a1 a2 a3 ⊢
      have h30 := sS_le a2
      have hle : pv_F V (5 * f + m) ≤ sS V m p := by rw [← x2]; exact (sS_le_iff x1 a2).mpr a1
      rw [lp_X10_lineSum_19]
      simp only [gz_jn]
      rw [if_neg (fun q => by rw [(pn_bit (by omega) (by omega)).mp q] at a3; cases a3), s1, Option.bind_some, pu_aI s2 (show p < 12 by omega) (by decide), hz p a2, Option.bind_some, vm_fp fu hv hf (by omega), Option.bind_some, if_pos (nI_le hle (by omega))]
    | succ d ih =>
      intro p fuel he hf'
      obtain ⟨g, rfl⟩ : ∃ g, fuel = g + 1 := ⟨fuel - 1, by omega⟩
      have hp : p < nb (sC V m) A (ix V m f) := by omega
      have hpK : p < sC V m := by omega
      have h30 := sS_le hpK
      have ihp := ih (p + 1) g (by omega) (by omega)
      rw [lp_X10_lineSum_19]
      simp only [gz_jn, pn_1, ihp]
      by_cases c : A.testBit p = false
      · rw [if_pos ((pn_bit (by omega) (by omega)).mpr c)]
      · have hpi : p < ix V m f := Nat.lt_of_not_le (fun q => c (a4 p q hp))
        have hlt : sS V m p < pv_F V (5 * f + m) := by rw [← x2]; exact sS_mono hpi x1
        rw [if_neg (fun q => c ((pn_bit (by omega) (by omega)).mp q)), s1, Option.bind_some, pu_aI s2 (show p < 12 by omega) (by decide), hz p hpK, Option.bind_some, vm_fp fu hv hf (by omega), Option.bind_some, if_neg (nI_ge hlt (by omega))]
  exact key (nb (sC V m) A (ix V m f)) 0 fu (by omega) (by omega)
theorem vm_ls (hfu : 5000 ≤ fu) (hO : iv_O (b + 110) N) (hv : vy_m (b + 110) k V N) (hm : m < 3) (hz : l_z b V m N) {A : Nat} (hA : A < 2 ^ 12) (hb : A.testBit (sC V m - 1) = true) : f_X10_lineSum fu N (b + 110) (nI k) (nI m) (nI A) = some (nI (lC V m A)) := by
  have hV := vm_ok hv
  have o1 := hV.1
  have c12 := sC_le hV m
  obtain ⟨s1, s2⟩ := lm_s hO
  unfold f_X10_lineSum
  rw [hO.g, show lC V m A = fb_sm (fun f => pv_F V (5 * f + 3) * pv_wa V m * (sS V m (nb (sC V m) A (ix V m f)) - pv_F V (5 * f + m))) (pv_nf V) from (ln_grp hV hm).symm]
  refine pl_fn (fun fuel f s => lp_X10_lineSum_6 (fun x16 => some x16) fu N (b + 110) (nI k) (nI m) (nI A) fuel s f) (fun s => some s) (fun n => nI (fb_sm (fun f => pv_F V (5 * f + 3) * pv_wa V m * (sS V m (nb (sC V m) A (ix V m f)) - pv_F V (5 * f + m))) n)) (pv_nf V) ?_ ?_ (fuel := fu) (by omega)
  · intro fuel f hf
    obtain ⟨x1, x2⟩ := ix_r hV hm hf
    obtain ⟨a1, a2, a3, a4⟩ := nb_r x1 hb
    have hle : pv_F V (5 * f + m) ≤ sS V m (nb (sC V m) A (ix V m f)) := by
      have := (sS_le_iff x1 a2).mpr a1
      rw [x2] at this
      exact this
    have e3 : f_X10_of fu N (b + 110) (nI k) (nI f) (3 : Int32) = some (nI (pv_F V (5 * f + 3))) := vm_fp fu hv hf (m := 3) (by omega)
    try dsimp only
    rw [lp_X10_lineSum_6, vm_nf fu hv, Option.bind_some, if_neg (pn_nle hf (by omega)), vm_l19 hfu hO hv hm hz hA hb hf, e3, Option.bind_some, vm_r12 hv, Option.bind_some, vm_v hv, Option.bind_some, vm_wa hv hm, Option.bind_some, s1, Option.bind_some, pu_aI s2 (show nb (sC V m) A (ix V m f) < 12 by omega) (by decide), hz _ a2, Option.bind_some, vm_fp fu hv hf (by omega), Option.bind_some, pk_sub hle, pk_mul, pk_mul, nI_add, pn_1, fb_sm_succ]
  · intro fuel
    try dsimp only
    rw [lp_X10_lineSum_6, vm_nf fu hv, Option.bind_some, if_pos (pn_le (Nat.le_refl _) (by omega))]
/-- the first place where two sets differ -/
theorem vm_less (hfu : 5000 ≤ fu) (hO : iv_O (b + 110) N) {A B K p : Nat} (hA : A < 2 ^ 12) (hB : B < 2 ^ 12) (hK : K ≤ 12) (hp : p < K) (hag : ∀ q, q < p → A.testBit q = B.testBit q) (hd : A.testBit p ≠ B.testBit p) : f_X10_isLess fu N (b + 110) (nI A) (nI B) (nI K) = some (nI (A.testBit p).toNat) := by
  have key : ∀ d q fuel, q + d = p → d < fuel → lp_X10_isLess_3 (some (0 : Int32)) (nI A) (nI B) (nI K) fuel (nI q) = some (nI (A.testBit p).toNat) := by
    intro d
    induction d with
    | zero =>
      intro q fuel he hf
      obtain ⟨g, rfl⟩ : ∃ g, fuel = g + 1 := ⟨fuel - 1, by omega⟩
      obtain rfl : q = p := by omega
      rw [lp_X10_isLess_3, if_neg (pn_nle hp (by omega)), pn_bv (by omega) (by omega), pn_bv (by omega) (by omega)]
      simp only [gz_jn, pu_z0, pu_z1]
      revert hd
      cases A.testBit q <;> cases B.testBit q <;> intro hd
      · exact absurd rfl hd
      · rw [if_neg (show ¬ nI false.toNat = nI true.toNat by decide), if_neg (show ¬ nI false.toNat = (1 : Int32) by decide)]; rfl
      · rw [if_neg (show ¬ nI true.toNat = nI false.toNat by decide), if_pos (show nI true.toNat = (1 : Int32) from rfl)]; rfl
      · exact absurd rfl hd
    | succ d ih =>
      intro q fuel he hf
      obtain ⟨g, rfl⟩ : ∃ g, fuel = g + 1 := ⟨fuel - 1, by omega⟩
      rw [lp_X10_isLess_3, if_neg (pn_nle (show q < K by omega) (by omega)), pn_bv (by omega) (by omega), pn_bv (by omega) (by omega), if_pos (by rw [hag q (by omega)]), pn_1]
      exact ih (q + 1) g (by omega) (by omega)
  unfold f_X10_isLess
  rw [hO.g, pu_z0]
  exact key p 0 fu (by omega) (by omega)
/-- sets that differ differ somewhere first -/
theorem fst_diff {A B K : Nat} (hA : A < 2 ^ K) (hB : B < 2 ^ K) (h : A ≠ B) : ∃ p, p < K ∧ (∀ q, q < p → A.testBit q = B.testBit q) ∧ A.testBit p ≠ B.testBit p := by
  have hex : ∃ p, A.testBit p ≠ B.testBit p := Classical.byContradiction (fun c => h (Nat.eq_of_testBit_eq (fun p => Classical.byContradiction (fun q => c ⟨p, q⟩))))
  obtain ⟨p, p1, p2⟩ := pk_least (fun p => A.testBit p ≠ B.testBit p) hex
  refine ⟨p, Nat.lt_of_not_le (fun q => p1 ?_), fun q hq => Classical.byContradiction (fun c => p2 q hq c), p1⟩
  rw [Nat.testBit_lt_two_pow (Nat.lt_of_lt_of_le hA (Nat.pow_le_pow_right (by omega) q)), Nat.testBit_lt_two_pow (Nat.lt_of_lt_of_le hB (Nat.pow_le_pow_right (by omega) q))]
theorem tb_top {X K : Nat} (hK : 0 < K) (h1 : 2 ^ (K - 1) ≤ X) (h2 : X < 2 ^ K) : X.testBit (K - 1) = true := by
  rw [Nat.testBit_eq_decide_div_mod_eq]
  have e : X / 2 ^ (K - 1) = 1 := by
    refine Nat.div_eq_of_lt_le (by omega) ?_
    have : 2 ^ K = 2 * 2 ^ (K - 1) := by
      rw [show K = K - 1 + 1 by omega, Nat.pow_succ, Nat.add_sub_cancel]
      omega
    omega
  rw [e]
  rfl
def el (V : pv_V) (m n X : Nat) : Prop := X.testBit (sC V m - 1) = true ∧ X < 2 ^ sC V m ∧ ln_B (sC V m) X 0 ≤ n
theorem lC_le (hV : pv_ok V) (hm : m < 3) (A : Nat) (hb : A.testBit (sC V m - 1) = true) : lC V m A ≤ 3849120 := by
  have c12 := sC_le hV m
  have h : ∀ t, t < sC V m - 0 → ln_W V m (0 + t) * (sS V m (nb (sC V m) A (0 + t)) - sS V m (0 + t)) ≤ 10692 * 30 := fun t ht => by
    have a := nb_r (K := sC V m) (A := A) (i := 0 + t) (by omega) hb
    have := sS_le a.2.1
    exact Nat.mul_le_mul (ln_W_le hV hm _) (by omega)
  have := fb_sm_bound h
  have h2 : (sC V m - 0) * (10692 * 30) ≤ 12 * (10692 * 30) := Nat.mul_le_mul_right _ (by omega)
  show fb_sm _ _ ≤ _
  omega
/-- one set looked at, when there is a best one already -/
theorem vm_78y (hfu : 5000 ≤ fu) (hO : iv_O (b + 110) N) (hv : vy_m (b + 110) k V N) (hm : m < 3) (hz : l_z b V m N) {n X Y g : Nat} (hn : n ≤ 6) (hX : el V m n X) (hY : el V m n Y) (hne : X ≠ Y) (J : Int32 → Int32 → Option (Int32 × gz_M)) : ∃ D : Bool, lp_X10_line_78 J fu N (b + 110) (nI k) (nI m) (nI n) (nI (sC V m)) (g + 1) (nI Y) (nI (lC V m Y)) (nI X) = (if D = true then lp_X10_line_78 J fu N (b + 110) (nI k) (nI m) (nI n) (nI (sC V m)) g (nI X) (nI (lC V m X)) (nI (X + 1)) else lp_X10_line_78 J fu N (b + 110) (nI k) (nI m) (nI n) (nI (sC V m)) g (nI Y) (nI (lC V m Y)) (nI (X + 1))) ∧ (lC V m X < lC V m Y → D = true) ∧ (lC V m Y < lC V m X → D = false) ∧ (lC V m X = lC V m Y → (ln_B (sC V m) X 0 < ln_B (sC V m) Y 0 → D = true) ∧ (ln_B (sC V m) Y 0 < ln_B (sC V m) X 0 → D = false) ∧ (ln_B (sC V m) X 0 = ln_B (sC V m) Y 0 → ∀ p, p < sC V m → (∀ q, q < p → X.testBit q = Y.testBit q) → X.testBit p ≠ Y.testBit p → D = X.testBit p)) := by
  have hV := vm_ok hv
  have c12 := sC_le hV m
  obtain ⟨x1, x2, x3⟩ := hX
  obtain ⟨y1, y2, y3⟩ := hY
  have p12 : 2 ^ sC V m ≤ 2 ^ 12 := Nat.pow_le_pow_right (by omega) c12
  have eX := ln_bc c12 x2
  have eY := ln_bc c12 y2
  have cX := lC_le hV hm X x1
  have cY := lC_le hV hm Y y1
  obtain ⟨p, d1, d2, d3⟩ := fst_diff x2 y2 hne
  have hl := vm_less (fu := fu) (N := N) (b := b) hfu hO (A := X) (B := Y) (K := sC V m) (p := p) (by omega) (by omega) c12 d1 d2 d3
  have uniq : ∀ p', p' < sC V m → (∀ q, q < p' → X.testBit q = Y.testBit q) → X.testBit p' ≠ Y.testBit p' → p' = p := fun p' q1 q2 q3 => by
    have h1 : ¬ p' < p := fun q => q3 (d2 p' q)
    have h2 : ¬ p < p' := fun q => d3 (q2 p q)
    omega
  have bX := bc_M hfu N (s := X) (by omega)
  have bY := bc_M hfu N (s := Y) (by omega)
  rw [eX] at bX
  rw [eY] at bY
  have neY : ¬ nI Y = (-1 : Int32) := pn_neg (by omega)
  have sh : (1 : Int32) <<< (nI (sC V m) &&& 31) = nI (2 ^ sC V m) := pn_shl (by omega)
  have lsX := vm_ls hfu hO hv hm hz (A := X) (by omega) x1
  have pre : lp_X10_line_78 J fu N (b + 110) (nI k) (nI m) (nI n) (nI (sC V m)) (g + 1) (nI Y) (nI (lC V m Y)) (nI X) = if nI (lC V m X) = nI (lC V m Y) then (if nI (ln_B (sC V m) X 0) < nI (ln_B (sC V m) Y 0) then (if nI (lC V m X) < nI (lC V m Y) then lp_X10_line_78 J fu N (b + 110) (nI k) (nI m) (nI n) (nI (sC V m)) g (nI X) (nI (lC V m X)) (nI (X + 1)) else lp_X10_line_78 J fu N (b + 110) (nI k) (nI m) (nI n) (nI (sC V m)) g (nI X) (nI (lC V m X)) (nI (X + 1))) else if nI (ln_B (sC V m) X 0) = nI (ln_B (sC V m) Y 0) then (if nI (X.testBit p).toNat = 0 then (if nI (lC V m X) < nI (lC V m Y) then lp_X10_line_78 J fu N (b + 110) (nI k) (nI m) (nI n) (nI (sC V m)) g (nI X) (nI (lC V m X)) (nI (X + 1)) else lp_X10_line_78 J fu N (b + 110) (nI k) (nI m) (nI n) (nI (sC V m)) g (nI Y) (nI (lC V m Y)) (nI (X + 1))) else (if nI (lC V m X) < nI (lC V m Y) then lp_X10_line_78 J fu N (b + 110) (nI k) (nI m) (nI n) (nI (sC V m)) g (nI X) (nI (lC V m X)) (nI (X + 1)) else lp_X10_line_78 J fu N (b + 110) (nI k) (nI m) (nI n) (nI (sC V m)) g (nI X) (nI (lC V m X)) (nI (X + 1)))) else (if nI (lC V m X) < nI (lC V m Y) then lp_X10_line_78 J fu N (b + 110) (nI k) (nI m) (nI n) (nI (sC V m)) g (nI X) (nI (lC V m X)) (nI (X + 1)) else lp_X10_line_78 J fu N (b + 110) (nI k) (nI m) (nI n) (nI (sC V m)) g (nI Y) (nI (lC V m Y)) (nI (X + 1)))) else (if nI (lC V m X) < nI (lC V m Y) then lp_X10_line_78 J fu N (b + 110) (nI k) (nI m) (nI n) (nI (sC V m)) g (nI X) (nI (lC V m X)) (nI (X + 1)) else lp_X10_line_78 J fu N (b + 110) (nI k) (nI m) (nI n) (nI (sC V m)) g (nI Y) (nI (lC V m Y)) (nI (X + 1))) := by
    rw [lp_X10_line_78, sh, if_neg (pn_nle x2 (by omega)), bX, Option.bind_some]
    simp only [gz_jn]
    rw [if_neg (nI_nlt (by omega) (by omega)), lsX, Option.bind_some]
    simp only [bY, hl, Option.bind_some, if_neg neY, pn_1, pu_10, if_true]
  have bBX : ln_B (sC V m) X 0 ≤ 6 := by omega
  have bBY : ln_B (sC V m) Y 0 ≤ 6 := by omega
  rw [pre]
  by_cases q1 : lC V m X = lC V m Y
  · have n1 : ¬ nI (lC V m X) < nI (lC V m Y) := nI_nlt (by omega) (by omega)
    rw [if_pos (by rw [q1])]
    simp only [if_neg n1]
    by_cases q2 : ln_B (sC V m) X 0 < ln_B (sC V m) Y 0
    · rw [if_pos (nI_lt q2 (by omega))]
      exact ⟨true, by rw [if_pos rfl], fun q => by omega, fun q => by omega, fun _ => ⟨fun _ => rfl, fun q => by omega, fun q => by omega⟩⟩
    · rw [if_neg (nI_nlt (by omega) (by omega))]
      by_cases q3 : ln_B (sC V m) X 0 = ln_B (sC V m) Y 0
      · rw [if_pos (by rw [q3])]
        refine ⟨X.testBit p, ?_, fun q => by omega, fun q => by omega, fun _ => ⟨fun q => by omega, fun q => by omega, fun _ p' z1 z2 z3 => by rw [uniq p' z1 z2 z3]⟩⟩
        cases X.testBit p
        · rw [if_pos (show nI false.toNat = 0 from rfl), if_neg (by simp)]
        · rw [if_neg (show ¬ nI true.toNat = 0 by decide), if_pos rfl]
      · rw [if_neg (fun q => q3 ((nI_eq (by omega) (by omega)).mp q))]
        exact ⟨false, by rw [if_neg (by simp)], fun q => by omega, fun q => rfl, fun _ => ⟨fun q => by omega, fun _ => rfl, fun q => absurd q q3⟩⟩
  · rw [if_neg (fun q => q1 ((nI_eq (by omega) (by omega)).mp q))]
    by_cases q2 : lC V m X < lC V m Y
    · rw [if_pos (nI_lt q2 (by omega))]
      exact ⟨true, by rw [if_pos rfl], fun _ => rfl, fun q => by omega, fun q => absurd q q1⟩
    · rw [if_neg (nI_nlt (by omega) (by omega))]
      exact ⟨false, by rw [if_neg (by simp)], fun q => absurd q q2, fun _ => rfl, fun q => absurd q q1⟩
end LM
