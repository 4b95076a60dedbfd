/-! tokens: the reference -/
/-- the reference's cells but for those of P and its own slots of the reading -/
def qM (b : Nat) (P : Nat → Prop) (M D : gz_M) : Prop := D.1 = M.1 ∧ D.2.1 = M.2.1 ∧ D.2.2.2.2 = M.2.2.2.2 ∧ (∀ c, c ≠ b + 110 → D.2.2.2.1 c = M.2.2.2.1 c) ∧ (∀ c, c ≠ b + 110 → ¬ P c → D.2.2.1 c = M.2.2.1 c) ∧ ∀ j, ¬ (21 ≤ j ∧ j ≤ 26) → D.2.2.1 (b + 110) j = M.2.2.1 (b + 110) j
theorem qM.refl {b : Nat} {P : Nat → Prop} {M : gz_M} : qM b P M M := ⟨rfl, rfl, rfl, fun _ _ => rfl, fun _ _ _ => rfl, fun _ _ => rfl⟩
theorem qM.trans {b : Nat} {P Q S : Nat → Prop} {M M' M'' : gz_M} (h : qM b P M M') (h' : qM b Q M' M'') (h1 : ∀ c, P c → S c) (h2 : ∀ c, Q c → S c) : qM b S M M'' := ⟨h'.1.trans h.1, h'.2.1.trans h.2.1, h'.2.2.1.trans h.2.2.1, fun c q => (h'.2.2.2.1 c q).trans (h.2.2.2.1 c q), fun c q1 q2 => (h'.2.2.2.2.1 c q1 (fun p => q2 (h2 c p))).trans (h.2.2.2.2.1 c q1 (fun p => q2 (h1 c p))), fun j q => (h'.2.2.2.2.2 j q).trans (h.2.2.2.2.2 j q)⟩
theorem qM.sI {b : Nat} {P : Nat → Prop} {M D : gz_M} (h : qM b P M D) (j : Nat) (v : Int32) (hj : 21 ≤ j ∧ j ≤ 26) : qM b P M (gz_sI D (b + 110) j v) := ⟨h.1, h.2.1, h.2.2.1, h.2.2.2.1, fun c q1 q2 => (pv_I1 q1).trans (h.2.2.2.2.1 c q1 q2), fun i q => (pv_I0 (fun e => q (by rw [e]; exact hj))).trans (h.2.2.2.2.2 i q)⟩
theorem qM.sL {b : Nat} {P : Nat → Prop} {M D : gz_M} (h : qM b P M D) (j : Nat) (v : Int64) : qM b P M (gz_sL D (b + 110) j v) := ⟨h.1, h.2.1, h.2.2.1, fun c q => (pv_L2 q).trans (h.2.2.2.1 c q), h.2.2.2.2.1, h.2.2.2.2.2⟩
theorem qM.row {b : Nat} {P : Nat → Prop} {M D : gz_M} (h : qM b P M D) {c : Nat} (j : Nat) (v : Int32) (hc : c ≠ b + 110) (hp : P c) : qM b P M (gz_sI D c j v) := ⟨h.1, h.2.1, h.2.2.1, h.2.2.2.1, fun d q1 q2 => (pv_I1 (fun e => q2 (by rw [e]; exact hp))).trans (h.2.2.2.2.1 d q1 q2), fun i q => by
  rw [pv_I1 (fun e => hc e.symm)]
  exact h.2.2.2.2.2 i q⟩
def dv (T : Nat → Nat) (s len : Nat) : Nat := if len = 0 then 0 else if len = 1 then T s - 48 else if len = 2 then (T s - 48) * 10 + (T (s + 1) - 48) else 100000
def rM (b : Nat) (T : Nat → Nat) (t : tok) (D : gz_M) : Prop := D.2.2.1 (b + 110) 22 = nI t.1 ∧ D.2.2.1 (b + 110) 23 = nI t.2.1 ∧ D.2.2.1 (b + 110) 21 = nI t.2.2 ∧ (t.1 = 2 → D.2.2.2.1 (b + 110) 24 = lN (dv T t.2.1 (t.2.2 - t.2.1)))
section LOOK
variable {fu b n : Nat} {T : Nat → Nat} {D : gz_M}
theorem lm_k (hO : iv_O (b + 110) D) : D.2.1 (b + 110) = (11, 0) ∧ gz_gR D 10 8 (b + 110) = some (b + 127) ∧ D.2.1 (b + 127) = (20, 250) := ⟨ly_m0 hO, lm_R hO 8 17 (by decide), hO.1 17 _ rfl⟩
theorem rm_a (hO : iv_O (b + 110) D) (h : tM b T n D) {p : Nat} (hp : p < n) : gz_aI D (b + 127) (nI p) = some (nI (T p)) := by
  have hn := h.1
  rw [pu_aI (lm_k hO).2.2 (show p < 250 by omega) (by decide), h.2.2.2 p hp]
theorem rm_l0 : ∀ d s fuel (D : gz_M), iv_O (b + 110) D → tM b T n D → D.2.2.1 (b + 110) 21 = nI s → s + d = n → d < fuel → ∃ D', (∀ J, lp_X10_look_0 J (b + 110) fuel D = J D') ∧ qM b (fun _ => False) D D' ∧ D'.2.2.1 (b + 110) 21 = nI (sk (fun j => T j == 32) d s)
  | 0, s, fuel, D, hO, hD, hs, hd, hf => by
    obtain ⟨f, rfl⟩ : ∃ f, fuel = f + 1 := ⟨fuel - 1, by omega⟩
    obtain ⟨k1, k2, k3⟩ := lm_k hO
    have hn := hD.1
    refine ⟨D, ?_, qM.refl, hs⟩
    intro J
    rw [lp_X10_look_0, pu_gI (ci := 10) 21 k1, hs, Option.bind_some, pu_gI (ci := 10) 9 k1, hD.2.2.1, Option.bind_some, if_pos (pn_le (by omega) (by omega))]
  | d + 1, s, fuel, D, hO, hD, hs, hd, hf => by
    obtain ⟨f, rfl⟩ : ∃ f, fuel = f + 1 := ⟨fuel - 1, by omega⟩
    obtain ⟨k1, k2, k3⟩ := lm_k hO
    have hn := hD.1
    have hsn : s < n := by omega
    have hTs := hD.2.1 s hsn
    have ea := rm_a hO hD hsn
    by_cases c : T s = 32
    · obtain ⟨D', g1, g2, g3⟩ := rm_l0 d (s + 1) f (gz_sI D (b + 110) 21 (nI (s + 1))) (hO.same rfl rfl) (hD.same (pv_I0 (by omega)) (pv_I1 (by omega))) pv_I9 (by omega) (by omega)
      refine ⟨D', ?_, (qM.refl.sI 21 _ (by omega)).trans g2 (fun _ q => q) (fun _ q => q), ?_⟩
      · intro J
        rw [lp_X10_look_0, pu_gI (ci := 10) 21 k1, hs, Option.bind_some, pu_gI (ci := 10) 9 k1, hD.2.2.1, Option.bind_some, if_neg (pn_nle hsn (by omega)), k2, Option.bind_some, Option.bind_some, ea, Option.bind_some, if_pos (show nI (T s) = (32 : Int32) by rw [c]; rfl), Option.bind_some, pn_1, pu_pI (ci := 10) 21 _ k1, Option.bind_some, g1]
      · rw [g3]
        have e : sk (fun j => T j == 32) (d + 1) s = sk (fun j => T j == 32) d (s + 1) := if_pos (by simp [c])
        rw [e]
    · refine ⟨D, ?_, qM.refl, ?_⟩
      · intro J
        rw [lp_X10_look_0, pu_gI (ci := 10) 21 k1, hs, Option.bind_some, pu_gI (ci := 10) 9 k1, hD.2.2.1, Option.bind_some, if_neg (pn_nle hsn (by omega)), k2, Option.bind_some, Option.bind_some, ea, Option.bind_some, if_neg (show ¬ nI (T s) = (32 : Int32) from fun q => c ((nI_eq (b := 32) (by omega) (by omega)).mp q))]
      · have e : sk (fun j => T j == 32) (d + 1) s = s := if_neg (by simp [c])
        rw [e]
        exact hs
theorem rm_l90 : ∀ d s fuel (D : gz_M), iv_O (b + 110) D → tM b T n D → D.2.2.1 (b + 110) 21 = nI s → s + d = n → d < fuel → ∃ D', (∀ J, lp_X10_look_90 J fu (b + 110) fuel D = J D') ∧ qM b (fun _ => False) D D' ∧ D'.2.2.1 (b + 110) 21 = nI (sk (fun j => kd (T j) == 1) d s) ∧ ∀ j, j ≠ 21 → D'.2.2.1 (b + 110) j = D.2.2.1 (b + 110) j
  | 0, s, fuel, D, hO, hD, hs, hd, hf => by
    obtain ⟨f, rfl⟩ : ∃ f, fuel = f + 1 := ⟨fuel - 1, by omega⟩
    obtain ⟨k1, k2, k3⟩ := lm_k hO
    have hn := hD.1
    refine ⟨D, ?_, qM.refl, hs, fun _ _ => rfl⟩
    intro J
    rw [lp_X10_look_90, pu_gI (ci := 10) 21 k1, hs, Option.bind_some, pu_gI (ci := 10) 9 k1, hD.2.2.1, Option.bind_some, if_pos (pn_le (by omega) (by omega))]
  | d + 1, s, fuel, D, hO, hD, hs, hd, hf => by
    obtain ⟨f, rfl⟩ : ∃ f, fuel = f + 1 := ⟨fuel - 1, by omega⟩
    obtain ⟨k1, k2, k3⟩ := lm_k hO
    have hn := hD.1
    have hsn : s < n := by omega
    have hTs := hD.2.1 s hsn
    have ea := rm_a hO hD hsn
    by_cases c : kd (T s) = 1
    · obtain ⟨D', g1, g2, g3, g4⟩ := rm_l90 d (s + 1) f (gz_sI D (b + 110) 21 (nI (s + 1))) (hO.same rfl rfl) (hD.same (pv_I0 (by omega)) (pv_I1 (by omega))) pv_I9 (by omega) (by omega)
      refine ⟨D', ?_, (qM.refl.sI 21 _ (by omega)).trans g2 (fun _ q => q) (fun _ q => q), ?_, fun j hj => ?_⟩
      · intro J
        rw [lp_X10_look_90, pu_gI (ci := 10) 21 k1, hs, Option.bind_some, pu_gI (ci := 10) 9 k1, hD.2.2.1, Option.bind_some, if_neg (pn_nle hsn (by omega)), k2, Option.bind_some, Option.bind_some, ea, Option.bind_some, rm_let fu D hTs, if_pos c, Option.bind_some, pu_10, Option.bind_some, pn_1, pu_pI (ci := 10) 21 _ k1, Option.bind_some, g1]
      · rw [g3]
        have e : sk (fun j => kd (T j) == 1) (d + 1) s = sk (fun j => kd (T j) == 1) d (s + 1) := if_pos (by simp [c])
        rw [e]
      · rw [g4 j hj, pv_I0 hj]
    · refine ⟨D, ?_, qM.refl, ?_, fun _ _ => rfl⟩
      · intro J
        rw [lp_X10_look_90, pu_gI (ci := 10) 21 k1, hs, Option.bind_some, pu_gI (ci := 10) 9 k1, hD.2.2.1, Option.bind_some, if_neg (pn_nle hsn (by omega)), k2, Option.bind_some, Option.bind_some, ea, Option.bind_some, rm_let fu D hTs, if_neg c, Option.bind_some, if_pos rfl]
      · have e : sk (fun j => kd (T j) == 1) (d + 1) s = s := if_neg (by simp [c])
        rw [e]
        exact hs
theorem dv_s {s p : Nat} (h : s ≤ p) (hT : 48 ≤ T p ∧ T p ≤ 57) : dv T s (p + 1 - s) = if 2 ≤ p - s then 100000 else dv T s (p - s) * 10 + T p - 48 := by
  by_cases c : 2 ≤ p - s
  · rw [if_pos c]
    unfold dv
    rw [if_neg (by omega), if_neg (by omega), if_neg (by omega)]
  · rw [if_neg c]
    by_cases c0 : p = s
    · subst c0
      rw [show p + 1 - p = 1 by omega, show p - p = 0 by omega]
      show T p - 48 = 0 * 10 + T p - 48
      omega
    · obtain rfl : p = s + 1 := by omega
      rw [show s + 1 + 1 - s = 2 by omega, show s + 1 - s = 1 by omega]
      show (T s - 48) * 10 + (T (s + 1) - 48) = (T s - 48) * 10 + T (s + 1) - 48
      omega
theorem rm_l149 (s : Nat) : ∀ d p fuel (D : gz_M), iv_O (b + 110) D → tM b T n D → D.2.2.1 (b + 110) 21 = nI p → D.2.2.1 (b + 110) 23 = nI s → D.2.2.2.1 (b + 110) 24 = lN (dv T s (p - s)) → s ≤ p → p + d = n → d < fuel → ∃ D', (∀ J, lp_X10_look_149 J fu (b + 110) fuel D = J D') ∧ qM b (fun _ => False) D D' ∧ D'.2.2.1 (b + 110) 21 = nI (sk (fun j => kd (T j) == 2) d p) ∧ D'.2.2.2.1 (b + 110) 24 = lN (dv T s (sk (fun j => kd (T j) == 2) d p - s)) ∧ ∀ j, j ≠ 21 → D'.2.2.1 (b + 110) j = D.2.2.1 (b + 110) j
  | 0, p, fuel, D, hO, hD, hp, hs, hg, hsp, hd, hf => by
    obtain ⟨f, rfl⟩ : ∃ f, fuel = f + 1 := ⟨fuel - 1, by omega⟩
    obtain ⟨k1, k2, k3⟩ := lm_k hO
    have hn := hD.1
    refine ⟨D, ?_, qM.refl, hp, hg, fun _ _ => rfl⟩
    intro J
    rw [lp_X10_look_149, pu_gI (ci := 10) 21 k1, hp, Option.bind_some, pu_gI (ci := 10) 9 k1, hD.2.2.1, Option.bind_some, if_pos (pn_le (by omega) (by omega))]
  | d + 1, p, fuel, D, hO, hD, hp, hs, hg, hsp, hd, hf => by
    obtain ⟨f, rfl⟩ : ∃ f, fuel = f + 1 := ⟨fuel - 1, by omega⟩
    obtain ⟨k1, k2, k3⟩ := lm_k hO
    have hn := hD.1
    have hpn : p < n := by omega
    have hTp := hD.2.1 p hpn
    have ea := rm_a hO hD hpn
    by_cases c : kd (T p) = 2
    · have hd48 := (kd_r _ hTp).2.2.1 c
      obtain ⟨D', g1, g2, g3, g4, g5⟩ := rm_l149 s d (p + 1) f (gz_sI (gz_sL D (b + 110) 24 (lN (dv T s (p + 1 - s)))) (b + 110) 21 (nI (p + 1))) (hO.same rfl rfl) (hD.same (pv_I0 (by omega)) (pv_I1 (by omega))) pv_I9 ((pv_I0 (by omega)).trans hs) pv_L9 (by omega) (by omega) (by omega)
      have kL : (gz_sL D (b + 110) 24 (lN (dv T s (p + 1 - s)))).2.1 (b + 110) = (11, 0) := k1
      have hpL : (gz_sL D (b + 110) 24 (lN (dv T s (p + 1 - s)))).2.2.1 (b + 110) 21 = nI p := hp
      refine ⟨D', ?_, ((qM.refl.sL 24 _).sI 21 _ (by omega)).trans g2 (fun _ q => q) (fun _ q => q), ?_, ?_, fun j hj => ?_⟩
      · intro J
        have fin : ∀ x : Int64, x = lN (dv T s (p + 1 - s)) → ((gz_pL D 10 24 (b + 110) x).bind fun M49 => (gz_gI M49 10 21 (b + 110)).bind fun x50 => (gz_pI M49 10 21 (b + 110) (x50 + (1 : Int32))).bind fun M51 => lp_X10_look_149 J fu (b + 110) f M51) = J D' := by
          rintro x rfl
          rw [pu_pL (ci := 10) 24 _ k1, Option.bind_some, pu_gI (ci := 10) 21 kL, hpL, Option.bind_some, pn_1, pu_pI (ci := 10) 21 _ kL, Option.bind_some, g1]
        rw [lp_X10_look_149, pu_gI (ci := 10) 21 k1, hp, Option.bind_some, pu_gI (ci := 10) 9 k1, hD.2.2.1, Option.bind_some, if_neg (pn_nle hpn (by omega)), k2, Option.bind_some, Option.bind_some, ea, Option.bind_some, rm_dig fu D hTp, if_pos c, Option.bind_some, pu_10, Option.bind_some, pu_gI (ci := 10) 23 k1, hs, Option.bind_some, pk_sub hsp]
        simp only [gz_jn, pu_gL (ci := 10) 24 k1, hg, Option.bind_some, ea]
        by_cases c2 : 2 ≤ p - s
        · rw [if_pos (show (2 : Int32) ≤ nI (p - s) from nI_le (a := 2) c2 (by omega))]
          refine fin _ ?_
          rw [dv_s hsp hd48, if_pos c2]
          rfl
        · rw [if_neg (show ¬ (2 : Int32) ≤ nI (p - s) from nI_ge (b := 2) (by omega) (by omega))]
          refine fin _ ?_
          rw [dv_s hsp hd48, if_neg c2, nI_l (by omega), show (10 : Int64) = lN 10 from rfl, show (48 : Int64) = lN 48 from rfl, lN_mul, lN_add, lN_sub (by omega)]
      · rw [g3]
        have e : sk (fun j => kd (T j) == 2) (d + 1) p = sk (fun j => kd (T j) == 2) d (p + 1) := if_pos (by simp [c])
        rw [e]
      · rw [g4]
        have e : sk (fun j => kd (T j) == 2) (d + 1) p = sk (fun j => kd (T j) == 2) d (p + 1) := if_pos (by simp [c])
        rw [e]
      · rw [g5 j hj, pv_I0 hj]
        rfl
    · have e : sk (fun j => kd (T j) == 2) (d + 1) p = p := if_neg (by simp [c])
      refine ⟨D, ?_, qM.refl, ?_, ?_, fun _ _ => rfl⟩
      · intro J
        rw [lp_X10_look_149, pu_gI (ci := 10) 21 k1, hp, Option.bind_some, pu_gI (ci := 10) 9 k1, hD.2.2.1, Option.bind_some, if_neg (pn_nle hpn (by omega)), k2, Option.bind_some, Option.bind_some, ea, Option.bind_some, rm_dig fu D hTp, if_neg c, Option.bind_some, if_pos rfl]
      · rw [e]
        exact hp
      · rw [e]
        exact hg
theorem rm_look (hfu : 5000 ≤ fu) (hO : iv_O (b + 110) D) (hD : tM b T n D) {e : Nat} (he : e ≤ n) (h3 : D.2.2.1 (b + 110) 21 = nI e) : ∃ D', f_X10_look fu D (b + 110) = some D' ∧ qM b (fun _ => False) D D' ∧ rM b T (nx T n e) D' := by
  have hn := hD.1
  have hT := hD.2.1
  obtain ⟨s1, s2, s3, s4⟩ := sk_r (fun j => T j == 32) (n - e) e
  have hsk : ∃ s, s = sk (fun j => T j == 32) (n - e) e := ⟨_, rfl⟩
  obtain ⟨s, hs⟩ := hsk
  have hnx : nx T n e = (kp T n s, s, if kp T n s = 1 ∨ kp T n s = 2 then sk (fun j => kd (T j) == kp T n s) (n - s) s else if kp T n s = 0 then s else s + 1) := by rw [hs]; rfl
  rw [← hs] at s1 s2
  rw [hnx]
  obtain ⟨D1, c1, c2, c3⟩ := rm_l0 (b := b) (n := n) (T := T) (n - e) e fu D hO hD h3 (by omega) (by omega)
  rw [← hs] at c3
  have k1 : D1.2.1 (b + 110) = (11, 0) := by rw [c2.2.1]; exact ly_m0 hO
  have kA : (gz_sI D1 (b + 110) 23 (nI s)).2.1 (b + 110) = (11, 0) := k1
  have w2 : qM b (fun _ => False) D (gz_sL (gz_sI D1 (b + 110) 23 (nI s)) (b + 110) 24 0) := (c2.sI 23 _ (by omega)).sL 24 _
  have v21 : (gz_sL (gz_sI D1 (b + 110) 23 (nI s)) (b + 110) 24 0).2.2.1 (b + 110) 21 = nI s := (pv_I0 (by omega)).trans c3
  have v23 : (gz_sL (gz_sI D1 (b + 110) 23 (nI s)) (b + 110) 24 0).2.2.1 (b + 110) 23 = nI s := pv_I9
  have v24 : (gz_sL (gz_sI D1 (b + 110) 23 (nI s)) (b + 110) 24 0).2.2.2.1 (b + 110) 24 = lN 0 := pv_L9
  unfold f_X10_look
  rw [hO.g, c1, pu_gI (ci := 10) 21 k1, c3, Option.bind_some, pu_pI (ci := 10) 23 _ k1, Option.bind_some, pu_pL (ci := 10) 24 _ kA, Option.bind_some]
  generalize gz_sL (gz_sI D1 (b + 110) 23 (nI s)) (b + 110) 24 0 = N at w2 v21 v23 v24
  have ON : iv_O (b + 110) N := hO.same w2.2.1 w2.2.2.1
  have tN : tM b T n N := hD.same (w2.2.2.2.2.2 9 (by omega)) (w2.2.2.2.2.1 _ (by omega) (fun q => q))
  obtain ⟨q1, q2, q3⟩ := lm_k ON
  rw [pu_gI (ci := 10) 21 q1, v21, Option.bind_some, pu_gI (ci := 10) 9 q1, tN.2.2.1, Option.bind_some]
  simp only [gz_jn, Option.bind_some]
  by_cases hsn : s < n
  · have hTs := hT s hsn
    have ea := rm_a ON tN hsn
    have ekp : kp T n s = kd (T s) := if_pos hsn
    obtain ⟨r1, r2, r3, r4, r5⟩ := kd_r _ hTs
    rw [if_neg (show ¬ nI s = nI n from fun q => by have := (nI_eq (by omega) (by omega)).mp q; omega), q2]
    simp only [Option.bind_some, ea, rm_let fu N hTs, rm_dig fu N hTs, pu_ii]
    rw [ekp]
    by_cases d1 : kd (T s) = 1
    · rw [if_pos d1, pu_pI (ci := 10) 22 _ q1, Option.bind_some]
      obtain ⟨D', g1, g2, g3, g4⟩ := rm_l90 (fu := fu) (b := b) (n := n) (T := T) (n - s) s fu (gz_sI N (b + 110) 22 1) (ON.same rfl rfl) (tN.same (pv_I0 (by omega)) (pv_I1 (by omega))) ((pv_I0 (by omega)).trans v21) (by omega) (by omega)
      refine ⟨D', g1 _, (w2.sI 22 _ (by omega)).trans g2 (fun _ q => q) (fun _ q => q), ?_, ?_, ?_, fun q => ?_⟩
      · rw [g4 22 (by omega), pv_I9, d1]; rfl
      · rw [g4 23 (by omega), pv_I0 (by omega)]; exact v23
      · rw [g3, if_pos (Or.inl d1), d1]
      · have q : kd (T s) = 2 := q
        omega
    · rw [if_neg d1]
      by_cases d2 : kd (T s) = 2
      · rw [if_pos d2, pu_pI (ci := 10) 22 _ q1, Option.bind_some]
        obtain ⟨D', g1, g2, g3, g4, g5⟩ := rm_l149 (fu := fu) (b := b) (n := n) (T := T) s (n - s) s fu (gz_sI N (b + 110) 22 2) (ON.same rfl rfl) (tN.same (pv_I0 (by omega)) (pv_I1 (by omega))) ((pv_I0 (by omega)).trans v21) ((pv_I0 (by omega)).trans v23) (by rw [Nat.sub_self]; exact v24) (Nat.le_refl _) (by omega) (by omega)
        refine ⟨D', g1 _, (w2.sI 22 _ (by omega)).trans g2 (fun _ q => q) (fun _ q => q), ?_, ?_, ?_, fun _ => ?_⟩
        · rw [g5 22 (by omega), pv_I9, d2]; rfl
        · rw [g5 23 (by omega), pv_I0 (by omega)]; exact v23
        · rw [g3, if_pos (Or.inr d2), d2]
        · rw [g4, if_pos (Or.inr d2), d2]
      · rw [if_neg d2]
        have key : ∀ k : Nat, kd (T s) = k → ¬ (k = 1 ∨ k = 2) → ¬ k = 0 → ∃ D', ((gz_pI N 10 22 (b + 110) (nI k)).bind fun M56 => (gz_gI M56 10 21 (b + 110)).bind fun x57 => (gz_pI M56 10 21 (b + 110) (x57 + (1 : Int32))).bind fun M58 => some M58) = some D' ∧ qM b (fun _ => False) D D' ∧ rM b T (kd (T s), s, if kd (T s) = 1 ∨ kd (T s) = 2 then sk (fun j => kd (T j) == kd (T s)) (n - s) s else if kd (T s) = 0 then s else s + 1) D' := by
          intro k ek h12 h0
          have kB : (gz_sI N (b + 110) 22 (nI k)).2.1 (b + 110) = (11, 0) := q1
          refine ⟨gz_sI (gz_sI N (b + 110) 22 (nI k)) (b + 110) 21 (nI (s + 1)), ?_, (w2.sI 22 _ (by omega)).sI 21 _ (by omega), ?_, ?_, ?_, fun q => ?_⟩
          · rw [pu_pI (ci := 10) 22 _ q1, Option.bind_some, pu_gI (ci := 10) 21 kB, pv_I0 (by omega), v21, Option.bind_some, pn_1, pu_pI (ci := 10) 21 _ kB, Option.bind_some]
          · rw [pv_I0 (by omega), pv_I9, ek]
          · rw [pv_I0 (by omega), pv_I0 (by omega)]; exact v23
          · rw [if_neg (by rw [ek]; exact h12), if_neg (by rw [ek]; exact h0)]; exact pv_I9
          · have q : kd (T s) = 2 := q
            omega
        by_cases d3 : kd (T s) = 3
        · rw [if_pos (show nI (T s) = (59 : Int32) by rw [r4 d3]; rfl)]
          exact key 3 d3 (by omega) (by omega)
        · have d4 : kd (T s) = 4 := by omega
          rw [if_neg (show ¬ nI (T s) = (59 : Int32) from fun q => r5 d4 ((nI_eq (b := 59) (by omega) (by omega)).mp q))]
          exact key 4 d4 (by omega) (by omega)
  · have ekp : kp T n s = 0 := if_neg hsn
    rw [if_pos (show nI s = nI n by rw [show s = n by omega]), pu_pI (ci := 10) 22 _ q1, Option.bind_some, ekp]
    refine ⟨_, rfl, w2.sI 22 _ (by omega), pv_I9, (pv_I0 (by omega)).trans v23, ?_, fun q => ?_⟩
    · rw [if_neg (by omega), if_pos rfl]
      exact (pv_I0 (by omega)).trans v21
    · have q : 0 = 2 := q
      omega
end LOOK
