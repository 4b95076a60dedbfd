/-! tokens -/
def kd (x : Nat) : Nat := if 97 ≤ x ∧ x ≤ 122 then 1 else if 48 ≤ x ∧ x ≤ 57 then 2 else if x = 59 then 3 else 4
theorem kd_dec : ∀ x, x < 256 → f_X2_kindOf 0 (gz_m0 0) (nI x) = some (nI (kd x)) := by decide +kernel
theorem kd_let : ∀ x, x < 256 → f_X10_isLetter 0 (gz_m0 0) (nI x) = some (if kd x = 1 then 1 else 0) := by decide +kernel
theorem kd_dig : ∀ x, x < 256 → f_X10_isDigit 0 (gz_m0 0) (nI x) = some (if kd x = 2 then 1 else 0) := by decide +kernel
theorem kd_r : ∀ x, x < 256 → 1 ≤ kd x ∧ kd x ≤ 4 ∧ (kd x = 2 → 48 ≤ x ∧ x ≤ 57) ∧ (kd x = 3 → x = 59) ∧ (kd x = 4 → x ≠ 59) := by decide +kernel
theorem rc_kd (fu : Nat) (C : gz_M) {x : Nat} (hx : x < 256) : f_X2_kindOf fu C (nI x) = some (nI (kd x)) := kd_dec x hx
theorem rm_let (fu : Nat) (C : gz_M) {x : Nat} (hx : x < 256) : f_X10_isLetter fu C (nI x) = some (if kd x = 1 then 1 else 0) := kd_let x hx
theorem rm_dig (fu : Nat) (C : gz_M) {x : Nat} (hx : x < 256) : f_X10_isDigit fu C (nI x) = some (if kd x = 2 then 1 else 0) := kd_dig x hx
/-- as long as p, at most d -/
def sk (p : Nat → Bool) : Nat → Nat → Nat
  | 0, s => s
  | d + 1, s => if p s = true then sk p d (s + 1) else s
theorem sk_r (p : Nat → Bool) : ∀ d s, s ≤ sk p d s ∧ sk p d s ≤ s + d ∧ (∀ j, s ≤ j → j < sk p d s → p j = true) ∧ (sk p d s < s + d → p (sk p d s) = false)
  | 0, s => ⟨Nat.le_refl _, Nat.le_refl _, fun j h1 h2 => by have h2 : j < s := h2; omega, fun h => by have h : s < s + 0 := h; omega⟩
  | d + 1, s => by
    unfold sk
    by_cases c : p s = true
    · rw [if_pos c]
      obtain ⟨h1, h2, h3, h4⟩ := sk_r p d (s + 1)
      refine ⟨by omega, by omega, fun j q1 q2 => ?_, fun q => h4 (by omega)⟩
      by_cases e : j = s
      · rw [e]; exact c
      · exact h3 j (by omega) q2
    · rw [if_neg c]
      refine ⟨Nat.le_refl _, by omega, fun j q1 q2 => by omega, fun q => ?_⟩
      cases h : p s
      · rfl
      · exact absurd h c
abbrev tok : Type := Nat × Nat × Nat
def kp (T : Nat → Nat) (n p : Nat) : Nat := if p < n then kd (T p) else 0
def nx (T : Nat → Nat) (n e : Nat) : tok := (kp T n (sk (fun j => T j == 32) (n - e) e), sk (fun j => T j == 32) (n - e) e, if kp T n (sk (fun j => T j == 32) (n - e) e) = 1 ∨ kp T n (sk (fun j => T j == 32) (n - e) e) = 2 then sk (fun j => kd (T j) == kp T n (sk (fun j => T j == 32) (n - e) e)) (n - sk (fun j => T j == 32) (n - e) e) (sk (fun j => T j == 32) (n - e) e) else if kp T n (sk (fun j => T j == 32) (n - e) e) = 0 then sk (fun j => T j == 32) (n - e) e else sk (fun j => T j == 32) (n - e) e + 1)
/-- the tape, in the class and in the reference -/
def tC (b : Nat) (T : Nat → Nat) (n : Nat) (C : gz_M) : Prop := n ≤ 250 ∧ (∀ j, j < n → T j < 256) ∧ C.2.2.1 (b + 1) 1 = nI n ∧ ∀ j, j < n → C.2.2.1 (b + 2) j = nI (T j)
def tM (b : Nat) (T : Nat → Nat) (n : Nat) (D : gz_M) : Prop := n ≤ 250 ∧ (∀ j, j < n → T j < 256) ∧ D.2.2.1 (b + 110) 9 = nI n ∧ ∀ j, j < n → D.2.2.1 (b + 127) j = nI (T j)
theorem tC.same {b n : Nat} {T : Nat → Nat} {C C' : gz_M} (h : tC b T n C) (h1 : C'.2.2.1 (b + 1) = C.2.2.1 (b + 1)) (h2 : C'.2.2.1 (b + 2) = C.2.2.1 (b + 2)) : tC b T n C' := by unfold tC; rw [h1, h2]; exact h
theorem tM.same {b n : Nat} {T : Nat → Nat} {C C' : gz_M} (h : tM b T n C) (h1 : C'.2.2.1 (b + 110) 9 = C.2.2.1 (b + 110) 9) (h2 : C'.2.2.1 (b + 127) = C.2.2.1 (b + 127)) : tM b T n C' := by unfold tM; rw [h1, h2]; exact h
section TOK
variable {fu b n : Nat} {T : Nat → Nat} {C : gz_M}
theorem lr_k (hL : iv_L b C) : C.2.1 (b + 3) = (3, 0) ∧ gz_gR C 2 0 (b + 3) = some (b + 1) ∧ C.2.1 (b + 1) = (7, 0) := ⟨hL.1 3 _ rfl, pu_gR (ci := 2) (hL.1 3 _ rfl) (hL.2 3 0 1 (by decide)), hL.1 1 _ rfl⟩
theorem rc_at (fu : Nat) (hL : iv_L b C) (h : tC b T n C) {p : Nat} (hp : p ≤ 300) : f_X6_at fu C (b + 1) (nI p) = some (if p < n then nI (T p) else -1) := by
  obtain ⟨h1, h2, h3, h4⟩ := h
  unfold f_X6_at
  rw [pu_gd (ci := 6) (hL.1 1 _ rfl)]
  simp only [gz_jn]
  rw [if_neg (nI_pos (by omega)), pu_gI (ci := 6) 1 (hL.1 1 _ rfl), h3, Option.bind_some]
  by_cases c : p < n
  · rw [if_neg (pn_nle c (by omega)), pu_gR (ci := 6) (hL.1 1 _ rfl) (hL.2 1 0 2 (by decide)), Option.bind_some, pu_aI (hL.1 2 _ rfl) (show p < 250 by omega) (by decide), Option.bind_some, h4 p c, if_pos c]
  · rw [if_pos (pn_le (by omega) (by omega)), if_neg c]
theorem rc_kp (fu : Nat) (C : gz_M) (hT : ∀ j, j < n → T j < 256) (p : Nat) : f_X2_kindOf fu C (if p < n then nI (T p) else -1) = some (nI (kp T n p)) := by
  unfold kp
  by_cases c : p < n
  · rw [if_pos c, if_pos c, rc_kd fu C (hT p c)]
  · rw [if_neg c, if_neg c]
    rfl
theorem rc_l8 : ∀ d s fuel (C : gz_M), iv_L b C → tC b T n C → C.2.2.1 (b + 3) 2 = nI s → s + d = n → d < fuel → ∃ C', (∀ J, lp_X2_next_8 J fu (b + 3) fuel C = J C') ∧ pf_f (fun c => c = b + 3) C C' ∧ C'.2.2.1 (b + 3) 2 = nI (sk (fun j => T j == 32) d s) ∧ ∀ j, j ≠ 2 → C'.2.2.1 (b + 3) j = C.2.2.1 (b + 3) j
  | 0, s, fuel, C, hL, hC, hs, hd, hf => by
    obtain ⟨f, rfl⟩ : ∃ f, fuel = f + 1 := ⟨fuel - 1, by omega⟩
    obtain ⟨k1, k2, k3⟩ := lr_k hL
    have hn := hC.1
    refine ⟨C, ?_, pf_f.refl, hs, fun _ _ => rfl⟩
    intro J
    rw [lp_X2_next_8, pu_gI (ci := 2) 2 k1, hs, Option.bind_some, k2, Option.bind_some, pu_gI (ci := 6) 1 k3, hC.2.2.1, Option.bind_some, if_pos (pn_le (by omega) (by omega))]
  | d + 1, s, fuel, C, hL, hC, hs, hd, hf => by
    obtain ⟨f, rfl⟩ : ∃ f, fuel = f + 1 := ⟨fuel - 1, by omega⟩
    obtain ⟨k1, k2, k3⟩ := lr_k hL
    have hn := hC.1
    have hsn : s < n := by omega
    have hTs := hC.2.1 s hsn
    have ea := rc_at fu hL hC (p := s) (by omega)
    rw [if_pos hsn] at ea
    by_cases c : T s = 32
    · obtain ⟨C', g1, g2, g3, g4⟩ := rc_l8 d (s + 1) f (gz_sI C (b + 3) 2 (nI (s + 1))) (hL.same rfl rfl) (hC.same (pv_I1 (by omega)) (pv_I1 (by omega))) pv_I9 (by omega) (by omega)
      refine ⟨C', ?_, (pf_f.one (P := fun c => c = b + 3) rfl).trans g2 (fun _ q => q) (fun _ q => q), ?_, fun j hj => ?_⟩
      · intro J
        rw [lp_X2_next_8, pu_gI (ci := 2) 2 k1, hs, Option.bind_some, k2, Option.bind_some, pu_gI (ci := 6) 1 k3, hC.2.2.1, Option.bind_some, if_neg (pn_nle hsn (by omega)), Option.bind_some, Option.bind_some, ea, Option.bind_some, if_pos (show nI (T s) = (32 : Int32) by rw [c]; rfl), Option.bind_some, pn_1, pu_pI (ci := 2) 2 _ k1, Option.bind_some, g1]
      · rw [g3]
        have e : sk (fun j => T j == 32) (d + 1) s = sk (fun j => T j == 32) d (s + 1) := if_pos (by simp [c])
        rw [e]
      · rw [g4 j hj, pv_I0 hj]
    · refine ⟨C, ?_, pf_f.refl, ?_, fun _ _ => rfl⟩
      · intro J
        rw [lp_X2_next_8, pu_gI (ci := 2) 2 k1, hs, Option.bind_some, k2, Option.bind_some, pu_gI (ci := 6) 1 k3, hC.2.2.1, Option.bind_some, if_neg (pn_nle hsn (by omega)), Option.bind_some, Option.bind_some, ea, Option.bind_some, if_neg (show ¬ nI (T s) = (32 : Int32) from fun q => c ((nI_eq (b := 32) (by omega) (by omega)).mp q))]
      · have e : sk (fun j => T j == 32) (d + 1) s = s := if_neg (by simp [c])
        rw [e]
        exact hs
theorem rc_l93 (k : Nat) (hk : k ≤ 4) : ∀ d s fuel (C : gz_M), iv_L b C → tC b T n C → C.2.2.1 (b + 3) 1 = nI k → C.2.2.1 (b + 3) 3 = nI s → s + d = n → d < fuel → ∃ C', (∀ J, lp_X2_next_93 J fu (b + 3) fuel C = J C') ∧ pf_f (fun c => c = b + 3) C C' ∧ C'.2.2.1 (b + 3) 3 = nI (sk (fun j => kd (T j) == k) d s) ∧ ∀ j, j ≠ 3 → C'.2.2.1 (b + 3) j = C.2.2.1 (b + 3) j
  | 0, s, fuel, C, hL, hC, h1, hs, hd, hf => by
    obtain ⟨f, rfl⟩ : ∃ f, fuel = f + 1 := ⟨fuel - 1, by omega⟩
    obtain ⟨k1, k2, k3⟩ := lr_k hL
    have hn := hC.1
    refine ⟨C, ?_, pf_f.refl, hs, fun _ _ => rfl⟩
    intro J
    rw [lp_X2_next_93, pu_gI (ci := 2) 3 k1, hs, Option.bind_some, k2, Option.bind_some, pu_gI (ci := 6) 1 k3, hC.2.2.1, Option.bind_some, if_pos (pn_le (by omega) (by omega))]
  | d + 1, s, fuel, C, hL, hC, h1, hs, hd, hf => by
    obtain ⟨f, rfl⟩ : ∃ f, fuel = f + 1 := ⟨fuel - 1, by omega⟩
    obtain ⟨k1, k2, k3⟩ := lr_k hL
    have hn := hC.1
    have hsn : s < n := by omega
    have hTs := hC.2.1 s hsn
    have hkd := kd_r (T s) hTs
    have ea := rc_at fu hL hC (p := s) (by omega)
    rw [if_pos hsn] at ea
    by_cases c : kd (T s) = k
    · obtain ⟨C', g1, g2, g3, g4⟩ := rc_l93 k hk d (s + 1) f (gz_sI C (b + 3) 3 (nI (s + 1))) (hL.same rfl rfl) (hC.same (pv_I1 (by omega)) (pv_I1 (by omega))) ((pv_I0 (by omega)).trans h1) pv_I9 (by omega) (by omega)
      refine ⟨C', ?_, (pf_f.one (P := fun c => c = b + 3) rfl).trans g2 (fun _ q => q) (fun _ q => q), ?_, fun j hj => ?_⟩
      · intro J
        rw [lp_X2_next_93, pu_gI (ci := 2) 3 k1, hs, Option.bind_some, k2, Option.bind_some, pu_gI (ci := 6) 1 k3, hC.2.2.1, Option.bind_some, if_neg (pn_nle hsn (by omega)), Option.bind_some, Option.bind_some, ea, Option.bind_some, rc_kd fu C hTs, Option.bind_some, pu_gI (ci := 2) 1 k1, h1, Option.bind_some, if_pos (by rw [c]), Option.bind_some, pn_1, pu_pI (ci := 2) 3 _ k1, Option.bind_some, g1]
      · rw [g3]
        have e : sk (fun j => kd (T j) == k) (d + 1) s = sk (fun j => kd (T j) == k) d (s + 1) := if_pos (by simp [c])
        rw [e]
      · rw [g4 j hj, pv_I0 hj]
    · refine ⟨C, ?_, pf_f.refl, ?_, fun _ _ => rfl⟩
      · intro J
        rw [lp_X2_next_93, pu_gI (ci := 2) 3 k1, hs, Option.bind_some, k2, Option.bind_some, pu_gI (ci := 6) 1 k3, hC.2.2.1, Option.bind_some, if_neg (pn_nle hsn (by omega)), Option.bind_some, Option.bind_some, ea, Option.bind_some, rc_kd fu C hTs, Option.bind_some, pu_gI (ci := 2) 1 k1, h1, Option.bind_some, if_neg (fun q => c ((nI_eq (by omega) (by omega)).mp q))]
      · have e : sk (fun j => kd (T j) == k) (d + 1) s = s := if_neg (by simp [c])
        rw [e]
        exact hs
def rC (b : Nat) (t : tok) (C : gz_M) : Prop := C.2.2.1 (b + 3) 1 = nI t.1 ∧ C.2.2.1 (b + 3) 2 = nI t.2.1 ∧ C.2.2.1 (b + 3) 3 = nI t.2.2
theorem kp_le (hT : ∀ j, j < n → T j < 256) (p : Nat) : kp T n p ≤ 4 := by
  unfold kp
  by_cases c : p < n
  · rw [if_pos c]; exact (kd_r _ (hT p c)).2.1
  · rw [if_neg c]; omega
theorem rc_next (hfu : 5000 ≤ fu) (hL : iv_L b C) (hC : tC b T n C) {e : Nat} (he : e ≤ n) (h3 : C.2.2.1 (b + 3) 3 = nI e) : ∃ C', f_X2_next fu C (b + 3) = some C' ∧ pf_f (fun c => c = b + 3) C C' ∧ rC b (nx T n e) C' ∧ C'.2.2.1 (b + 3) 4 = C.2.2.1 (b + 3) 4 := by
  obtain ⟨k1, k2, k3⟩ := lr_k hL
  have hn := hC.1
  have hT := hC.2.1
  obtain ⟨s1, s2, s3, s4⟩ := sk_r (fun j => T j == 32) (n - e) e
  have hsk : ∃ s, s = sk (fun j => T j == 32) (n - e) e := ⟨_, rfl⟩
  obtain ⟨s, hs⟩ := hsk
  have hnx : nx T n e = (kp T n s, s, if kp T n s = 1 ∨ kp T n s = 2 then sk (fun j => kd (T j) == kp T n s) (n - s) s else if kp T n s = 0 then s else s + 1) := by rw [hs]; rfl
  rw [← hs] at s1 s2
  have hk4 := kp_le (T := T) (n := n) hT s
  obtain ⟨C1, c1, c2, c3, c4⟩ := rc_l8 (fu := fu) (b := b) (n := n) (T := T) (n - e) e fu (gz_sI C (b + 3) 2 (nI e)) (hL.same rfl rfl) (hC.same (pv_I1 (by omega)) (pv_I1 (by omega))) pv_I9 (by omega) (by omega)
  rw [← hs] at c3
  have w1 : pf_f (fun c => c = b + 3) C C1 := (pf_f.one (P := fun c => c = b + 3) rfl).trans c2 (fun _ q => q) (fun _ q => q)
  have L1 := hL.same w1.2.1 w1.2.2.2.1
  have t1 : tC b T n C1 := hC.same (w1.2.2.2.2 _ (by omega)) (w1.2.2.2.2 _ (by omega))
  obtain ⟨q1, q2, q3⟩ := lr_k L1
  have v4 : C1.2.2.1 (b + 3) 4 = C.2.2.1 (b + 3) 4 := (c4 4 (by omega)).trans (pv_I0 (by omega))
  have eA : (gz_sI C1 (b + 3) 1 (nI (kp T n s))).2.2.1 (b + 3) 2 = nI s := (pv_I0 (by omega)).trans c3
  have kA : (gz_sI C1 (b + 3) 1 (nI (kp T n s))).2.1 (b + 3) = (3, 0) := q1
  have kN : (gz_sI (gz_sI C1 (b + 3) 1 (nI (kp T n s))) (b + 3) 3 (nI s)).2.1 (b + 3) = (3, 0) := q1
  have wN : pf_f (fun c => c = b + 3) C (gz_sI (gz_sI C1 (b + 3) 1 (nI (kp T n s))) (b + 3) 3 (nI s)) := (w1.two rfl).two rfl
  have n1 : (gz_sI (gz_sI C1 (b + 3) 1 (nI (kp T n s))) (b + 3) 3 (nI s)).2.2.1 (b + 3) 1 = nI (kp T n s) := (pv_I0 (by omega)).trans pv_I9
  have n2 : (gz_sI (gz_sI C1 (b + 3) 1 (nI (kp T n s))) (b + 3) 3 (nI s)).2.2.1 (b + 3) 2 = nI s := (pv_I0 (by omega)).trans eA
  have n3 : (gz_sI (gz_sI C1 (b + 3) 1 (nI (kp T n s))) (b + 3) 3 (nI s)).2.2.1 (b + 3) 3 = nI s := pv_I9
  have n4 : (gz_sI (gz_sI C1 (b + 3) 1 (nI (kp T n s))) (b + 3) 3 (nI s)).2.2.1 (b + 3) 4 = C.2.2.1 (b + 3) 4 := ((pv_I0 (by omega)).trans (pv_I0 (by omega))).trans v4
  have red : f_X2_next fu C (b + 3) = (if nI (kp T n s) = (1 : Int32) then lp_X2_next_93 (fun M36 => some M36) fu (b + 3) fu (gz_sI (gz_sI C1 (b + 3) 1 (nI (kp T n s))) (b + 3) 3 (nI s)) else if nI (kp T n s) = (2 : Int32) then lp_X2_next_93 (fun M36 => some M36) fu (b + 3) fu (gz_sI (gz_sI C1 (b + 3) 1 (nI (kp T n s))) (b + 3) 3 (nI s)) else if nI (kp T n s) = 0 then some (gz_sI (gz_sI C1 (b + 3) 1 (nI (kp T n s))) (b + 3) 3 (nI s)) else some (gz_sI (gz_sI (gz_sI C1 (b + 3) 1 (nI (kp T n s))) (b + 3) 3 (nI s)) (b + 3) 3 (nI (s + 1)))) := by
    unfold f_X2_next
    rw [pu_gd (ci := 2) k1, pu_gI (ci := 2) 3 k1, h3, Option.bind_some, pu_pI (ci := 2) 2 _ k1, Option.bind_some, c1, q2, Option.bind_some, pu_gI (ci := 2) 2 q1, c3, Option.bind_some, rc_at fu L1 t1 (by omega), Option.bind_some, rc_kp fu C1 hT s, Option.bind_some, pu_pI (ci := 2) 1 _ q1, Option.bind_some, pu_gI (ci := 2) 2 kA, eA, Option.bind_some, pu_pI (ci := 2) 3 _ kA, Option.bind_some, pu_gI (ci := 2) 1 kN, n1]
    simp only [gz_jn, Option.bind_some]
    rw [pu_gI (ci := 2) 3 kN, n3, Option.bind_some, pn_1, pu_pI (ci := 2) 3 _ kN, Option.bind_some]
  have L2 := hL.same wN.2.1 wN.2.2.2.1
  have t2 : tC b T n (gz_sI (gz_sI C1 (b + 3) 1 (nI (kp T n s))) (b + 3) 3 (nI s)) := hC.same (wN.2.2.2.2 _ (by omega)) (wN.2.2.2.2 _ (by omega))
  rw [hnx]
  generalize hN : gz_sI (gz_sI C1 (b + 3) 1 (nI (kp T n s))) (b + 3) 3 (nI s) = N at *
  have cases4 : kp T n s = 0 ∨ kp T n s = 1 ∨ kp T n s = 2 ∨ kp T n s = 3 ∨ kp T n s = 4 := by omega
  have two : ∀ k, kp T n s = k → (k = 1 ∨ k = 2) → ∃ C', f_X2_next fu C (b + 3) = some C' ∧ pf_f (fun c => c = b + 3) C C' ∧ rC b (kp T n s, s, if kp T n s = 1 ∨ kp T n s = 2 then sk (fun j => kd (T j) == kp T n s) (n - s) s else if kp T n s = 0 then s else s + 1) C' ∧ C'.2.2.1 (b + 3) 4 = C.2.2.1 (b + 3) 4 := by
    intro k ek hk
    obtain ⟨C', g1, g2, g3, g4⟩ := rc_l93 (fu := fu) (b := b) (n := n) (T := T) (kp T n s) hk4 (n - s) s fu N L2 t2 n1 n3 (by omega) (by omega)
    refine ⟨C', red.trans ?_, wN.trans g2 (fun _ q => q) (fun _ q => q), ⟨(g4 1 (by omega)).trans n1, (g4 2 (by omega)).trans n2, ?_⟩, (g4 4 (by omega)).trans n4⟩
    · rcases hk with e1 | e1
      · rw [if_pos (show nI (kp T n s) = (1 : Int32) by rw [ek, e1]; rfl)]
        exact g1 _
      · rw [if_neg (show ¬ nI (kp T n s) = (1 : Int32) by rw [ek, e1]; decide), if_pos (show nI (kp T n s) = (2 : Int32) by rw [ek, e1]; rfl)]
        exact g1 _
    · rw [g3, if_pos (by omega)]
  rcases cases4 with e1 | e1 | e1 | e1 | e1
  · refine ⟨N, red.trans ?_, wN, ⟨n1, n2, ?_⟩, n4⟩
    · rw [if_neg (show ¬ nI (kp T n s) = (1 : Int32) by rw [e1]; decide), if_neg (show ¬ nI (kp T n s) = (2 : Int32) by rw [e1]; decide), if_pos (show nI (kp T n s) = 0 by rw [e1]; rfl)]
    · rw [if_neg (by omega), if_pos e1]; exact n3
  · exact two 1 e1 (Or.inl rfl)
  · exact two 2 e1 (Or.inr rfl)
  · refine ⟨gz_sI N (b + 3) 3 (nI (s + 1)), red.trans ?_, wN.two rfl, ⟨(pv_I0 (by omega)).trans n1, (pv_I0 (by omega)).trans n2, ?_⟩, (pv_I0 (by omega)).trans n4⟩
    · rw [if_neg (show ¬ nI (kp T n s) = (1 : Int32) by rw [e1]; decide), if_neg (show ¬ nI (kp T n s) = (2 : Int32) by rw [e1]; decide), if_neg (show ¬ nI (kp T n s) = 0 by rw [e1]; decide)]
    · rw [if_neg (by omega), if_neg (by omega)]; exact pv_I9
  · refine ⟨gz_sI N (b + 3) 3 (nI (s + 1)), red.trans ?_, wN.two rfl, ⟨(pv_I0 (by omega)).trans n1, (pv_I0 (by omega)).trans n2, ?_⟩, (pv_I0 (by omega)).trans n4⟩
    · rw [if_neg (show ¬ nI (kp T n s) = (1 : Int32) by rw [e1]; decide), if_neg (show ¬ nI (kp T n s) = (2 : Int32) by rw [e1]; decide), if_neg (show ¬ nI (kp T n s) = 0 by rw [e1]; decide)]
    · rw [if_neg (by omega), if_neg (by omega)]; exact pv_I9
end TOK
