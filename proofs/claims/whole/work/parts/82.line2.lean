/-! lines: how many, which; the sums by feet -/
def olt : Option Nat → Option Nat → Bool
  | some x, some y => decide (x < y)
  | some _, none => true
  | none, _ => false
def ln_u (K : Nat) (W S : Nat → Nat) : Nat → Nat
  | 0 => 1
  | m + 1 => if olt (ln_L K W S (m + 2) 0) (ln_L K W S (ln_u K W S m) 0) = true then m + 2 else ln_u K W S m
def cnt (A p : Nat) : Nat := fb_sm (fun q => (A.testBit q).toNat) p
def gI (K : Nat) (W S : Nat → Nat) (u : Nat) : Nat → Nat
  | 0 => 0
  | t + 1 => jst K W S (u - t - 1) (gI K W S u t) + 1
section LN2
variable {K : Nat} {W S : Nat → Nat}
theorem ln_1 (hK : 0 < K) : ∃ v, ln_L K W S 1 0 = some v := by
  have hb : (2 ^ (K - 1)).testBit (K - 1) = true := by rw [Nat.testBit_two_pow]; simp
  have e : nb K (2 ^ (K - 1)) 0 = K - 1 := nb_u (by omega) (by omega) hb (fun p _ q => by rw [Nat.testBit_two_pow]; exact decide_eq_false (by omega)) hb
  have eB : ln_B K (2 ^ (K - 1)) 0 = 1 := by
    rw [ln_B_split hK hb, e]
    unfold ln_B
    rw [show K - (K - 1 + 1) = 0 by omega]
    rfl
  obtain ⟨v, h, -⟩ := ln_lb (W := W) (S := S) hb 1 0 (by omega) eB
  exact ⟨v, h⟩
theorem ln_u_ok (hK : 0 < K) : ∀ m, 1 ≤ ln_u K W S m ∧ ln_u K W S m ≤ m + 1 ∧ ∃ v, ln_L K W S (ln_u K W S m) 0 = some v ∧ (∀ k x, 1 ≤ k → k ≤ m + 1 → ln_L K W S k 0 = some x → v ≤ x) ∧ ∀ k x, 1 ≤ k → k < ln_u K W S m → ln_L K W S k 0 = some x → v < x
  | 0 => by
    obtain ⟨v, h⟩ := ln_1 (W := W) (S := S) hK
    refine ⟨Nat.le_refl _, Nat.le_refl _, v, h, fun k x h1 h2 h3 => ?_, fun k x h1 h2 h3 => ?_⟩
    · rw [show k = 1 by omega, h] at h3
      cases h3
      exact Nat.le_refl _
    · have h2 : k < 1 := h2
      omega
  | m + 1 => by
    obtain ⟨a1, a2, v, a3, a4, a5⟩ := ln_u_ok hK m
    have e : ln_u K W S (m + 1) = if olt (ln_L K W S (m + 2) 0) (ln_L K W S (ln_u K W S m) 0) = true then m + 2 else ln_u K W S m := rfl
    cases q : ln_L K W S (m + 2) 0 with
    | none =>
      rw [q, if_neg (by simp [olt])] at e
      rw [e]
      refine ⟨a1, by omega, v, a3, fun k x h1 h2 h3 => ?_, a5⟩
      by_cases z : k = m + 2
      · rw [z, q] at h3; cases h3
      · exact a4 k x h1 (by omega) h3
    | some y =>
      by_cases c : y < v
      · rw [q, a3, if_pos (by simp [olt, c])] at e
        rw [e]
        refine ⟨by omega, by omega, y, q, fun k x h1 h2 h3 => ?_, fun k x h1 h2 h3 => ?_⟩
        · by_cases z : k = m + 2
          · rw [z, q] at h3; cases h3; exact Nat.le_refl _
          · have := a4 k x h1 (by omega) h3; omega
        · have := a4 k x h1 (by omega) h3; omega
      · rw [q, a3, if_neg (by simp [olt, c])] at e
        rw [e]
        refine ⟨a1, by omega, v, a3, fun k x h1 h2 h3 => ?_, a5⟩
        by_cases z : k = m + 2
        · rw [z, q] at h3; cases h3; omega
        · exact a4 k x h1 (by omega) h3
/-- the class's set is the best -/
theorem ln_best (hK : 0 < K) {n v : Nat} (hn : 1 ≤ n) (hv : ln_L K W S (ln_u K W S (n - 1)) 0 = some v) {B : Nat} (hB : B.testBit (K - 1) = true) (hlt : B < 2 ^ K) (hb : ln_B K B 0 ≤ n) : v ≤ ln_C K W S B 0 ∧ (ln_C K W S B 0 = v → ln_u K W S (n - 1) ≤ ln_B K B 0 ∧ (ln_B K B 0 = ln_u K W S (n - 1) → B = gA K W S (ln_u K W S (n - 1)) 0 ∨ ∃ p, p < K ∧ (gA K W S (ln_u K W S (n - 1)) 0).testBit p = true ∧ B.testBit p = false ∧ ∀ q, q < p → (gA K W S (ln_u K W S (n - 1)) 0).testBit q = B.testBit q)) := by
  obtain ⟨a1, a2, v', a3, a4, a5⟩ := ln_u_ok (W := W) (S := S) hK (n - 1)
  rw [hv] at a3
  cases a3
  have hb1 : 1 ≤ ln_B K B 0 := by rw [ln_B_split hK hB]; omega
  obtain ⟨x, b1, b2⟩ := ln_lb (W := W) (S := S) hB (ln_B K B 0) 0 (by omega) rfl
  have h1 := a4 _ x hb1 (by omega) b1
  refine ⟨by omega, fun hc => ⟨Nat.le_of_not_lt (fun q => ?_), fun he => ?_⟩⟩
  · have := a5 _ x hb1 q b1
    omega
  · obtain ⟨g1, g2, -, -⟩ := gA_ok (W := W) (S := S) _ 0 v (by omega) hv
    rcases gA_lex (B := B) _ 0 v (by omega) hv (fun _ => hB) he hc with s | ⟨p, s1, s2, s3, s4, s5⟩
    · refine Or.inl (Nat.eq_of_testBit_eq (fun p => ?_))
      by_cases q : p < K
      · exact (s p (by omega) q).symm
      · rw [g1 p (by omega)]
        exact Nat.testBit_lt_two_pow (Nat.lt_of_lt_of_le hlt (Nat.pow_le_pow_right (by omega) (by omega)))
    · exact Or.inr ⟨p, s2, s3, s4, fun q hq => s5 q (by omega) hq⟩
theorem gA_lt {u v : Nat} (hK : 0 < K) (hv : ln_L K W S u 0 = some v) : gA K W S u 0 < 2 ^ K ∧ 2 ^ (K - 1) ≤ gA K W S u 0 ∧ (gA K W S u 0).testBit (K - 1) = true := by
  obtain ⟨g1, g2, -, -⟩ := gA_ok (W := W) (S := S) _ 0 v (by omega) hv
  exact ⟨Nat.lt_pow_two_of_testBit _ (fun i hi => g1 i (Or.inr hi)), Nat.le_of_not_lt (fun q => by have := Nat.testBit_lt_two_pow q; rw [g2 hK] at this; cases this), g2 hK⟩
theorem cnt_s (A p : Nat) : cnt A (p + 1) = cnt A p + (A.testBit p).toNat := rfl
theorem cnt_mono (A p : Nat) : ∀ d, cnt A p ≤ cnt A (p + d)
  | 0 => Nat.le_refl _
  | d + 1 => by
    have := cnt_mono A p d
    have e : cnt A (p + (d + 1)) = cnt A (p + d) + (A.testBit (p + d)).toNat := rfl
    omega
theorem cnt_skip (A p : Nat) : ∀ d, (∀ q, p ≤ q → q < p + d → A.testBit q = false) → cnt A (p + d) = cnt A p
  | 0, _ => rfl
  | d + 1, h => by
    have e : cnt A (p + (d + 1)) = cnt A (p + d) + (A.testBit (p + d)).toNat := rfl
    rw [e, h (p + d) (by omega) (by omega), cnt_skip A p d (fun q q1 q2 => h q q1 (by omega))]
    rfl
theorem gI_ok {u v : Nat} (hv : ln_L K W S u 0 = some v) : ∀ t, t ≤ u → gI K W S u t ≤ K ∧ (∃ r, ln_L K W S (u - t) (gI K W S u t) = some r) ∧ (∀ p, gI K W S u t ≤ p → (gA K W S u 0).testBit p = (gA K W S (u - t) (gI K W S u t)).testBit p) ∧ cnt (gA K W S u 0) (gI K W S u t) = t
  | 0, _ => ⟨Nat.zero_le _, ⟨v, hv⟩, fun p _ => rfl, rfl⟩
  | t + 1, h => by
    obtain ⟨a1, ⟨r, a2⟩, a3, a4⟩ := gI_ok hv t (by omega)
    obtain ⟨k, hk⟩ : ∃ k, u - t = k + 1 := ⟨u - t - 1, by omega⟩
    have hk' : u - t - 1 = k := by omega
    have hk2 : u - (t + 1) = k := by omega
    rw [hk] at a2 a3
    obtain ⟨c, j1, j2, j3, j4⟩ := jst_r a2
    have eI : gI K W S u (t + 1) = jst K W S k (gI K W S u t) + 1 := by rw [← hk']; rfl
    have hR : ∃ r', ln_L K W S k (jst K W S k (gI K W S u t) + 1) = some r' := by
      unfold ln_c at j3
      cases e : ln_L K W S k (jst K W S k (gI K W S u t) + 1) with
      | none => rw [e] at j3; cases j3
      | some r' => exact ⟨r', rfl⟩
    obtain ⟨r', hr'⟩ := hR
    obtain ⟨u1, -, -, -⟩ := gA_ok k _ r' (by omega) hr'
    have hb := gA_bit (K := K) (W := W) (S := S) k (gI K W S u t)
    rw [eI, hk2]
    refine ⟨by omega, ⟨r', hr'⟩, fun p hp => ?_, ?_⟩
    · rw [a3 p (by omega), hb, decide_eq_false (by omega), Bool.false_or]
    · rw [cnt_s, a3 _ j1, hb, decide_eq_true rfl, Bool.true_or]
      have : cnt (gA K W S u 0) (gI K W S u t + (jst K W S k (gI K W S u t) - gI K W S u t)) = cnt (gA K W S u 0) (gI K W S u t) := cnt_skip _ _ _ (fun q q1 q2 => by
        rw [a3 q q1, hb, decide_eq_false (by omega), u1 q (by omega)]; rfl)
      rw [show gI K W S u t + (jst K W S k (gI K W S u t) - gI K W S u t) = jst K W S k (gI K W S u t) by omega] at this
      rw [this, a4]
      rfl
/-- the one chosen at step t -/
theorem gI_p {u v t : Nat} (hv : ln_L K W S u 0 = some v) (ht : t < u) : jst K W S (u - t - 1) (gI K W S u t) < K ∧ (gA K W S u 0).testBit (jst K W S (u - t - 1) (gI K W S u t)) = true ∧ cnt (gA K W S u 0) (jst K W S (u - t - 1) (gI K W S u t)) = t := by
  obtain ⟨a1, ⟨r, a2⟩, a3, a4⟩ := gI_ok hv t (by omega)
  obtain ⟨k, hk⟩ : ∃ k, u - t = k + 1 := ⟨u - t - 1, by omega⟩
  have hk' : u - t - 1 = k := by omega
  rw [hk'] at *
  rw [hk] at a2 a3
  obtain ⟨c, j1, j2, j3, j4⟩ := jst_r a2
  have hR : ∃ r', ln_L K W S k (jst K W S k (gI K W S u t) + 1) = some r' := by
    unfold ln_c at j3
    cases e : ln_L K W S k (jst K W S k (gI K W S u t) + 1) with
    | none => rw [e] at j3; cases j3
    | some r' => exact ⟨r', rfl⟩
  obtain ⟨r', hr'⟩ := hR
  obtain ⟨u1, -, -, -⟩ := gA_ok k _ r' (by omega) hr'
  have hb := gA_bit (K := K) (W := W) (S := S) k (gI K W S u t)
  refine ⟨j2, by rw [a3 _ j1, hb]; simp, ?_⟩
  have : cnt (gA K W S u 0) (gI K W S u t + (jst K W S k (gI K W S u t) - gI K W S u t)) = cnt (gA K W S u 0) (gI K W S u t) := cnt_skip _ _ _ (fun q q1 q2 => by
    rw [a3 q q1, hb, decide_eq_false (by omega), u1 q (by omega)]; rfl)
  rw [show gI K W S u t + (jst K W S k (gI K W S u t) - gI K W S u t) = jst K W S k (gI K W S u t) by omega] at this
  rw [this, a4]
theorem ln_B_cnt (A : Nat) : ln_B K A 0 = cnt A K := by
  unfold ln_B cnt
  rw [Nat.sub_zero]
  exact fb_sm_cong (fun t _ => by rw [Nat.zero_add])
theorem ln_bc {A : Nat} (hK : K ≤ 12) (hA : A < 2 ^ K) : sp_bc A = ln_B K A 0 := by
  rw [ln_B_cnt]
  show cnt A 12 = cnt A K
  have := cnt_skip A K (12 - K) (fun q q1 q2 => Nat.testBit_lt_two_pow (Nat.lt_of_lt_of_le hA (Nat.pow_le_pow_right (by omega) q1)))
  rw [show K + (12 - K) = 12 by omega] at this
  exact this
/-! bounds -/
theorem ln_h_le {w0 : Nat} (hW : ∀ t, t < K → W t ≤ w0) (hS : ∀ t, t < K → S t ≤ 30) {i j : Nat} (hj : j < K) : ln_h W S i j ≤ (j - i) * (w0 * 30) := fb_sm_bound (fun t ht => Nat.mul_le_mul (hW _ (by omega)) (by have := hS j hj; omega))
theorem ln_L_le {w0 : Nat} (hW : ∀ t, t < K → W t ≤ w0) (hS : ∀ t, t < K → S t ≤ 30) : ∀ k i v, i ≤ K → ln_L K W S k i = some v → v ≤ (K - i) * (w0 * 30)
  | 0, i, v, hi, h => by
    have e : (if i = K then some 0 else none) = some v := h
    split at e
    · cases e; exact Nat.zero_le _
    · cases e
  | k + 1, i, v, hi, h => by
    obtain ⟨c, j1, j2, j3, j4⟩ := jst_r h
    unfold ln_c at j3
    cases e : ln_L K W S k (jst K W S k i + 1) with
    | none => rw [e] at j3; cases j3
    | some r =>
      rw [e] at j3
      cases j3
      have h1 := ln_h_le hW hS (i := i) j2
      have h2 := ln_L_le hW hS k _ r (by omega) e
      have h3 : (jst K W S k i - i) * (w0 * 30) + (K - (jst K W S k i + 1)) * (w0 * 30) ≤ (K - i) * (w0 * 30) := by
        rw [← Nat.add_mul]
        exact Nat.mul_le_mul_right _ (by omega)
      omega
end LN2
/-! sizes in order -/
theorem sz_f_mono {V : pv_V} {m n : Nat} : ∀ v i j, i < j → j < sz_c V m n v → sz_f V m n v i < sz_f V m n v j
  | 0, i, j, _, h => absurd h (Nat.not_lt_zero j)
  | v + 1, i, j, hij, h => by
    rw [sz_c_s] at h
    rw [sz_f_s, sz_f_s]
    cases hb : sz_h V m v n
    · rw [hb] at h
      rw [if_neg (by simp), if_neg (by simp)]
      exact sz_f_mono v i j hij h
    · rw [hb] at h
      have h' : j < sz_c V m n v + 1 := h
      rw [if_neg (by omega)]
      by_cases q : j = sz_c V m n v
      · rw [if_pos ⟨rfl, q⟩]
        exact sz_f_lt v i (by omega)
      · rw [if_neg (fun z => q z.2)]
        exact sz_f_mono v i j hij (by omega)
theorem sS_mono {V : pv_V} {m i j : Nat} (h : i < j) (hj : j < sC V m) : sS V m i < sS V m j := sz_f_mono 31 i j h hj
theorem sS_le_iff {V : pv_V} {m i j : Nat} (hi : i < sC V m) (hj : j < sC V m) : sS V m i ≤ sS V m j ↔ i ≤ j := by
  constructor
  · intro h
    refine Nat.le_of_not_lt (fun q => ?_)
    have := sS_mono q hi
    omega
  · intro h
    by_cases q : i = j
    · rw [q]; exact Nat.le_refl _
    · exact Nat.le_of_lt (sS_mono (by omega) hj)
theorem sS_inj {V : pv_V} {m i j : Nat} (hi : i < sC V m) (hj : j < sC V m) (h : sS V m i = sS V m j) : i = j := by
  have h1 := (sS_le_iff hi hj).mp (by omega)
  have h2 := (sS_le_iff hj hi).mp (by omega)
  omega
/-- the place of a foot's size -/
def ix (V : pv_V) (m f : Nat) : Nat := sz_c V m (pv_nf V) (pv_F V (5 * f + m))
theorem ix_r {V : pv_V} (hV : pv_ok V) {m f : Nat} (hm : m < 3) (hf : f < pv_nf V) : ix V m f < sC V m ∧ sS V m (ix V m f) = pv_F V (5 * f + m) := by
  have h30 := (hV.2.2.2.2.2.1 f hf).1 m hm
  have ht : sz_h V m (pv_F V (5 * f + m)) (pv_nf V) = true := (sz_h_iff V m _ _).mpr ⟨f, hf, rfl⟩
  have e1 : sz_c V m (pv_nf V) (pv_F V (5 * f + m) + 1) = sz_c V m (pv_nf V) (pv_F V (5 * f + m)) + 1 := by rw [sz_c_s, ht]; rfl
  have mono := sz_c_mono V m (pv_nf V) (pv_F V (5 * f + m) + 1) (30 - pv_F V (5 * f + m))
  have keep := sz_f_keep (V := V) (m := m) (n := pv_nf V) (v := pv_F V (5 * f + m) + 1) (i := ix V m f) (by unfold ix; omega) (30 - pv_F V (5 * f + m))
  rw [show pv_F V (5 * f + m) + 1 + (30 - pv_F V (5 * f + m)) = 31 by omega] at mono keep
  refine ⟨?_, ?_⟩
  · show sz_c V m (pv_nf V) (pv_F V (5 * f + m)) < sz_c V m (pv_nf V) 31
    omega
  · show sz_f V m (pv_nf V) 31 (ix V m f) = _
    rw [keep, sz_f_s, if_pos ⟨ht, rfl⟩]
theorem fb_one {x : Nat → Nat} {j : Nat} : ∀ n, j < n → fb_sm (fun i => if j = i then x i else 0) n = x j
  | 0, h => absurd h (Nat.not_lt_zero j)
  | n + 1, h => by
    rw [fb_sm_succ]
    by_cases q : j = n
    · subst q
      rw [if_pos rfl, fb_sm_cong (g := fun _ => 0) (fun k hk => if_neg (by omega)), fb_sm_const, Nat.mul_zero, Nat.zero_add]
    · rw [if_neg q, fb_one n (by omega), Nat.add_zero]
theorem fb_grp {T h g : Nat → Nat} {w N : Nat} : ∀ n, (∀ f, f < n → g f < N) → fb_sm (fun f => T f * w * h (g f)) n = fb_sm (fun i => fb_sm (fun f => if g f = i then T f else 0) n * w * h i) N
  | 0, _ => by
    have e : fb_sm (fun i => fb_sm (fun f => if g f = i then T f else 0) 0 * w * h i) N = fb_sm (fun _ => 0) N := fb_sm_cong (fun i _ => by
      show 0 * w * h i = 0
      rw [Nat.zero_mul, Nat.zero_mul])
    rw [e, fb_sm_const, Nat.mul_zero]
    rfl
  | n + 1, hg => by
    rw [fb_sm_succ, fb_grp n (fun f hf => hg f (by omega))]
    have e : fb_sm (fun i => fb_sm (fun f => if g f = i then T f else 0) (n + 1) * w * h i) N = fb_sm (fun i => fb_sm (fun f => if g f = i then T f else 0) n * w * h i + (if g n = i then T n * w * h i else 0)) N := fb_sm_cong (fun i hi => by
      rw [fb_sm_succ, Nat.add_mul, Nat.add_mul]
      by_cases q : g n = i
      · rw [if_pos q, if_pos q]
      · rw [if_neg q, if_neg q, Nat.zero_mul, Nat.zero_mul])
    rw [e, fb_sm_add, fb_one N (hg n (by omega))]
/-- how many of a size, and what that weighs -/
def ln_T (V : pv_V) (m i n : Nat) : Nat := fb_sm (fun f => if pv_F V (5 * f + m) = sS V m i then pv_F V (5 * f + 3) else 0) n
def ln_W (V : pv_V) (m i : Nat) : Nat := ln_T V m i (pv_nf V) * pv_wa V m
theorem ln_grp {V : pv_V} (hV : pv_ok V) {m A : Nat} (hm : m < 3) : fb_sm (fun f => pv_F V (5 * f + 3) * pv_wa V m * (sS V m (nb (sC V m) A (ix V m f)) - pv_F V (5 * f + m))) (pv_nf V) = ln_C (sC V m) (ln_W V m) (sS V m) A 0 := by
  have e1 : fb_sm (fun f => pv_F V (5 * f + 3) * pv_wa V m * (sS V m (nb (sC V m) A (ix V m f)) - pv_F V (5 * f + m))) (pv_nf V) = fb_sm (fun f => pv_F V (5 * f + 3) * pv_wa V m * (fun i => sS V m (nb (sC V m) A i) - sS V m i) (ix V m f)) (pv_nf V) := fb_sm_cong (fun f hf => by
    show _ = pv_F V (5 * f + 3) * pv_wa V m * (sS V m (nb (sC V m) A (ix V m f)) - sS V m (ix V m f))
    rw [(ix_r hV hm hf).2])
  refine (e1.trans (fb_grp (T := fun f => pv_F V (5 * f + 3)) (h := fun i => sS V m (nb (sC V m) A i) - sS V m i) (g := ix V m) (w := pv_wa V m) (N := sC V m) (pv_nf V) (fun f hf => (ix_r hV hm hf).1))).trans ?_
  unfold ln_C
  rw [Nat.sub_zero]
  refine fb_sm_cong (fun i hi => ?_)
  rw [Nat.zero_add]
  show _ = ln_T V m i (pv_nf V) * pv_wa V m * _
  have e2 : fb_sm (fun f => if ix V m f = i then pv_F V (5 * f + 3) else 0) (pv_nf V) = ln_T V m i (pv_nf V) := fb_sm_cong (fun f hf => by
    obtain ⟨q1, q2⟩ := ix_r hV hm hf
    by_cases c : ix V m f = i
    · rw [if_pos c, if_pos (by rw [← q2, c])]
    · rw [if_neg c, if_neg (fun z => c (sS_inj q1 hi (by rw [q2, z])))])
  rw [e2]
theorem ln_T_le {V : pv_V} (hV : pv_ok V) (m i : Nat) {n : Nat} (hn : n ≤ pv_nf V) : ln_T V m i n ≤ 1188 := by
  have h : ∀ f, f < n → (if pv_F V (5 * f + m) = sS V m i then pv_F V (5 * f + 3) else 0) ≤ 99 := fun f hf => by
    split
    · exact (hV.2.2.2.2.2.1 f (by omega)).2.2.1
    · omega
  have := fb_sm_bound h
  have o1 := hV.1
  show fb_sm _ n ≤ 1188
  omega
theorem ln_W_le {V : pv_V} (hV : pv_ok V) {m : Nat} (hm : m < 3) (i : Nat) : ln_W V m i ≤ 10692 := by
  have h1 := ln_T_le hV m i (Nat.le_refl (pv_nf V))
  have h2 := (hV.2.2.2.2.1 m hm).1
  calc ln_W V m i ≤ 1188 * 9 := Nat.mul_le_mul h1 h2
  _ = 10692 := rfl
