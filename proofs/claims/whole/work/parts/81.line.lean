/-! lines: the least sums, and the choice -/
def omin (u v : Option Nat) : Option Nat := match u, v with
  | u, none => u
  | none, some y => some y
  | some x, some y => if y < x then some y else some x
theorem omin_n (u : Option Nat) : omin u none = u := by cases u <;> rfl
theorem omin_0 (y : Nat) : omin none (some y) = some y := rfl
theorem omin_1 (x y : Nat) : omin (some x) (some y) = if y < x then some y else some x := rfl
def ln_m (f : Nat → Option Nat) (i : Nat) : Nat → Option Nat
  | 0 => none
  | d + 1 => omin (ln_m f i d) (f (i + d))
theorem ln_m_n {f : Nat → Option Nat} {i : Nat} : ∀ d, ln_m f i d = none → ∀ j, i ≤ j → j < i + d → f j = none
  | 0, _, j, h1, h2 => by omega
  | d + 1, h, j, h1, h2 => by
    have e : omin (ln_m f i d) (f (i + d)) = none := h
    cases e1 : ln_m f i d with
    | some x =>
      rw [e1] at e
      cases e2 : f (i + d) with
      | none => rw [e2, omin_n] at e; cases e
      | some y => rw [e2, omin_1] at e; split at e <;> cases e
    | none =>
      rw [e1] at e
      cases e2 : f (i + d) with
      | some y => rw [e2, omin_0] at e; cases e
      | none =>
        by_cases q : j = i + d
        · rw [q]; exact e2
        · exact ln_m_n d e1 j h1 (by omega)
theorem ln_m_s {f : Nat → Option Nat} {i : Nat} : ∀ d v, ln_m f i d = some v → (∃ j, i ≤ j ∧ j < i + d ∧ f j = some v) ∧ ∀ j y, i ≤ j → j < i + d → f j = some y → v ≤ y
  | 0, v, h => by cases h
  | d + 1, v, h => by
    have e : omin (ln_m f i d) (f (i + d)) = some v := h
    cases e1 : ln_m f i d with
    | none =>
      have hn := ln_m_n d e1
      rw [e1] at e
      cases e2 : f (i + d) with
      | none => rw [e2] at e; cases e
      | some y =>
        rw [e2, omin_0] at e
        cases e
        refine ⟨⟨i + d, by omega, by omega, e2⟩, fun j y' h1 h2 h3 => ?_⟩
        by_cases q : j = i + d
        · rw [q, e2] at h3; cases h3; exact Nat.le_refl _
        · rw [hn j h1 (by omega)] at h3; cases h3
    | some x =>
      obtain ⟨⟨j0, a1, a2, a3⟩, a4⟩ := ln_m_s d x e1
      rw [e1] at e
      cases e2 : f (i + d) with
      | none =>
        rw [e2, omin_n] at e
        cases e
        refine ⟨⟨j0, a1, by omega, a3⟩, fun j y' h1 h2 h3 => ?_⟩
        by_cases q : j = i + d
        · rw [q, e2] at h3; cases h3
        · exact a4 j y' h1 (by omega) h3
      | some y =>
        rw [e2, omin_1] at e
        split at e
        · rename_i c
          cases e
          refine ⟨⟨i + d, by omega, by omega, e2⟩, fun j y' h1 h2 h3 => ?_⟩
          by_cases q : j = i + d
          · rw [q, e2] at h3; cases h3; exact Nat.le_refl _
          · have := a4 j y' h1 (by omega) h3; omega
        · rename_i c
          cases e
          refine ⟨⟨j0, a1, by omega, a3⟩, fun j y' h1 h2 h3 => ?_⟩
          by_cases q : j = i + d
          · rw [q, e2] at h3; cases h3; omega
          · exact a4 j y' h1 (by omega) h3
def ln_h (W S : Nat → Nat) (i j : Nat) : Nat := fb_sm (fun t => W (i + t) * (S j - S (i + t))) (j - i)
def ln_c (W S : Nat → Nat) (R : Nat → Option Nat) (i j : Nat) : Option Nat := (R (j + 1)).bind fun r => some (ln_h W S i j + r)
def ln_L (K : Nat) (W S : Nat → Nat) : Nat → Nat → Option Nat
  | 0, i => if i = K then some 0 else none
  | k + 1, i => ln_m (ln_c W S (ln_L K W S k) i) i (K - i)
/-- the next one of a set, from i on -/
def nb (K A i : Nat) : Nat := sk (fun p => !(A.testBit p)) (K - 1 - i) i
def ln_C (K : Nat) (W S : Nat → Nat) (A i : Nat) : Nat := fb_sm (fun t => W (i + t) * (S (nb K A (i + t)) - S (i + t))) (K - i)
def ln_B (K A i : Nat) : Nat := fb_sm (fun t => (A.testBit (i + t)).toNat) (K - i)
section LN
variable {K : Nat} {W S : Nat → Nat}
theorem nb_r {A i : Nat} (hi : i < K) (hb : A.testBit (K - 1) = true) : i ≤ nb K A i ∧ nb K A i < K ∧ A.testBit (nb K A i) = true ∧ ∀ p, i ≤ p → p < nb K A i → A.testBit p = false := by
  obtain ⟨h1, h2, h3, h4⟩ := sk_r (fun p => !(A.testBit p)) (K - 1 - i) i
  refine ⟨h1, by unfold nb; omega, ?_, fun p q1 q2 => by have := h3 p q1 q2; simpa using this⟩
  by_cases c : nb K A i < i + (K - 1 - i)
  · have := h4 c
    simp at this
    exact this
  · have e : nb K A i = K - 1 := by unfold nb at c ⊢; omega
    rw [e]; exact hb
theorem nb_u {A i j : Nat} (h1 : i ≤ j) (h2 : j < K) (hb : A.testBit j = true) (hf : ∀ p, i ≤ p → p < j → A.testBit p = false) (hK : A.testBit (K - 1) = true) : nb K A i = j := by
  obtain ⟨a1, a2, a3, a4⟩ := nb_r (K := K) (A := A) (i := i) (by omega) hK
  have c1 : ¬ nb K A i < j := fun q => by have := hf _ a1 q; rw [a3] at this; cases this
  have c2 : ¬ j < nb K A i := fun q => by have := a4 j h1 q; rw [hb] at this; cases this
  omega
theorem ln_C_split {A i : Nat} (hi : i < K) (hb : A.testBit (K - 1) = true) : ln_C K W S A i = ln_h W S i (nb K A i) + ln_C K W S A (nb K A i + 1) := by
  obtain ⟨a1, a2, a3, a4⟩ := nb_r hi hb
  have ej : ∃ j, j = nb K A i := ⟨_, rfl⟩
  obtain ⟨j, ej⟩ := ej
  rw [← ej] at a1 a2 a3 a4 ⊢
  have en : ∀ t, t ≤ j - i → nb K A (i + t) = j := fun t ht => nb_u (by omega) a2 a3 (fun p q1 q2 => a4 p (by omega) q2) hb
  unfold ln_C
  rw [show K - i = (j - i + 1) + (K - (j + 1)) by omega, fb_sm_split, fb_sm_succ]
  rw [en (j - i) (Nat.le_refl _), show i + (j - i) = j by omega, Nat.sub_self, Nat.mul_zero, Nat.add_zero]
  have e1 : fb_sm (fun t => W (i + t) * (S (nb K A (i + t)) - S (i + t))) (j - i) = ln_h W S i j := fb_sm_cong (fun t ht => by rw [en t (by omega)])
  have e2 : fb_sm (fun k => W (i + (j - i + 1 + k)) * (S (nb K A (i + (j - i + 1 + k))) - S (i + (j - i + 1 + k)))) (K - (j + 1)) = fb_sm (fun t => W (j + 1 + t) * (S (nb K A (j + 1 + t)) - S (j + 1 + t))) (K - (j + 1)) := fb_sm_cong (fun t ht => by rw [show i + (j - i + 1 + t) = j + 1 + t by omega])
  rw [e1, e2]
theorem ln_B_split {A i : Nat} (hi : i < K) (hb : A.testBit (K - 1) = true) : ln_B K A i = ln_B K A (nb K A i + 1) + 1 := by
  obtain ⟨a1, a2, a3, a4⟩ := nb_r hi hb
  have ej : ∃ j, j = nb K A i := ⟨_, rfl⟩
  obtain ⟨j, ej⟩ := ej
  rw [← ej] at a1 a2 a3 a4 ⊢
  unfold ln_B
  rw [show K - i = (j - i + 1) + (K - (j + 1)) by omega, fb_sm_split, fb_sm_succ, show i + (j - i) = j by omega, a3]
  have e1 : fb_sm (fun t => (A.testBit (i + t)).toNat) (j - i) = 0 := by
    rw [fb_sm_cong (g := fun _ => 0) (fun t ht => by rw [a4 (i + t) (by omega) (by omega)]; rfl), fb_sm_const]
    rfl
  have e2 : fb_sm (fun k => (A.testBit (i + (j - i + 1 + k))).toNat) (K - (j + 1)) = fb_sm (fun t => (A.testBit (j + 1 + t)).toNat) (K - (j + 1)) := fb_sm_cong (fun t ht => by rw [show i + (j - i + 1 + t) = j + 1 + t by omega])
  rw [e1, e2]
  show 0 + 1 + _ = _
  omega
theorem ln_lb {A : Nat} (hb : A.testBit (K - 1) = true) : ∀ k i, i ≤ K → ln_B K A i = k → ∃ v, ln_L K W S k i = some v ∧ v ≤ ln_C K W S A i
  | 0, i, hi, h => by
    by_cases c : i < K
    · rw [ln_B_split c hb] at h; omega
    · have e : i = K := by omega
      refine ⟨0, if_pos e, Nat.zero_le _⟩
  | k + 1, i, hi, h => by
    by_cases c : i < K
    · rw [ln_B_split c hb] at h
      obtain ⟨a1, a2, a3, a4⟩ := nb_r c hb
      obtain ⟨v, h1, h2⟩ := ln_lb hb k (nb K A i + 1) (by omega) (by omega)
      have ec : ln_c W S (ln_L K W S k) i (nb K A i) = some (ln_h W S i (nb K A i) + v) := by
        unfold ln_c
        rw [h1]
        rfl
      cases e : ln_L K W S (k + 1) i with
      | none =>
        have e' : ln_m (ln_c W S (ln_L K W S k) i) i (K - i) = none := e
        rw [ln_m_n _ e' _ a1 (by omega)] at ec
        cases ec
      | some u =>
        have e' : ln_m (ln_c W S (ln_L K W S k) i) i (K - i) = some u := e
        have := (ln_m_s _ _ e').2 _ _ a1 (by omega) ec
        refine ⟨u, rfl, ?_⟩
        rw [ln_C_split c hb]
        omega
    · have e : ln_B K A i = 0 := by
        unfold ln_B
        rw [show K - i = 0 by omega]
        rfl
      omega
/-- the first best one of the class -/
def jst (K : Nat) (W S : Nat → Nat) (k i : Nat) : Nat := sk (fun j => decide (ln_c W S (ln_L K W S k) i j ≠ ln_L K W S (k + 1) i)) (K - 1 - i) i
theorem jst_r {k i v : Nat} (hL : ln_L K W S (k + 1) i = some v) : i < K ∧ i ≤ jst K W S k i ∧ jst K W S k i < K ∧ ln_c W S (ln_L K W S k) i (jst K W S k i) = some v ∧ ∀ j, i ≤ j → j < jst K W S k i → ln_c W S (ln_L K W S k) i j ≠ some v := by
  have e : ln_m (ln_c W S (ln_L K W S k) i) i (K - i) = some v := hL
  obtain ⟨⟨j0, a1, a2, a3⟩, a4⟩ := ln_m_s _ _ e
  obtain ⟨h1, h2, h3, h4⟩ := sk_r (fun j => decide (ln_c W S (ln_L K W S k) i j ≠ ln_L K W S (k + 1) i)) (K - 1 - i) i
  have before : ∀ j, i ≤ j → j < jst K W S k i → ln_c W S (ln_L K W S k) i j ≠ some v := fun j q1 q2 q => by
    have := h3 j q1 q2
    simp only [decide_eq_true_eq] at this
    exact this (q.trans hL.symm)
  refine ⟨by omega, h1, by unfold jst; omega, ?_, before⟩
  by_cases c : jst K W S k i < i + (K - 1 - i)
  · have := h4 c
    simp only [decide_eq_false_iff_not] at this
    have := Classical.not_not.mp this
    exact this.trans hL
  · have ej : jst K W S k i = K - 1 := by unfold jst at c ⊢; omega
    have : j0 = jst K W S k i := by
      have : ¬ j0 < jst K W S k i := fun q => before j0 a1 q a3
      omega
    rw [← this]
    exact a3
def gA (K : Nat) (W S : Nat → Nat) : Nat → Nat → Nat
  | 0, _ => 0
  | k + 1, i => 2 ^ jst K W S k i ||| gA K W S k (jst K W S k i + 1)
theorem gA_bit (k i p : Nat) : (gA K W S (k + 1) i).testBit p = (decide (jst K W S k i = p) || (gA K W S k (jst K W S k i + 1)).testBit p) := by
  show (2 ^ jst K W S k i ||| gA K W S k (jst K W S k i + 1)).testBit p = _
  rw [Nat.testBit_or, Nat.testBit_two_pow]
theorem ln_C_cong {A B i : Nat} (hA : i < K → A.testBit (K - 1) = true) (h : ∀ p, i ≤ p → p < K → A.testBit p = B.testBit p) : ln_C K W S A i = ln_C K W S B i ∧ ln_B K A i = ln_B K B i := by
  refine ⟨fb_sm_cong (fun t ht => ?_), fb_sm_cong (fun t ht => by rw [h (i + t) (by omega) (by omega)])⟩
  have hb : A.testBit (K - 1) = true := hA (by omega)
  have hb' : B.testBit (K - 1) = true := by rw [← h (K - 1) (by omega) (by omega)]; exact hb
  obtain ⟨a1, a2, a3, a4⟩ := nb_r (K := K) (A := A) (i := i + t) (by omega) hb
  have : nb K B (i + t) = nb K A (i + t) := nb_u a1 a2 (by rw [← h _ (by omega) a2]; exact a3) (fun p q1 q2 => by rw [← h p (by omega) (by omega)]; exact a4 p q1 q2) hb'
  rw [this]
theorem gA_ok : ∀ k i v, i ≤ K → ln_L K W S k i = some v → (∀ p, p < i ∨ K ≤ p → (gA K W S k i).testBit p = false) ∧ (i < K → (gA K W S k i).testBit (K - 1) = true) ∧ ln_C K W S (gA K W S k i) i = v ∧ ln_B K (gA K W S k i) i = k
  | 0, i, v, hi, h => by
    have e : (if i = K then some 0 else none) = some v := h
    split at e
    · rename_i c
      cases e
      refine ⟨fun p _ => Nat.zero_testBit p, fun q => by omega, ?_, ?_⟩
      · unfold ln_C; rw [show K - i = 0 by omega]; rfl
      · unfold ln_B; rw [show K - i = 0 by omega]; rfl
    · cases e
  | k + 1, i, v, hi, h => by
    obtain ⟨c, j1, j2, j3, j4⟩ := jst_r h
    have hR : ∃ r, ln_L K W S k (jst K W S k i + 1) = some r ∧ v = ln_h W S i (jst K W S k i) + r := by
      unfold ln_c at j3
      cases e : ln_L K W S k (jst K W S k i + 1) with
      | none => rw [e] at j3; cases j3
      | some r => rw [e] at j3; cases j3; exact ⟨r, rfl, rfl⟩
    obtain ⟨r, r1, r2⟩ := hR
    obtain ⟨g1, g2, g3, g4⟩ := gA_ok k (jst K W S k i + 1) r (by omega) r1
    have hb : ∀ p, (gA K W S (k + 1) i).testBit p = (decide (jst K W S k i = p) || (gA K W S k (jst K W S k i + 1)).testBit p) := gA_bit k i
    have bj : (gA K W S (k + 1) i).testBit (jst K W S k i) = true := by rw [hb]; simp
    have blow : ∀ p, p < jst K W S k i → (gA K W S (k + 1) i).testBit p = false := fun p q => by
      rw [hb, g1 p (by omega), decide_eq_false (by omega)]; rfl
    have bup : ∀ p, jst K W S k i + 1 ≤ p → (gA K W S (k + 1) i).testBit p = (gA K W S k (jst K W S k i + 1)).testBit p := fun p q => by
      rw [hb, decide_eq_false (by omega), Bool.false_or]
    have hK : (gA K W S (k + 1) i).testBit (K - 1) = true := by
      by_cases q : jst K W S k i = K - 1
      · rw [← q]; exact bj
      · rw [bup _ (by omega)]; exact g2 (by omega)
    have en : nb K (gA K W S (k + 1) i) i = jst K W S k i := nb_u j1 j2 bj (fun p q1 q2 => blow p q2) hK
    have cg := ln_C_cong (K := K) (W := W) (S := S) (A := gA K W S (k + 1) i) (B := gA K W S k (jst K W S k i + 1)) (i := jst K W S k i + 1) (fun _ => hK) (fun p q1 q2 => bup p q1)
    refine ⟨fun p q => ?_, fun _ => hK, ?_, ?_⟩
    · rcases q with q | q
      · exact blow p (by omega)
      · rw [bup p (by omega)]; exact g1 p (Or.inr q)
    · rw [ln_C_split c hK, en, cg.1, g3, r2]
    · rw [ln_B_split c hK, en, cg.2, g4]
/-- of sets as good and as many none is less -/
theorem gA_lex {B : Nat} : ∀ k i v, i ≤ K → ln_L K W S k i = some v → (i < K → B.testBit (K - 1) = true) → ln_B K B i = k → ln_C K W S B i = v → (∀ p, i ≤ p → p < K → (gA K W S k i).testBit p = B.testBit p) ∨ ∃ p, i ≤ p ∧ p < K ∧ (gA K W S k i).testBit p = true ∧ B.testBit p = false ∧ ∀ q, i ≤ q → q < p → (gA K W S k i).testBit q = B.testBit q
  | 0, i, v, hi, h, hB, hk, hc => by
    have e : (if i = K then some 0 else none) = some v := h
    split at e
    · rename_i c
      exact Or.inl (fun p q1 q2 => by omega)
    · cases e
  | k + 1, i, v, hi, h, hB, hk, hc => by
    obtain ⟨c, j1, j2, j3, j4⟩ := jst_r h
    have hB' := hB c
    obtain ⟨g1, g2, -, -⟩ := gA_ok (k + 1) i v hi h
    have hb : ∀ p, (gA K W S (k + 1) i).testBit p = (decide (jst K W S k i = p) || (gA K W S k (jst K W S k i + 1)).testBit p) := gA_bit k i
    have hR : ∃ r, ln_L K W S k (jst K W S k i + 1) = some r ∧ v = ln_h W S i (jst K W S k i) + r := by
      unfold ln_c at j3
      cases e : ln_L K W S k (jst K W S k i + 1) with
      | none => rw [e] at j3; cases j3
      | some r => rw [e] at j3; cases j3; exact ⟨r, rfl, rfl⟩
    obtain ⟨r, r1, r2⟩ := hR
    obtain ⟨u1, u2, -, -⟩ := gA_ok k (jst K W S k i + 1) r (by omega) r1
    have bj : (gA K W S (k + 1) i).testBit (jst K W S k i) = true := by rw [hb]; simp
    have blow : ∀ p, p < jst K W S k i → (gA K W S (k + 1) i).testBit p = false := fun p q => by
      rw [hb, u1 p (by omega), decide_eq_false (by omega)]; rfl
    have bup : ∀ p, jst K W S k i + 1 ≤ p → (gA K W S (k + 1) i).testBit p = (gA K W S k (jst K W S k i + 1)).testBit p := fun p q => by
      rw [hb, decide_eq_false (by omega), Bool.false_or]
    obtain ⟨a1, a2, a3, a4⟩ := nb_r c hB'
    have hk' : ln_B K B (nb K B i + 1) = k := by rw [ln_B_split c hB'] at hk; omega
    have hc' : ln_h W S i (nb K B i) + ln_C K W S B (nb K B i + 1) = v := by rw [← ln_C_split c hB']; exact hc
    obtain ⟨v', w1, w2⟩ := ln_lb (W := W) (S := S) hB' k (nb K B i + 1) (by omega) hk'
    have ec : ln_c W S (ln_L K W S k) i (nb K B i) = some (ln_h W S i (nb K B i) + v') := by
      unfold ln_c
      rw [w1]
      rfl
    have e' : ln_m (ln_c W S (ln_L K W S k) i) i (K - i) = some v := h
    have hge := (ln_m_s _ _ e').2 _ _ a1 (by omega) ec
    have ev : v' = ln_C K W S B (nb K B i + 1) := by omega
    have ec2 : ln_c W S (ln_L K W S k) i (nb K B i) = some v := by rw [ec]; congr 1; omega
    have hle : jst K W S k i ≤ nb K B i := Nat.le_of_not_lt (fun q => j4 _ a1 q ec2)
    by_cases q : jst K W S k i = nb K B i
    · rw [← q] at hk' hc' ev w1 a3 a4
      have hlow : ∀ p, i ≤ p → p < jst K W S k i → (gA K W S (k + 1) i).testBit p = B.testBit p := fun p q1 q2 => by rw [blow p q2, a4 p q1 q2]
      rcases gA_lex (B := B) k (jst K W S k i + 1) v' (by omega) w1 (fun _ => hB') hk' ev.symm with s | ⟨p, s1, s2, s3, s4, s5⟩
      · refine Or.inl (fun p q1 q2 => ?_)
        by_cases z : p < jst K W S k i
        · exact hlow p q1 z
        · by_cases z2 : p = jst K W S k i
          · rw [z2, bj, a3]
          · rw [bup p (by omega)]; exact s p (by omega) q2
      · refine Or.inr ⟨p, by omega, s2, by rw [bup p s1]; exact s3, s4, fun x q1 q2 => ?_⟩
        by_cases z : x < jst K W S k i
        · exact hlow x q1 z
        · by_cases z2 : x = jst K W S k i
          · rw [z2, bj, a3]
          · rw [bup x (by omega)]; exact s5 x (by omega) q2
    · exact Or.inr ⟨jst K W S k i, j1, j2, bj, a4 _ j1 (by omega), fun x q1 q2 => by rw [blow x q2, a4 x q1 (by omega)]⟩
end LN
