/-! PURE: plain facts -/
theorem fa_lt (a b : Int32) : a < b ↔ a.toInt < b.toInt := Int32.lt_iff_toInt_lt
theorem fa_le (a b : Int32) : a ≤ b ↔ a.toInt ≤ b.toInt := Int32.le_iff_toInt_le
theorem fa_eq (a b : Int32) : a = b ↔ a.toInt = b.toInt := Int32.toInt_inj.symm
theorem fa_lt64 (a b : Int64) : a < b ↔ a.toInt < b.toInt := Int64.lt_iff_toInt_lt
theorem fa_le64 (a b : Int64) : a ≤ b ↔ a.toInt ≤ b.toInt := Int64.le_iff_toInt_le
theorem fa_eq64 (a b : Int64) : a = b ↔ a.toInt = b.toInt := Int64.toInt_inj.symm
theorem fa_wide_lt (a b : Int32) : a.toInt64 < b.toInt64 ↔ a < b := by rw [fa_lt64, fa_lt, Int32.toInt_toInt64, Int32.toInt_toInt64]
theorem fa_wide_le (a b : Int32) : a.toInt64 ≤ b.toInt64 ↔ a ≤ b := by rw [fa_le64, fa_le, Int32.toInt_toInt64, Int32.toInt_toInt64]
theorem pu_cmp_lt (x y : Int64) : lg_cmp x y < 0 ↔ x < y := by
  have h := lg_cmp_ge x y
  rw [← Int32.not_le, h, Int64.not_le]
theorem pu_cmp_gt (x y : Int64) : 0 < lg_cmp x y ↔ y < x := by
  unfold lg_cmp
  by_cases h1 : y < x
  · simp [h1]
  · by_cases h2 : x = y
    · simp [h2]
    · simp [h1, h2]
theorem pu_cmp_eq (x y : Int64) : lg_cmp x y = 0 ↔ x = y := by
  unfold lg_cmp
  by_cases h1 : y < x
  · have : ¬ x = y := fun e => by rw [e, fa_lt64] at h1; omega
    simp [h1, this]
  · by_cases h2 : x = y
    · simp [h2]
    · simp [h1, h2]
/-- between -/
theorem pu_within (fu : Nat) (M : gz_M) (a l h : Int32) : f_X9_isWithin fu M a l h = some (if l ≤ a ∧ a ≤ h then 1 else 0) := by
  unfold f_X9_isWithin gz_jn gz_z
  by_cases h1 : a < l
  · have : ¬ (l ≤ a ∧ a ≤ h) := fun q => by have := q.1; rw [fa_le] at this; rw [fa_lt] at h1; omega
    simp [h1, this]
  · have h1' : l ≤ a := Int32.not_lt.mp h1
    by_cases h2 : h < a
    · have : ¬ a ≤ h := Int32.not_le.mpr h2
      simp [h1, h2, this]
    · have : a ≤ h := Int32.not_lt.mp h2
      simp [h1, h2, h1', this]
theorem pu_in64 (fu : Nat) (M : gz_M) (a l h : Int64) : f_X10_in fu M a l h = some (if l ≤ a ∧ a ≤ h then 1 else 0) := by
  unfold f_X10_in gz_jn gz_z
  simp only [pu_cmp_lt, pu_cmp_gt]
  by_cases h1 : a < l
  · have : ¬ l ≤ a := Int64.not_le.mpr h1
    simp [h1, this]
  · have h1' : l ≤ a := Int64.not_lt.mp h1
    by_cases h2 : h < a
    · have : ¬ a ≤ h := Int64.not_le.mpr h2
      simp [h1, h2, this]
    · have : a ≤ h := Int64.not_lt.mp h2
      simp [h1, h2, h1', this]
theorem pu_in (fu : Nat) (M : gz_M) (a l h : Int32) : f_X10_in fu M a.toInt64 l.toInt64 h.toInt64 = some (if l ≤ a ∧ a ≤ h then 1 else 0) := by
  rw [pu_in64]
  simp only [fa_wide_le]
theorem pu_shelf (fu : Nat) (M : gz_M) (a : Int32) : f_X9_isShelf fu M a = some (if 0 ≤ a ∧ a ≤ 7 then 1 else 0) := by
  unfold f_X9_isShelf gz_z
  rw [pu_within]
  by_cases h : 0 ≤ a ∧ a ≤ 7 <;> simp [h]
/-- an int between 0 and n is a number -/
theorem pu_num {a : Int32} {n : Nat} (hn : n < 2 ^ 31) (h : 0 ≤ a ∧ a ≤ nI n) : ∃ k : Nat, k ≤ n ∧ a = nI k := nI_of2 (nI_toInt hn) (Int32.not_lt.mpr h.1) h.2
theorem pu_rng {k n : Nat} (hk : k < 2 ^ 31) (hn : n < 2 ^ 31) : (0 ≤ nI k ∧ nI k ≤ nI n) ↔ k ≤ n := by
  constructor
  · intro h; exact (nI_leI hk hn).mp h.2
  · intro h; exact ⟨nI_pos' hk, (nI_leI hk hn).mpr h⟩
/-! reads and writes where the kinds are known -/
section RD
variable {M : gz_M} {a : Nat}
theorem pu_gd {α : Type} {ci n : Nat} {o : Option α} (h : M.2.1 a = (ci + 1, n)) : gz_gd M ci a o = o := by unfold gz_gd; rw [h]; exact if_pos rfl
theorem pu_gI {ci n : Nat} (k : Nat) (h : M.2.1 a = (ci + 1, n)) : gz_gI M ci k a = some (M.2.2.1 a k) := by unfold gz_gI; rw [h]; exact if_pos rfl
theorem pu_gL {ci n : Nat} (k : Nat) (h : M.2.1 a = (ci + 1, n)) : gz_gL M ci k a = some (M.2.2.2.1 a k) := by unfold gz_gL; rw [h]; exact if_pos rfl
theorem pu_gR {ci n t : Nat} {k : Nat} (h : M.2.1 a = (ci + 1, n)) (hr : M.2.2.2.2 a k = some t) : gz_gR M ci k a = some t := by unfold gz_gR; rw [h, ← hr]; exact if_pos rfl
theorem pu_pI {ci n : Nat} (k : Nat) (v : Int32) (h : M.2.1 a = (ci + 1, n)) : gz_pI M ci k a v = some (gz_sI M a k v) := by unfold gz_pI; rw [h]; exact if_pos rfl
theorem pu_pL {ci n : Nat} (k : Nat) (v : Int64) (h : M.2.1 a = (ci + 1, n)) : gz_pL M ci k a v = some (gz_sL M a k v) := by unfold gz_pL; rw [h]; exact if_pos rfl
theorem pu_pR {ci n : Nat} (k v : Nat) (h : M.2.1 a = (ci + 1, n)) : gz_pR M ci k a v = some (gz_sR M a k (some v)) := by unfold gz_pR; rw [h]; exact if_pos rfl
theorem pu_pZ {ci n : Nat} (k : Nat) (v : Int32) (h : M.2.1 a = (ci + 1, n)) (hv : v = 0 ∨ v = 1) : gz_pZ M ci k a v = some (gz_sI M a k v) := by unfold gz_pZ; rw [h]; exact if_pos ⟨rfl, hv⟩
theorem pu_aI {n i : Nat} (h : M.2.1 a = (20, n)) (hi : i < n) (hn : n < 2 ^ 31) : gz_aI M a (nI i) = some (M.2.2.1 a i) := by
  unfold gz_aI; rw [h, if_pos ⟨rfl, nI_in hi hn⟩, nI_clamp (by omega)]
theorem pu_aL {n i : Nat} (h : M.2.1 a = (21, n)) (hi : i < n) (hn : n < 2 ^ 31) : gz_aL M a (nI i) = some (M.2.2.2.1 a i) := by
  unfold gz_aL; rw [h, if_pos ⟨rfl, nI_in hi hn⟩, nI_clamp (by omega)]
theorem pu_aR {t n i r : Nat} (h : M.2.1 a = (t, n)) (ht : 22 ≤ t ∧ t < 26) (hi : i < n) (hn : n < 2 ^ 31) (hr : M.2.2.2.2 a i = some r) : gz_aR M a (nI i) = some r := by
  unfold gz_aR; rw [h, if_pos ⟨ht, nI_in hi hn⟩, nI_clamp (by omega), hr]
theorem pu_tI {n i : Nat} (v : Int32) (h : M.2.1 a = (20, n)) (hi : i < n) (hn : n < 2 ^ 31) : gz_tI M a (nI i) v = some (gz_sI M a i v) := by
  unfold gz_tI; rw [h, if_pos ⟨rfl, nI_in hi hn⟩, nI_clamp (by omega)]
theorem pu_tL {n i : Nat} (v : Int64) (h : M.2.1 a = (21, n)) (hi : i < n) (hn : n < 2 ^ 31) : gz_tL M a (nI i) v = some (gz_sL M a i v) := by
  unfold gz_tL; rw [h, if_pos ⟨rfl, nI_in hi hn⟩, nI_clamp (by omega)]
theorem pu_ln {t n : Nat} (h : M.2.1 a = (t, n)) (ht : 20 ≤ t ∧ t < 26) : gz_ln M a = some (nI n) := by
  unfold gz_ln; rw [h]; exact if_pos ht
end RD
theorem pu_sI_at {M : gz_M} {a k b j : Nat} {v : Int32} : (gz_sI M a k v).2.2.1 b j = if b = a ∧ j = k then v else M.2.2.1 b j := by
  unfold gz_sI gz_u2
  by_cases h : b = a
  · subst h; by_cases h2 : j = k <;> simp [h2]
  · simp [h]
theorem pu_sL_at {M : gz_M} {a k b j : Nat} {v : Int64} : (gz_sL M a k v).2.2.2.1 b j = if b = a ∧ j = k then v else M.2.2.2.1 b j := by
  unfold gz_sL gz_u2
  by_cases h : b = a
  · subst h; by_cases h2 : j = k <;> simp [h2]
  · simp [h]
theorem pu_sR_at {M : gz_M} {a k b j : Nat} {v : Option Nat} : (gz_sR M a k v).2.2.2.2 b j = if b = a ∧ j = k then v else M.2.2.2.2 b j := by
  unfold gz_sR gz_u2
  by_cases h : b = a
  · subst h; by_cases h2 : j = k <;> simp [h2]
  · simp [h]
