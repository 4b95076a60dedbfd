/-! evaluation by simp: the side conditions speak of kind and length apart -/
section EV
variable {M : gz_M} {a : Nat}
theorem pv_gd {α : Type} {ci : Nat} {o : Option α} (h : (M.2.1 a).1 = ci + 1) : gz_gd M ci a o = o := if_pos h
theorem pv_gI {ci k : Nat} (h : (M.2.1 a).1 = ci + 1) : gz_gI M ci k a = some (M.2.2.1 a k) := if_pos h
theorem pv_gL {ci k : Nat} (h : (M.2.1 a).1 = ci + 1) : gz_gL M ci k a = some (M.2.2.2.1 a k) := if_pos h
theorem pv_gR {ci k : Nat} (h : (M.2.1 a).1 = ci + 1) : gz_gR M ci k a = M.2.2.2.2 a k := if_pos h
theorem pv_pI {ci k : Nat} {v : Int32} (h : (M.2.1 a).1 = ci + 1) : gz_pI M ci k a v = some (gz_sI M a k v) := if_pos h
theorem pv_pL {ci k : Nat} {v : Int64} (h : (M.2.1 a).1 = ci + 1) : gz_pL M ci k a v = some (gz_sL M a k v) := if_pos h
theorem pv_pR {ci k v : Nat} (h : (M.2.1 a).1 = ci + 1) : gz_pR M ci k a v = some (gz_sR M a k (some v)) := if_pos h
theorem pv_aI {i : Nat} (h1 : (M.2.1 a).1 = 20) (h2 : i < (M.2.1 a).2) (h3 : (M.2.1 a).2 ≤ 1024) : gz_aI M a (nI i) = some (M.2.2.1 a i) := by
  unfold gz_aI; rw [if_pos ⟨h1, nI_in h2 (by omega)⟩, nI_clamp (by omega)]
theorem pv_aL {i : Nat} (h1 : (M.2.1 a).1 = 21) (h2 : i < (M.2.1 a).2) (h3 : (M.2.1 a).2 ≤ 1024) : gz_aL M a (nI i) = some (M.2.2.2.1 a i) := by
  unfold gz_aL; rw [if_pos ⟨h1, nI_in h2 (by omega)⟩, nI_clamp (by omega)]
theorem pv_aR {i : Nat} (h0 : 22 ≤ (M.2.1 a).1) (h1 : (M.2.1 a).1 < 26) (h2 : i < (M.2.1 a).2) (h3 : (M.2.1 a).2 ≤ 1024) : gz_aR M a (nI i) = M.2.2.2.2 a i := by
  unfold gz_aR; rw [if_pos ⟨⟨h0, h1⟩, nI_in h2 (by omega)⟩, nI_clamp (by omega)]
theorem pv_tI {i : Nat} {v : Int32} (h1 : (M.2.1 a).1 = 20) (h2 : i < (M.2.1 a).2) (h3 : (M.2.1 a).2 ≤ 1024) : gz_tI M a (nI i) v = some (gz_sI M a i v) := by
  unfold gz_tI; rw [if_pos ⟨h1, nI_in h2 (by omega)⟩, nI_clamp (by omega)]
theorem pv_tL {i : Nat} {v : Int64} (h1 : (M.2.1 a).1 = 21) (h2 : i < (M.2.1 a).2) (h3 : (M.2.1 a).2 ≤ 1024) : gz_tL M a (nI i) v = some (gz_sL M a i v) := by
  unfold gz_tL; rw [if_pos ⟨h1, nI_in h2 (by omega)⟩, nI_clamp (by omega)]
theorem pv_ln (h0 : 20 ≤ (M.2.1 a).1) (h1 : (M.2.1 a).1 < 26) : gz_ln M a = some (nI (M.2.1 a).2) := if_pos ⟨h0, h1⟩
end EV
theorem pv_k1 {M : gz_M} {a k : Nat} {v : Int32} : (gz_sI M a k v).2.1 = M.2.1 := rfl
theorem pv_k2 {M : gz_M} {a k : Nat} {v : Int64} : (gz_sL M a k v).2.1 = M.2.1 := rfl
theorem pv_r1 {M : gz_M} {a k : Nat} {v : Int32} : (gz_sI M a k v).2.2.2.2 = M.2.2.2.2 := rfl
theorem pv_r2 {M : gz_M} {a k : Nat} {v : Int64} : (gz_sL M a k v).2.2.2.2 = M.2.2.2.2 := rfl
theorem pv_z1 {M : gz_M} {a k : Nat} {v : Int32} : (gz_sI M a k v).1 = M.1 := rfl
theorem pv_z2 {M : gz_M} {a k : Nat} {v : Int64} : (gz_sL M a k v).1 = M.1 := rfl
theorem pv_L1 {M : gz_M} {a k : Nat} {v : Int32} : (gz_sI M a k v).2.2.2.1 = M.2.2.2.1 := rfl
theorem pv_I2 {M : gz_M} {a k : Nat} {v : Int64} : (gz_sL M a k v).2.2.1 = M.2.2.1 := rfl
theorem pv_I1 {M : gz_M} {a k c : Nat} {v : Int32} (h : c ≠ a) : (gz_sI M a k v).2.2.1 c = M.2.2.1 c := gz_u2_ne h
theorem pv_I0 {M : gz_M} {a k j : Nat} {v : Int32} (h : j ≠ k) : (gz_sI M a k v).2.2.1 a j = M.2.2.1 a j := by rw [pu_sI_at, if_neg (fun q => h q.2)]
theorem pv_I9 {M : gz_M} {a k : Nat} {v : Int32} : (gz_sI M a k v).2.2.1 a k = v := by rw [pu_sI_at, if_pos ⟨rfl, rfl⟩]
theorem pv_L2 {M : gz_M} {a k c : Nat} {v : Int64} (h : c ≠ a) : (gz_sL M a k v).2.2.2.1 c = M.2.2.2.1 c := gz_u2_ne h
theorem pv_L0 {M : gz_M} {a k j : Nat} {v : Int64} (h : j ≠ k) : (gz_sL M a k v).2.2.2.1 a j = M.2.2.2.1 a j := by rw [pu_sL_at, if_neg (fun q => h q.2)]
theorem pv_L9 {M : gz_M} {a k : Nat} {v : Int64} : (gz_sL M a k v).2.2.2.1 a k = v := by rw [pu_sL_at, if_pos ⟨rfl, rfl⟩]
/-- a test: becomeTool by simp alone -/
theorem zz_bt (fu : Nat) {a : Nat} {M : gz_M} (h : M.2.1 a = (5, 0)) (t l q : Int32) : f_X4_becomeTool fu M a t l q = some (gz_sI (gz_sI (gz_sI (gz_sI M a 1 (10 + t)) a 2 0) a 3 l) a 4 q) := by
  simp [f_X4_becomeTool, gz_jn, pv_gd, pv_pI, pv_k1, h]
