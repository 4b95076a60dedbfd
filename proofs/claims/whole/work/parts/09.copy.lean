def gz_cpI (M : gz_M) (a0 : Nat) (sp : Int32) (a : Nat) (dp n : Int32) : Option gz_M := if (M.2.1 a0).1 = 20 ∧ (M.2.1 a).1 = 20 ∧ ¬ sp < 0 ∧ ¬ dp < 0 ∧ ¬ n < 0 ∧ sp.toNatClampNeg + n.toNatClampNeg ≤ (M.2.1 a0).2 ∧ dp.toNatClampNeg + n.toNatClampNeg ≤ (M.2.1 a).2 then some (M.1, M.2.1, gz_u1 M.2.2.1 a (va_cpy (M.2.2.1 a0) (M.2.2.1 a) sp.toNatClampNeg dp.toNatClampNeg n.toNatClampNeg), M.2.2.2.1, M.2.2.2.2) else none
def gz_cpL (M : gz_M) (a0 : Nat) (sp : Int32) (a : Nat) (dp n : Int32) : Option gz_M := if (M.2.1 a0).1 = 21 ∧ (M.2.1 a).1 = 21 ∧ ¬ sp < 0 ∧ ¬ dp < 0 ∧ ¬ n < 0 ∧ sp.toNatClampNeg + n.toNatClampNeg ≤ (M.2.1 a0).2 ∧ dp.toNatClampNeg + n.toNatClampNeg ≤ (M.2.1 a).2 then some (M.1, M.2.1, M.2.2.1, gz_u1 M.2.2.2.1 a (va_cpy (M.2.2.2.1 a0) (M.2.2.2.1 a) sp.toNatClampNeg dp.toNatClampNeg n.toNatClampNeg), M.2.2.2.2) else none
theorem gz_acp_w : Cond.native arraycopyName ∈ lw_tbl ∧ Cond.static arraycopyName ∈ lw_tbl ∧ Cond.initialized "java/lang/System" ∈ lw_tbl := by decide +kernel
theorem gz_nn0 (z : Int32) (hz : ¬ z < 0) : z.toInt = (z.toNatClampNeg : Int) := by
  have hz0 : (0 : Int) ≤ z.toInt := by
    have := Int32.not_lt.mp hz
    simpa using Int32.le_iff_toInt_le.mp this
  show z.toInt = ((z.toInt.toNat : Nat) : Int)
  omega
section CP
variable {C : gz_C} {cc : ByteArray} {own : String} {nL cs sl : Nat} {M : gz_M} {lv : List (Nat × Value)} {st : List Value} {α : Type} {y : α}
variable {fr lo mc0 ms0 : Nat} {ret0 : Option FieldType} {v0 : Option Value} {M0 : gz_M} {nm : String}
set_option maxHeartbeats 1000000 in
theorem gz_acpI (pc : Nat) (hC : gz_ok C cc own nL) (hX : gz_cx C fr lo mc0 ms0 ret0 v0 M0 nm) {idx a0 a : Nat} {sp dp n : Int32} {f : gz_M → Option α} (hw : Cond.methodLink own idx arraycopyName ∈ lw_tbl) (hR : 1 ≤ fr ∧ (st.map fun v => v.category).sum + (nativeFrameWords "java/lang/System" "arraycopy" 5 + 11) ≤ lo) (hd : decode cc pc = .ok (.invokestatic idx, 3)) (hF : (gz_cpI M a0 sp a dp n).bind f = some y) (kk : ∀ M', f M' = some y → gz_go C cs sl M' lv (pc + 3) st) : gz_go C cs sl M lv pc (.int n :: .int dp :: .ref a :: .int sp :: .ref a0 :: st) := by
  obtain ⟨x, hx, hf⟩ := gz_b_some hF
  obtain ⟨⟨g0, g1, h1, h2, h3, h4, h5⟩, h6⟩ := gz_if_some hx
  cases h6
  intro H locs ls hM hS hv T hT X
  obtain ⟨-, hc0⟩ := gz_arr (t := 0) hM g0
  obtain ⟨hba, hc1⟩ := gz_arr (t := 0) hM g1
  have hc0 : H[a0]? = some (vp_cell (C.2.2.2.2.1 0) ((M.2.1 a0).2, .inl (M.2.2.1 a0))) := hc0
  have hc1 : H[a]? = some (vp_cell (C.2.2.2.2.1 0) ((M.2.1 a).2, .inl (M.2.2.1 a))) := hc1
  obtain ⟨-, k0, hk0, cm0, hkk0⟩ := gz_tyI hC 0 rfl (M.2.1 a0).2 (fun j => .int (M.2.2.1 a0 j))
  obtain ⟨vm', X', step⟩ := X.arraycopy hC.1 hC.2.2.2.1 (gz_wd hC hw rfl) (gz_wd hC gz_acp_w.1 rfl) (gz_wd hC gz_acp_w.2.1 rfl) (gz_wd hC gz_acp_w.2.2 rfl) (src := a0) (dst := a) (cs := vp_cell (C.2.2.2.2.1 0) ((M.2.1 a0).2, .inl (M.2.2.1 a0))) (cd := vp_cell (C.2.2.2.2.1 0) ((M.2.1 a).2, .inl (M.2.2.1 a))) (srcPos := sp) (destPos := dp) (n := n) (by rw [hT]; exact hc0) (by rw [hT]; exact hc1)
    (fun _ h => by cases h) (fun _ h => by cases h) (fun h => by cases h) (fun h => by cases h) hk0 hk0 hkk0 hkk0 (by decide) h1 h2 h3
    (by rw [gz_nn0 sp h1, gz_nn0 n h3]; show ¬ _ > ((arrV _ _ (fun j => .int (M.2.2.1 a0 j))).slots.size : Int); rw [arrV_size]; omega)
    (by rw [gz_nn0 dp h2, gz_nn0 n h3]; show ¬ _ > ((arrV _ _ (fun j => .int (M.2.2.1 a j))).slots.size : Int); rw [arrV_size]; omega)
    (fun vm₁ _ i hi => by
      have e : (vp_cell (C.2.2.2.2.1 0) ((M.2.1 a0).2, .inl (M.2.2.1 a0))).slots.getD (sp.toNatClampNeg + i) .null = .int (M.2.2.1 a0 (sp.toNatClampNeg + i)) := by
        show (arrV _ _ (fun j => .int (M.2.2.1 a0 j))).slots.getD _ _ = _
        rw [Array.getD_eq_getD_getElem?, arrV_read _ _ (by omega)]
        rfl
      refine ⟨?_, ?_⟩
      · rw [e]; rfl
      · rw [e]; exact trivial)
    (g := F0 C.2.1.1 pc ls (.int n :: .int dp :: .ref a :: .int sp :: .ref a0 :: st)) rfl hv.1 (rest := st) rfl (by rw [hC.2.1]; exact hd) (by rw [hX.1]; exact hR.1) (by rw [hX.1]; show 2 * 0 + _ + _ ≤ lo; have := hR.2; omega)
  have e1 : copied (vp_cell (C.2.2.2.2.1 0) ((M.2.1 a0).2, .inl (M.2.2.1 a0))) (vp_cell (C.2.2.2.2.1 0) ((M.2.1 a).2, .inl (M.2.2.1 a))) sp dp n = vp_cell (C.2.2.2.2.1 0) ((M.2.1 a).2, .inl (va_cpy (M.2.2.1 a0) (M.2.2.1 a) sp.toNatClampNeg dp.toNatClampNeg n.toNatClampNeg)) := va_copied (fun z => .int z) _ _ (M.2.2.1 a0) (M.2.2.1 a) h4
  rw [e1] at X' step
  have hl : a < H.size := (Array.getElem?_eq_some_iff.mp hc1).1
  generalize hce : vp_cell (C.2.2.2.2.1 0) ((M.2.1 a).2, .inl (va_cpy (M.2.2.1 a0) (M.2.2.1 a) sp.toNatClampNeg dp.toNatClampNeg n.toNatClampNeg)) = ce at X' step
  have hheap : ((T.setVm vm').setCell a ce).heap = H.setIfInBounds a ce := by rw [← hT]; rfl
  have oq : ∀ q : Nat, q ≠ a → (H.setIfInBounds a ce)[q]? = H[q]? := fun q hq => by simp [Array.getElem?_setIfInBounds, Ne.symm hq]
  have hself : (H.setIfInBounds a ce)[a]? = some ce := by simp [Array.getElem?_setIfInBounds, hl]
  obtain ⟨t, a1, b1⟩ := kk _ hf _ _ ls (hM.put (M' := (M.1, M.2.1, gz_u1 M.2.2.1 a (va_cpy (M.2.2.1 a0) (M.2.2.1 a) sp.toNatClampNeg dp.toNatClampNeg n.toNatClampNeg), M.2.2.2.1, M.2.2.2.2)) rfl rfl (fun b hb => gz_u1_ne hb) (fun _ _ => rfl) (fun _ _ => rfl) (by simp) oq hba (by
      unfold gz_ce
      show va_at _ _ (a, if 20 ≤ (M.2.1 a).1 then _ else _) _
      rw [g1, if_pos (Nat.le_refl 20)]
      show (H.setIfInBounds a ce)[a]? = some (vp_cell (C.2.2.2.2.1 0) ((M.2.1 a).2, .inl (gz_u1 M.2.2.1 a (va_cpy (M.2.2.1 a0) (M.2.2.1 a) sp.toNatClampNeg dp.toNatClampNeg n.toNatClampNeg) a)))
      rw [gz_u1_eq, hce]
      exact hself)) ⟨by simp; exact hS.1, fun q g1 g2 => by
      rw [oq q (fun e => g2 (by rw [e]; exact hba))]
      exact hS.2.1 q g1 g2, fun q hq => by
      rcases List.mem_append.mp hq with h | h
      · exact hS.2.2 q h
      · obtain ⟨z, -, hz⟩ := List.mem_map.mp h
        rw [← hz]
        exact hba⟩ hv _ hheap X'
  exact ⟨t, step t a1, b1⟩
set_option maxHeartbeats 1000000 in
theorem gz_acpL (pc : Nat) (hC : gz_ok C cc own nL) (hX : gz_cx C fr lo mc0 ms0 ret0 v0 M0 nm) {idx a0 a : Nat} {sp dp n : Int32} {f : gz_M → Option α} (hw : Cond.methodLink own idx arraycopyName ∈ lw_tbl) (hR : 1 ≤ fr ∧ (st.map fun v => v.category).sum + (nativeFrameWords "java/lang/System" "arraycopy" 5 + 11) ≤ lo) (hd : decode cc pc = .ok (.invokestatic idx, 3)) (hF : (gz_cpL M a0 sp a dp n).bind f = some y) (kk : ∀ M', f M' = some y → gz_go C cs sl M' lv (pc + 3) st) : gz_go C cs sl M lv pc (.int n :: .int dp :: .ref a :: .int sp :: .ref a0 :: st) := by
  obtain ⟨x, hx, hf⟩ := gz_b_some hF
  obtain ⟨⟨g0, g1, h1, h2, h3, h4, h5⟩, h6⟩ := gz_if_some hx
  cases h6
  intro H locs ls hM hS hv T hT X
  obtain ⟨-, hc0⟩ := gz_arr (t := 1) hM g0
  obtain ⟨hba, hc1⟩ := gz_arr (t := 1) hM g1
  have hc0 : H[a0]? = some (vp_cell (C.2.2.2.2.1 1) ((M.2.1 a0).2, .inr (.inl (M.2.2.2.1 a0)))) := hc0
  have hc1 : H[a]? = some (vp_cell (C.2.2.2.2.1 1) ((M.2.1 a).2, .inr (.inl (M.2.2.2.1 a)))) := hc1
  obtain ⟨-, k0, hk0, cm0, hkk0⟩ := gz_tyI hC 1 rfl (M.2.1 a0).2 (fun j => .long (M.2.2.2.1 a0 j))
  obtain ⟨vm', X', step⟩ := X.arraycopy hC.1 hC.2.2.2.1 (gz_wd hC hw rfl) (gz_wd hC gz_acp_w.1 rfl) (gz_wd hC gz_acp_w.2.1 rfl) (gz_wd hC gz_acp_w.2.2 rfl) (src := a0) (dst := a) (cs := vp_cell (C.2.2.2.2.1 1) ((M.2.1 a0).2, .inr (.inl (M.2.2.2.1 a0)))) (cd := vp_cell (C.2.2.2.2.1 1) ((M.2.1 a).2, .inr (.inl (M.2.2.2.1 a)))) (srcPos := sp) (destPos := dp) (n := n) (by rw [hT]; exact hc0) (by rw [hT]; exact hc1)
    (fun _ h => by cases h) (fun _ h => by cases h) (fun h => by cases h) (fun h => by cases h) hk0 hk0 hkk0 hkk0 (by decide) h1 h2 h3
    (by rw [gz_nn0 sp h1, gz_nn0 n h3]; show ¬ _ > ((arrV _ _ (fun j => .long (M.2.2.2.1 a0 j))).slots.size : Int); rw [arrV_size]; omega)
    (by rw [gz_nn0 dp h2, gz_nn0 n h3]; show ¬ _ > ((arrV _ _ (fun j => .long (M.2.2.2.1 a j))).slots.size : Int); rw [arrV_size]; omega)
    (fun vm₁ _ i hi => by
      have e : (vp_cell (C.2.2.2.2.1 1) ((M.2.1 a0).2, .inr (.inl (M.2.2.2.1 a0)))).slots.getD (sp.toNatClampNeg + i) .null = .long (M.2.2.2.1 a0 (sp.toNatClampNeg + i)) := by
        show (arrV _ _ (fun j => .long (M.2.2.2.1 a0 j))).slots.getD _ _ = _
        rw [Array.getD_eq_getD_getElem?, arrV_read _ _ (by omega)]
        rfl
      refine ⟨?_, ?_⟩
      · rw [e]; rfl
      · rw [e]; exact trivial)
    (g := F0 C.2.1.1 pc ls (.int n :: .int dp :: .ref a :: .int sp :: .ref a0 :: st)) rfl hv.1 (rest := st) rfl (by rw [hC.2.1]; exact hd) (by rw [hX.1]; exact hR.1) (by rw [hX.1]; show 2 * 0 + _ + _ ≤ lo; have := hR.2; omega)
  have e1 : copied (vp_cell (C.2.2.2.2.1 1) ((M.2.1 a0).2, .inr (.inl (M.2.2.2.1 a0)))) (vp_cell (C.2.2.2.2.1 1) ((M.2.1 a).2, .inr (.inl (M.2.2.2.1 a)))) sp dp n = vp_cell (C.2.2.2.2.1 1) ((M.2.1 a).2, .inr (.inl (va_cpy (M.2.2.2.1 a0) (M.2.2.2.1 a) sp.toNatClampNeg dp.toNatClampNeg n.toNatClampNeg))) := va_copied (fun z => .long z) _ _ (M.2.2.2.1 a0) (M.2.2.2.1 a) h4
  rw [e1] at X' step
  have hl : a < H.size := (Array.getElem?_eq_some_iff.mp hc1).1
  generalize hce : vp_cell (C.2.2.2.2.1 1) ((M.2.1 a).2, .inr (.inl (va_cpy (M.2.2.2.1 a0) (M.2.2.2.1 a) sp.toNatClampNeg dp.toNatClampNeg n.toNatClampNeg))) = ce at X' step
  have hheap : ((T.setVm vm').setCell a ce).heap = H.setIfInBounds a ce := by rw [← hT]; rfl
  have oq : ∀ q : Nat, q ≠ a → (H.setIfInBounds a ce)[q]? = H[q]? := fun q hq => by simp [Array.getElem?_setIfInBounds, Ne.symm hq]
  have hself : (H.setIfInBounds a ce)[a]? = some ce := by simp [Array.getElem?_setIfInBounds, hl]
  obtain ⟨t, a1, b1⟩ := kk _ hf _ _ ls (hM.put (M' := (M.1, M.2.1, M.2.2.1, gz_u1 M.2.2.2.1 a (va_cpy (M.2.2.2.1 a0) (M.2.2.2.1 a) sp.toNatClampNeg dp.toNatClampNeg n.toNatClampNeg), M.2.2.2.2)) rfl rfl (fun _ _ => rfl) (fun b hb => gz_u1_ne hb) (fun _ _ => rfl) (by simp) oq hba (by
      unfold gz_ce
      show va_at _ _ (a, if 20 ≤ (M.2.1 a).1 then _ else _) _
      rw [g1, if_pos (by decide)]
      show (H.setIfInBounds a ce)[a]? = some (vp_cell (C.2.2.2.2.1 1) ((M.2.1 a).2, .inr (.inl (gz_u1 M.2.2.2.1 a (va_cpy (M.2.2.2.1 a0) (M.2.2.2.1 a) sp.toNatClampNeg dp.toNatClampNeg n.toNatClampNeg) a))))
      rw [gz_u1_eq, hce]
      exact hself)) ⟨by simp; exact hS.1, fun q g1 g2 => by
      rw [oq q (fun e => g2 (by rw [e]; exact hba))]
      exact hS.2.1 q g1 g2, fun q hq => by
      rcases List.mem_append.mp hq with h | h
      · exact hS.2.2 q h
      · obtain ⟨z, -, hz⟩ := List.mem_map.mp h
        rw [← hz]
        exact hba⟩ hv _ hheap X'
  exact ⟨t, step t a1, b1⟩
end CP
