theorem gz_us0 : (u_ws RX0 TX0 12).all (fun w => decide (w ∈ lw_tbl) && goodWord w) = true := by decide +kernel
theorem gz_us1 : (u_ws RX1 TX1 7).all (fun w => decide (w ∈ lw_tbl) && goodWord w) = true := by decide +kernel
theorem gz_us2 : (u_ws RX2 TX2 5).all (fun w => decide (w ∈ lw_tbl) && goodWord w) = true := by decide +kernel
theorem gz_us3 : (u_ws RX3 TX3 5).all (fun w => decide (w ∈ lw_tbl) && goodWord w) = true := by decide +kernel
theorem gz_us4 : (u_ws RX4 TX4 5).all (fun w => decide (w ∈ lw_tbl) && goodWord w) = true := by decide +kernel
theorem gz_us5 : (u_ws RX5 TX5 7).all (fun w => decide (w ∈ lw_tbl) && goodWord w) = true := by decide +kernel
theorem gz_us6 : (u_ws RX6 TX6 2).all (fun w => decide (w ∈ lw_tbl) && goodWord w) = true := by decide +kernel
theorem gz_us7 : (u_ws RX7 TX7 8).all (fun w => decide (w ∈ lw_tbl) && goodWord w) = true := by decide +kernel
theorem gz_us8 : (u_ws RX8 TX8 3).all (fun w => decide (w ∈ lw_tbl) && goodWord w) = true := by decide +kernel
theorem gz_us9 : (u_ws RX9 TX9 10).all (fun w => decide (w ∈ lw_tbl) && goodWord w) = true := by decide +kernel
theorem gz_us10 : (u_ws RX10 TX10 30).all (fun w => decide (w ∈ lw_tbl) && goodWord w) = true := by decide +kernel
def gz_cls (q : vw_C) : Prop := (u_ws q.1 q.2.1 q.2.2).all (fun w => decide (w ∈ lw_tbl) && goodWord w) = true ∧ ∃ ty : Nat → FieldType, (∀ k, k < q.2.2 → parseFieldDescriptor (q.2.1 k).2.2.1 = some (ty k)) ∧ ∀ a, a < q.2.2 → ∀ b, b < q.2.2 → a ≠ b → (q.2.1 a).2.1 ≠ (q.2.1 b).2.1
theorem gz_cls_ok : ∀ (ci : Nat) (q : vw_C), vwCl[ci]? = some q → gz_cls q := by
  intro ci q h
  match ci, h with
  | 0, h => cases h; exact ⟨gz_us0, tyX0, tyX0_ok, nmX0⟩
  | 1, h => cases h; exact ⟨gz_us1, tyX1, tyX1_ok, nmX1⟩
  | 2, h => cases h; exact ⟨gz_us2, tyX2, tyX2_ok, nmX2⟩
  | 3, h => cases h; exact ⟨gz_us3, tyX3, tyX3_ok, nmX3⟩
  | 4, h => cases h; exact ⟨gz_us4, tyX4, tyX4_ok, nmX4⟩
  | 5, h => cases h; exact ⟨gz_us5, tyX5, tyX5_ok, nmX5⟩
  | 6, h => cases h; exact ⟨gz_us6, tyX6, tyX6_ok, nmX6⟩
  | 7, h => cases h; exact ⟨gz_us7, tyX7, tyX7_ok, nmX7⟩
  | 8, h => cases h; exact ⟨gz_us8, tyX8, tyX8_ok, nmX8⟩
  | 9, h => cases h; exact ⟨gz_us9, tyX9, tyX9_ok, nmX9⟩
  | 10, h => cases h; exact ⟨gz_us10, tyX10, tyX10_ok, nmX10⟩
  | k + 11, h => simp [vwCl] at h
theorem gz_uts {C : gz_C} {cc : ByteArray} {own : String} {nL : Nat} (hC : gz_ok C cc own nL) {ci : Nat} {q : vw_C} (hq : vwCl[ci]? = some q) : ∀ w ∈ u_ws q.1 q.2.1 q.2.2, w.before C.2.1.2.1 C.1.2.2.2.2 = true := by
  intro w hw
  have h1 := List.all_eq_true.mp (gz_cls_ok ci q hq).1 w hw
  simp only [Bool.and_eq_true, decide_eq_true_eq] at h1
  exact gz_wd hC h1.1 h1.2
/-- the field link idx of the class own is the field k of class ci, of type ty; whether it is final -/
def gz_fl (own : String) (idx ci k : Nat) (ty : FieldType) (fin : Bool) : Prop := ∃ q : vw_C, vwCl[ci]? = some q ∧ k < q.2.2 ∧ Cond.fieldLink own idx (q.2.1 k).1 (q.2.1 k).2.1 (q.2.1 k).2.2.1 ∈ lw_tbl ∧ gz_nf ci = q.2.2 ∧ ci < 19 ∧ parseFieldDescriptor (q.2.1 k).2.2.1 = some ty ∧ (q.2.1 k).2.2.2 = fin ∧ (q.2.1 k).1 = q.1
theorem gz_obj {G : gz_G} {M : gz_M} {H : Heap} {a ci : Nat} (h : gz_H G M H) (hk : (M.2.1 a).1 = ci + 1) (hc : ci < 19) : G.2.2.1 ≤ a ∧ va_at G.1 vwCl (a, .inr (ci, (List.range (gz_nf ci)).map (gz_fv M a ci))) H := by
  obtain ⟨h1, h2⟩ := h.2.2.1 a (by rw [hk]; exact Nat.succ_ne_zero ci)
  refine ⟨h1, ?_⟩
  unfold gz_ce at h2
  rw [hk, if_neg (by omega), Nat.add_sub_cancel] at h2
  exact h2
theorem gz_arr {G : gz_G} {M : gz_M} {H : Heap} {a t : Nat} (h : gz_H G M H) (hk : (M.2.1 a).1 = 20 + t) : G.2.2.1 ≤ a ∧ H[a]? = some (vp_cell (G.2.1 t) ((M.2.1 a).2, gz_row M a t)) := by
  obtain ⟨h1, h2⟩ := h.2.2.1 a (by rw [hk]; omega)
  refine ⟨h1, ?_⟩
  unfold gz_ce at h2
  rw [hk, if_pos (by omega), Nat.add_sub_cancel_left] at h2
  exact h2
theorem gz_vV {M : gz_M} {a ci j n : Nat} (h : j < n) : vp_V ((List.range n).map (gz_fv M a ci)) j = gz_fv M a ci j := by
  unfold vp_V
  simp [List.getD, h]
section HE
variable {C : gz_C} {cc : ByteArray} {own : String} {nL cs sl : Nat} {M : gz_M} {lv : List (Nat × Value)} {st : List Value}
theorem gz_getW (pc : Nat) (hC : gz_ok C cc own nL) {idx ci k a : Nat} {ty : FieldType} {fin : Bool} (hl : gz_fl own idx ci k ty fin) (hk : (M.2.1 a).1 = ci + 1) (hd : decode cc pc = .ok (.getfield idx, 3)) (kk : gz_go C cs sl M lv (pc + 3) (gz_fv M a ci k :: st)) : gz_go C cs sl M lv pc (.ref a :: st) := by
  intro H locs ls hM hS hv
  obtain ⟨q, hq, hkn, hw, hnf, hc, hty, hfin, hown⟩ := hl
  obtain ⟨-, r, h1, cell, q1, q2, q3, q4⟩ := gz_obj hM hk hc
  have hr : r = q := Option.some.inj (h1.symm.trans hq)
  subst hr
  obtain ⟨hSl, hfc, kC, hkC, hkind⟩ := hC.2.2.2.2.1.2.1 ci _ hq
  obtain ⟨cf, kf, fi, f, hi, hsl⟩ := hSl k hkn
  refine W.getf hC.1 hC.2.1 hC.2.2.2.1 (gz_wd hC hw rfl) hi (u_facts hfc hkC (u_lays (gz_uts hC hq) (fun _ h => h) hkn) hi).1 q1 (by rw [q3]; exact fun h => by cases h) (v := gz_fv M a ci k) ?_ rfl rfl hd (kk H locs ls hM hS hv)
  have q5 := q4 k hkn
  rw [hnf, gz_vV hkn] at q5
  rw [hsl]
  exact q5
theorem gz_putW (pc : Nat) (hC : gz_ok C cc own nL) {idx ci k a : Nat} {ty : FieldType} {fin : Bool} {v : Value} {M' : gz_M} (hl : gz_fl own idx ci k ty fin) (hf : fin = false ∨ (C.2.1.2.2.2.1.name = "<init>" ∧ ∃ q : vw_C, vwCl[ci]? = some q ∧ q.1 = own)) (hn : narrow ty v = v) (hfit : fits ty v = true) (hk : (M.2.1 a).1 = ci + 1) (m1 : M'.1 = M.1) (m2 : M'.2.1 = M.2.1)
    (h1 : ∀ b, b ≠ a → M'.2.2.1 b = M.2.2.1 b) (h2 : ∀ b, b ≠ a → M'.2.2.2.1 b = M.2.2.2.1 b) (h3 : ∀ b, b ≠ a → M'.2.2.2.2 b = M.2.2.2.2 b) (hv : gz_fv M' a ci k = v) (hj : ∀ j, j ≠ k → gz_fv M' a ci j = gz_fv M a ci j)
    (hd : decode cc pc = .ok (.putfield idx, 3)) (kk : gz_go C cs sl M' lv (pc + 3) st) : gz_go C cs sl M lv pc (v :: .ref a :: st) := by
  intro H locs ls hM hS hvl
  obtain ⟨q, hq, hkn, hw, hnf, hc, hty, hfin, hown⟩ := hl
  obtain ⟨hba, r, hr1, cell, q1, q2, q3, q4⟩ := gz_obj hM hk hc
  have hr : r = q := Option.some.inj (hr1.symm.trans hq)
  subst hr
  obtain ⟨hus, ty0, hty0, hnm⟩ := gz_cls_ok ci r hq
  have huts := gz_uts hC hq
  have hap := va_apart (own := own) huts (fun _ h => h) ty0 hty0 hnm hC.2.2.2.2.1.2 hq
  obtain ⟨hSl, hfc, kC, hkC, hkind⟩ := hC.2.2.2.2.1.2.1 ci _ hq
  obtain ⟨cf, kf, fi, f, hi, hsl⟩ := hSl k hkn
  have hlay := huts _ (u_in_lay hkn)
  unfold u_lay at hlay
  have hst := (u_facts hfc hkC (u_lays huts (fun _ h => h) hkn) hi).1
  have q5 : ∀ j, j < r.2.2 → cell.slots[C.2.2.2.1.2 ci j]? = some (gz_fv M a ci j) := fun j hjn => by
    have := q4 j hjn
    rw [hnf, gz_vV hjn] at this
    exact this
  have fin1 : ∀ H' : Heap, H'[a]? = some (cell.setSlot f.slot v) → H'.size = H.size → (∀ q, q ≠ a → H'[q]? = H[q]?) → W C.1.1 C.1.2.1 C.1.2.2.1 C.1.2.2.2.1 C.1.2.2.2.2 C.2.1.1 C.2.1.2.1 C.2.1.2.2.1 C.2.1.2.2.2.1 C.2.1.2.2.2.2 H' (locs ++ [⟨a, f.slot⟩]) cs sl C.2.2.1 (F0 C.2.1.1 (pc + 3) ls st) := by
    intro H' e1 e2 e3
    rw [hsl] at e1 ⊢
    refine kk H' _ ls (hM.put m1 m2 h1 h2 h3 e2 e3 hba ?_) (hS.put e2 e3 hba) hvl
    unfold gz_ce
    rw [m2, hk, if_neg (by omega), Nat.add_sub_cancel]
    refine ⟨r, hq, t_OB.to (V := updV (gz_fv M a ci) k v) ⟨_, e1, q2, q3, t_set q5 hap hkn v⟩ (fun j hjn => ?_)⟩
    rw [hnf, gz_vV hjn]
    by_cases e : j = k
    · subst e
      simp [updV, hv]
    · simp [updV, e, hj j e]
  cases fin with
  | false =>
    rw [if_neg (by rw [hfin]; decide)] at hlay
    have h6 := u_store hfc hkC hkind hlay hi hty hn hfit
    exact W.putK hC.1 hC.2.1 (f := f) ⟨hC.2.2.2.1, gz_wd hC hw rfl, ⟨_, _, _, hi⟩, hst⟩ (by rw [q2]; exact h6) q1 q3 (by rw [hsl]; exact k2_hasslot (q5 k hkn)) rfl rfl hd fin1
  | true =>
    rcases hf with hf | ⟨hf, q9, hq9, ho9⟩
    · cases hf
    have e9 : r = q9 := Option.some.inj (hq.symm.trans hq9)
    subst e9
    rw [if_pos hfin] at hlay
    have hcf : C.2.1.1.cls = cf := by
      obtain ⟨_, _, c', _, _, _, -, -, hf', -, -, -, hown2, -⟩ := Cond.laysFinal_spec hlay
      have e1 : c' = cf := by have := hi.symm.trans hf'; simp at this; exact this.1.symm
      rw [hown, ho9] at hown2
      rw [← e1]; exact Option.some.inj (hC.2.2.2.1.symm.trans hown2)
    have h6 := u_fits hfc hkC hkind (Or.inr hlay) hi hty hn hfit
    exact W.putFinK hC.1 hC.2.1 hC.2.2.2.1 (gz_wd hC hw rfl) hi hst hcf hf (by rw [q2]; exact h6) q1 q3 (by rw [hsl]; exact k2_hasslot (q5 k hkn)) rfl rfl hd fin1
end HE
