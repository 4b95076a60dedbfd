theorem gz_gI_some {M : gz_M} {ci k a : Nat} {x : Int32} (h : gz_gI M ci k a = some x) : (M.2.1 a).1 = ci + 1 ∧ x = M.2.2.1 a k := by
  unfold gz_gI at h
  split at h
  · exact ⟨by assumption, (Option.some.inj h).symm⟩
  · cases h
theorem gz_gL_some {M : gz_M} {ci k a : Nat} {x : Int64} (h : gz_gL M ci k a = some x) : (M.2.1 a).1 = ci + 1 ∧ x = M.2.2.2.1 a k := by
  unfold gz_gL at h
  split at h
  · exact ⟨by assumption, (Option.some.inj h).symm⟩
  · cases h
theorem gz_gR_some {M : gz_M} {ci k a x : Nat} (h : gz_gR M ci k a = some x) : (M.2.1 a).1 = ci + 1 ∧ M.2.2.2.2 a k = some x := by
  unfold gz_gR at h
  split at h
  · exact ⟨by assumption, h⟩
  · cases h
theorem gz_gQ_some {M : gz_M} {ci k a : Nat} {x : Option Nat} (h : gz_gQ M ci k a = some x) : (M.2.1 a).1 = ci + 1 ∧ x = M.2.2.2.2 a k := by
  unfold gz_gQ at h
  split at h
  · exact ⟨by assumption, (Option.some.inj h).symm⟩
  · cases h
theorem gz_if_some {α : Type} {c : Prop} [Decidable c] {o : Option α} {y : α} (h : (if c then o else none) = some y) : c ∧ o = some y := by
  split at h
  · exact ⟨by assumption, h⟩
  · cases h
theorem gz_and1 (x : Int32) (h : x = 0 ∨ x = 1) : narrow .boolean (.int x) = .int x := by
  rcases h with rfl | rfl <;> rfl
theorem gz_and2 (x : Int32) (h : x = 0 ∨ x = 1) : fits .boolean (.int x) = true := by
  rcases h with rfl | rfl <;> rfl
section RW
variable {C : gz_C} {cc : ByteArray} {own : String} {nL cs sl : Nat} {M : gz_M} {lv : List (Nat × Value)} {st : List Value} {α : Type} {y : α}
theorem gz_getI (pc : Nat) (hC : gz_ok C cc own nL) {idx ci k a : Nat} {ty : FieldType} {fin : Bool} {f : Int32 → Option α} (hl : gz_fl own idx ci k ty fin) (hk : gz_fk ci k < 2) (hd : decode cc pc = .ok (.getfield idx, 3)) (hF : (gz_gI M ci k a).bind f = some y) (kk : ∀ x, f x = some y → gz_go C cs sl M lv (pc + 3) (.int x :: st)) : gz_go C cs sl M lv pc (.ref a :: st) := by
  obtain ⟨x, hx, hf⟩ := gz_b_some hF
  obtain ⟨h1, h2⟩ := gz_gI_some hx
  refine gz_getW pc hC hl h1 hd ?_
  have e : gz_fv M a ci k = .int x := by unfold gz_fv; rw [if_pos hk, h2]
  rw [e]
  exact kk x hf
theorem gz_getL (pc : Nat) (hC : gz_ok C cc own nL) {idx ci k a : Nat} {ty : FieldType} {fin : Bool} {f : Int64 → Option α} (hl : gz_fl own idx ci k ty fin) (hk : gz_fk ci k = 2) (hd : decode cc pc = .ok (.getfield idx, 3)) (hF : (gz_gL M ci k a).bind f = some y) (kk : ∀ x, f x = some y → gz_go C cs sl M lv (pc + 3) (.long x :: st)) : gz_go C cs sl M lv pc (.ref a :: st) := by
  obtain ⟨x, hx, hf⟩ := gz_b_some hF
  obtain ⟨h1, h2⟩ := gz_gL_some hx
  refine gz_getW pc hC hl h1 hd ?_
  have e : gz_fv M a ci k = .long x := by unfold gz_fv; rw [if_neg (by omega), if_pos hk, h2]
  rw [e]
  exact kk x hf
theorem gz_getR (pc : Nat) (hC : gz_ok C cc own nL) {idx ci k a : Nat} {ty : FieldType} {fin : Bool} {f : Nat → Option α} (hl : gz_fl own idx ci k ty fin) (hk : gz_fk ci k = 3) (hd : decode cc pc = .ok (.getfield idx, 3)) (hF : (gz_gR M ci k a).bind f = some y) (kk : ∀ x, f x = some y → gz_go C cs sl M lv (pc + 3) (.ref x :: st)) : gz_go C cs sl M lv pc (.ref a :: st) := by
  obtain ⟨x, hx, hf⟩ := gz_b_some hF
  obtain ⟨h1, h2⟩ := gz_gR_some hx
  refine gz_getW pc hC hl h1 hd ?_
  have e : gz_fv M a ci k = .ref x := by unfold gz_fv; rw [if_neg (by omega), if_neg (by omega), h2]; rfl
  rw [e]
  exact kk x hf
/-- a reference that may be null, and the jump behind it -/
theorem gz_getQ (pc tgt : Nat) (hC : gz_ok C cc own nL) {idx ci k a : Nat} {ty : FieldType} {fin : Bool} {A B : Option α} {off : Int} (hl : gz_fl own idx ci k ty fin) (hk : gz_fk ci k = 3) (hd : decode cc pc = .ok (.getfield idx, 3)) (hd2 : decode cc (pc + 3) = .ok (.ifnonnull off, 3)) (ht : ((pc + 3 : Nat) : Int) + off = (tgt : Int)) (hF : (gz_gQ M ci k a).bind (fun x => gz_nn x A B) = some y)
    (kt : A = some y → gz_go C cs sl M lv tgt st) (kf : B = some y → gz_go C cs sl M lv (pc + 3 + 3) st) : gz_go C cs sl M lv pc (.ref a :: st) := by
  obtain ⟨x, hx, hf⟩ := gz_b_some hF
  obtain ⟨h1, h2⟩ := gz_gQ_some hx
  refine gz_getW pc hC hl h1 hd ?_
  have e : gz_fv M a ci k = va_rf x := by unfold gz_fv; rw [if_neg (by omega), if_neg (by omega), h2]
  rw [e]
  cases x with
  | none => exact fun H locs ls hM hS hv => lv_ifnonnullN hC.1 hC.2.1 hd2 (kf hf H locs ls hM hS hv)
  | some x => exact fun H locs ls hM hS hv => lv_ifnonnull hC.1 hC.2.1 hd2 ht (kt hf H locs ls hM hS hv)
theorem gz_fv_sI {M : gz_M} {a ci k j : Nat} {v : Int32} (h : j ≠ k) : gz_fv (gz_sI M a k v) a ci j = gz_fv M a ci j := by
  unfold gz_fv gz_sI
  simp [gz_u2_eq, h]
theorem gz_fv_sL {M : gz_M} {a ci k j : Nat} {v : Int64} (h : j ≠ k) : gz_fv (gz_sL M a k v) a ci j = gz_fv M a ci j := by
  unfold gz_fv gz_sL
  simp [gz_u2_eq, h]
theorem gz_fv_sR {M : gz_M} {a ci k j : Nat} {v : Option Nat} (h : j ≠ k) : gz_fv (gz_sR M a k v) a ci j = gz_fv M a ci j := by
  unfold gz_fv gz_sR
  simp [gz_u2_eq, h]
theorem gz_putI (pc : Nat) (hC : gz_ok C cc own nL) {idx ci k a : Nat} {v : Int32} {f : gz_M → Option α} (hl : gz_fl own idx ci k .int false) (hk : gz_fk ci k < 2) (hd : decode cc pc = .ok (.putfield idx, 3)) (hF : (gz_pI M ci k a v).bind f = some y) (kk : ∀ M', f M' = some y → gz_go C cs sl M' lv (pc + 3) st) : gz_go C cs sl M lv pc (.int v :: .ref a :: st) := by
  obtain ⟨x, hx, hf⟩ := gz_b_some hF
  obtain ⟨h1, h2⟩ := gz_if_some hx
  cases h2
  refine gz_putW pc hC (M' := gz_sI M a k v) hl (Or.inl rfl) rfl rfl h1 rfl rfl (fun b hb => gz_u2_ne hb) (fun _ _ => rfl) (fun _ _ => rfl) ?_ (fun j hj => gz_fv_sI hj) hd (kk _ hf)
  unfold gz_fv gz_sI
  simp [gz_u2_eq, hk]
theorem gz_putZ (pc : Nat) (hC : gz_ok C cc own nL) {idx ci k a : Nat} {v : Int32} {f : gz_M → Option α} (hl : gz_fl own idx ci k .boolean false) (hk : gz_fk ci k < 2) (hd : decode cc pc = .ok (.putfield idx, 3)) (hF : (gz_pZ M ci k a v).bind f = some y) (kk : ∀ M', f M' = some y → gz_go C cs sl M' lv (pc + 3) st) : gz_go C cs sl M lv pc (.int v :: .ref a :: st) := by
  obtain ⟨x, hx, hf⟩ := gz_b_some hF
  obtain ⟨h1, h2⟩ := gz_if_some hx
  cases h2
  refine gz_putW pc hC (M' := gz_sI M a k v) hl (Or.inl rfl) (gz_and1 v h1.2) (gz_and2 v h1.2) h1.1 rfl rfl (fun b hb => gz_u2_ne hb) (fun _ _ => rfl) (fun _ _ => rfl) ?_ (fun j hj => gz_fv_sI hj) hd (kk _ hf)
  unfold gz_fv gz_sI
  simp [gz_u2_eq, hk]
theorem gz_putL (pc : Nat) (hC : gz_ok C cc own nL) {idx ci k a : Nat} {v : Int64} {f : gz_M → Option α} (hl : gz_fl own idx ci k .long false) (hk : gz_fk ci k = 2) (hd : decode cc pc = .ok (.putfield idx, 3)) (hF : (gz_pL M ci k a v).bind f = some y) (kk : ∀ M', f M' = some y → gz_go C cs sl M' lv (pc + 3) st) : gz_go C cs sl M lv pc (.long v :: .ref a :: st) := by
  obtain ⟨x, hx, hf⟩ := gz_b_some hF
  obtain ⟨h1, h2⟩ := gz_if_some hx
  cases h2
  refine gz_putW pc hC (M' := gz_sL M a k v) hl (Or.inl rfl) rfl rfl h1 rfl rfl (fun _ _ => rfl) (fun b hb => gz_u2_ne hb) (fun _ _ => rfl) ?_ (fun j hj => gz_fv_sL hj) hd (kk _ hf)
  unfold gz_fv gz_sL
  simp [gz_u2_eq, hk]
/-- a reference; hty: an object's or a row's type -/
theorem gz_putR (pc : Nat) (hC : gz_ok C cc own nL) {idx ci k a : Nat} {v : Nat} {ty : FieldType} {fin : Bool} {f : gz_M → Option α} (hl : gz_fl own idx ci k ty fin) (hk : gz_fk ci k = 3) (hfi : fin = false ∨ (C.2.1.2.2.2.1.name = "<init>" ∧ ∃ q : vw_C, vwCl[ci]? = some q ∧ q.1 = own)) (hn : narrow ty (.ref v) = .ref v) (hft : fits ty (.ref v) = true) (hd : decode cc pc = .ok (.putfield idx, 3)) (hF : (gz_pR M ci k a v).bind f = some y) (kk : ∀ M', f M' = some y → gz_go C cs sl M' lv (pc + 3) st) : gz_go C cs sl M lv pc (.ref v :: .ref a :: st) := by
  obtain ⟨x, hx, hf⟩ := gz_b_some hF
  obtain ⟨h1, h2⟩ := gz_if_some hx
  cases h2
  refine gz_putW pc hC (M' := gz_sR M a k (some v)) hl hfi hn hft h1 rfl rfl (fun _ _ => rfl) (fun _ _ => rfl) (fun b hb => gz_u2_ne hb) ?_ (fun j hj => gz_fv_sR hj) hd (kk _ hf)
  unfold gz_fv gz_sR
  simp [gz_u2_eq, hk, va_rf]
/-! rows -/
theorem gz_tyI (hC : gz_ok C cc own nL) (t : Nat) {ty : FieldType} (ht : (gz_ty C.2.2.2)[t]? = some (C.2.2.2.2.1 t, ty)) : ArrOfT C.1.2.2.2.2 (C.2.2.2.2.1 t) ty := (hC.2.2.2.2.1.2.2 t _ ht).1
theorem gz_iald (pc : Nat) (hC : gz_ok C cc own nL) {a : Nat} {i : Int32} {f : Int32 → Option α} (hd : decode cc pc = .ok (.iaload, 1)) (hF : (gz_aI M a i).bind f = some y) (kk : ∀ x, f x = some y → gz_go C cs sl M lv (pc + 1) (.int x :: st)) : gz_go C cs sl M lv pc (.int i :: .ref a :: st) := by
  obtain ⟨x, hx, hf⟩ := gz_b_some hF
  obtain ⟨⟨h1, h2⟩, h3⟩ := gz_if_some hx
  cases h3
  intro H locs ls hM hS hv
  obtain ⟨-, hc⟩ := gz_arr (t := 0) hM h1
  have hlt : i.toNatClampNeg < (M.2.1 a).2 := Nat.not_le.mp fun q => h2 (Or.inr q)
  exact W.iald (v := .int (M.2.2.1 a i.toNatClampNeg)) hC.1 hC.2.1 hc (gz_tyI hC 0 rfl _ (fun j => .int (M.2.2.1 a j))) (fun q => by cases q) (by show ¬ (i < 0 ∨ (arrV _ _ _).slots.size ≤ _); rw [arrV_size]; exact h2) (by show (arrV _ _ _).slots[_]? = _; rw [arrV_read _ _ hlt]) rfl rfl hd (kk _ hf H locs ls hM hS hv)
theorem gz_lald (pc : Nat) (hC : gz_ok C cc own nL) {a : Nat} {i : Int32} {f : Int64 → Option α} (hd : decode cc pc = .ok (.laload, 1)) (hF : (gz_aL M a i).bind f = some y) (kk : ∀ x, f x = some y → gz_go C cs sl M lv (pc + 1) (.long x :: st)) : gz_go C cs sl M lv pc (.int i :: .ref a :: st) := by
  obtain ⟨x, hx, hf⟩ := gz_b_some hF
  obtain ⟨⟨h1, h2⟩, h3⟩ := gz_if_some hx
  cases h3
  intro H locs ls hM hS hv
  obtain ⟨-, hc⟩ := gz_arr (t := 1) hM h1
  have hlt : i.toNatClampNeg < (M.2.1 a).2 := Nat.not_le.mp fun q => h2 (Or.inr q)
  exact W.lald (v := .long (M.2.2.2.1 a i.toNatClampNeg)) hC.1 hC.2.1 hc (gz_tyI hC 1 rfl _ (fun j => .long (M.2.2.2.1 a j))) (fun q => by cases q) (by show ¬ (i < 0 ∨ (arrV _ _ _).slots.size ≤ _); rw [arrV_size]; exact h2) (by show (arrV _ _ _).slots[_]? = _; rw [arrV_read _ _ hlt]) rfl rfl hd (kk _ hf H locs ls hM hS hv)
theorem gz_aald (pc : Nat) (hC : gz_ok C cc own nL) {a : Nat} {i : Int32} {f : Nat → Option α} (hd : decode cc pc = .ok (.aaload, 1)) (hF : (gz_aR M a i).bind f = some y) (kk : ∀ x, f x = some y → gz_go C cs sl M lv (pc + 1) (.ref x :: st)) : gz_go C cs sl M lv pc (.int i :: .ref a :: st) := by
  obtain ⟨x, hx, hf⟩ := gz_b_some hF
  obtain ⟨⟨h1, h2⟩, h3⟩ := gz_if_some hx
  intro H locs ls hM hS hv
  have hlt : i.toNatClampNeg < (M.2.1 a).2 := Nat.not_le.mp fun q => h2 (Or.inr q)
  obtain ⟨t, ht, hk⟩ : ∃ t, (t = 2 ∨ t = 3 ∨ t = 4 ∨ t = 5) ∧ (M.2.1 a).1 = 20 + t := ⟨(M.2.1 a).1 - 20, by omega, by omega⟩
  obtain ⟨-, hc⟩ := gz_arr hM hk
  have hrow : gz_row M a t = .inr (.inr (.inr (.inr (M.2.2.2.2 a)))) := by unfold gz_row; rw [if_neg (by omega), if_neg (by omega)]
  rw [hrow] at hc
  obtain ⟨ty, hty, hre⟩ : ∃ ty, (gz_ty C.2.2.2)[t]? = some (C.2.2.2.2.1 t, ty) ∧ ty.isReference = true := by
    rcases ht with rfl | rfl | rfl | rfl
    · exact ⟨_, rfl, rfl⟩
    · exact ⟨_, rfl, rfl⟩
    · exact ⟨_, rfl, rfl⟩
    · exact ⟨_, rfl, rfl⟩
  exact W.aald (v := .ref x) (ty := ty) hC.1 hC.2.1 hc (gz_tyI hC t hty _ (fun j => va_rf (M.2.2.2.2 a j))) hre (fun q => by cases q) (by show ¬ (i < 0 ∨ (arrV _ _ _).slots.size ≤ _); rw [arrV_size]; exact h2) (by show (arrV _ _ _).slots[_]? = _; rw [arrV_read _ _ hlt, h3]; rfl) rfl rfl hd (kk _ hf H locs ls hM hS hv)
theorem gz_alen (pc : Nat) (hC : gz_ok C cc own nL) {a : Nat} {f : Int32 → Option α} (hd : decode cc pc = .ok (.arraylength, 1)) (hF : (gz_ln M a).bind f = some y) (kk : ∀ x, f x = some y → gz_go C cs sl M lv (pc + 1) (.int x :: st)) : gz_go C cs sl M lv pc (.ref a :: st) := by
  obtain ⟨x, hx, hf⟩ := gz_b_some hF
  obtain ⟨h1, h3⟩ := gz_if_some hx
  cases h3
  intro H locs ls hM hS hv
  obtain ⟨t, ht, hk⟩ : ∃ t, (t = 0 ∨ t = 1 ∨ t = 2 ∨ t = 3 ∨ t = 4 ∨ t = 5) ∧ (M.2.1 a).1 = 20 + t := ⟨(M.2.1 a).1 - 20, by omega, by omega⟩
  obtain ⟨-, hc⟩ := gz_arr hM hk
  obtain ⟨ty, hty⟩ : ∃ ty, (gz_ty C.2.2.2)[t]? = some (C.2.2.2.2.1 t, ty) := by
    rcases ht with rfl | rfl | rfl | rfl | rfl | rfl
    · exact ⟨_, rfl⟩
    · exact ⟨_, rfl⟩
    · exact ⟨_, rfl⟩
    · exact ⟨_, rfl⟩
    · exact ⟨_, rfl⟩
    · exact ⟨_, rfl⟩
  exact va_alen (ws := [(a, .inl (C.2.2.2.2.1 t, ((M.2.1 a).2, gz_row M a t)))]) (q0 := 0) (t0 := t) (ty := ty) hC.1 hC.2.1 hC.2.2.2.2.1.2 (D := C.2.2.2.1) (cl := vwCl) (fun k q h => by
    have hz : k < 1 := (List.getElem?_eq_some_iff.mp h).1
    rw [show k = 0 by omega] at h
    cases h
    exact hc) rfl hty rfl hd (kk _ hf H locs ls hM hS hv)
theorem gz_iast (pc : Nat) (hC : gz_ok C cc own nL) {a : Nat} {i v : Int32} {f : gz_M → Option α} (hd : decode cc pc = .ok (.iastore, 1)) (hF : (gz_tI M a i v).bind f = some y) (kk : ∀ M', f M' = some y → gz_go C cs sl M' lv (pc + 1) st) : gz_go C cs sl M lv pc (.int v :: .int i :: .ref a :: st) := by
  obtain ⟨x, hx, hf⟩ := gz_b_some hF
  obtain ⟨⟨h1, h2⟩, h3⟩ := gz_if_some hx
  cases h3
  intro H locs ls hM hS hv
  obtain ⟨hba, hc⟩ := gz_arr (t := 0) hM h1
  have hlt : i.toNatClampNeg < (M.2.1 a).2 := Nat.not_le.mp fun q => h2 (Or.inr q)
  refine W.iast hC.1 hC.2.1 hc (gz_tyI hC 0 rfl _ (fun j => .int (M.2.2.1 a j))) (fun q => by cases q) (by show ¬ (i < 0 ∨ (arrV _ _ _).slots.size ≤ _); rw [arrV_size]; exact h2) rfl rfl hd fun H1 e z oq => ?_
  refine kk _ hf H1 _ ls (hM.put rfl rfl (fun b hb => gz_u2_ne hb) (fun _ _ => rfl) (fun _ _ => rfl) z oq hba ?_) (hS.put z oq hba) hv
  unfold gz_ce
  have h1' : ((gz_sI M a i.toNatClampNeg v).2.1 a).1 = 20 := h1
  rw [h1', if_pos (Nat.le_refl 20)]
  show H1[a]? = some (vp_cell _ (_, .inl _))
  rw [e]
  show some ((vp_cell _ (_, .inl _)).setSlot _ _) = _
  rw [vp_cell_i, vp_cell_i, arrV_store]
  congr 2
  funext q
  by_cases hq : q = i.toNatClampNeg
  · subst hq
    simp [updV, gz_sI, gz_u2_eq]
  · simp [updV, gz_sI, gz_u2_eq, hq]
theorem gz_last (pc : Nat) (hC : gz_ok C cc own nL) {a : Nat} {i : Int32} {v : Int64} {f : gz_M → Option α} (hd : decode cc pc = .ok (.lastore, 1)) (hF : (gz_tL M a i v).bind f = some y) (kk : ∀ M', f M' = some y → gz_go C cs sl M' lv (pc + 1) st) : gz_go C cs sl M lv pc (.long v :: .int i :: .ref a :: st) := by
  obtain ⟨x, hx, hf⟩ := gz_b_some hF
  obtain ⟨⟨h1, h2⟩, h3⟩ := gz_if_some hx
  cases h3
  intro H locs ls hM hS hv
  obtain ⟨hba, hc⟩ := gz_arr (t := 1) hM h1
  refine W.last hC.1 hC.2.1 hc (gz_tyI hC 1 rfl _ (fun j => .long (M.2.2.2.1 a j))) (fun q => by cases q) (by show ¬ (i < 0 ∨ (arrV _ _ _).slots.size ≤ _); rw [arrV_size]; exact h2) rfl rfl hd fun H1 e z oq => ?_
  refine kk _ hf H1 _ ls (hM.put rfl rfl (fun _ _ => rfl) (fun b hb => gz_u2_ne hb) (fun _ _ => rfl) z oq hba ?_) (hS.put z oq hba) hv
  unfold gz_ce
  have h1' : ((gz_sL M a i.toNatClampNeg v).2.1 a).1 = 21 := h1
  rw [h1', if_pos (by decide)]
  show H1[a]? = some (vp_cell _ (_, .inr (.inl _)))
  rw [e]
  show some ((vp_cell _ (_, .inr (.inl _))).setSlot _ _) = _
  rw [vp_cell_l, vp_cell_l, arrV_store]
  congr 2
  funext q
  by_cases hq : q = i.toNatClampNeg
  · subst hq
    simp [updV, gz_sL, gz_u2_eq]
  · simp [updV, gz_sL, gz_u2_eq, hq]
end RW
section SW
variable {C : gz_C} {cc : ByteArray} {own : String} {nL cs sl : Nat} {M : gz_M} {lv : List (Nat × Value)} {st : List Value}
theorem gz_tin (pc tgt : Nat) (hC : gz_ok C cc own nL) {dflt lo hi : Int} {offs : Array Int} {len : Nat} {x k : Int32} {off : Int} (hd : decode cc pc = .ok (.tableswitch dflt lo hi offs, len)) (hx : x = k) (h : (decide (k.toInt < lo) || decide (hi < k.toInt)) = false) (ho : offs[(k.toInt - lo).toNat]? = some off) (ht : (pc : Int) + off = (tgt : Int)) (kk : gz_go C cs sl M lv tgt st) : gz_go C cs sl M lv pc (.int x :: st) := by
  intro H locs ls hM hS hl
  subst hx
  simp only [Bool.or_eq_false_iff, decide_eq_false_iff_not] at h
  exact lv_tableIn hC.1 hC.2.1 hd h.1 h.2 ho ht (kk H locs ls hM hS hl)
theorem gz_tout (pc tgt : Nat) (hC : gz_ok C cc own nL) {dflt lo hi : Int} {offs : Array Int} {len : Nat} {x : Int32} (hd : decode cc pc = .ok (.tableswitch dflt lo hi offs, len)) (h : x.toInt < lo ∨ hi < x.toInt) (ht : (pc : Int) + dflt = (tgt : Int)) (kk : gz_go C cs sl M lv tgt st) : gz_go C cs sl M lv pc (.int x :: st) := fun H locs ls hM hS hl => lv_tableOut hC.1 hC.2.1 hd h ht (kk H locs ls hM hS hl)
theorem gz_lku (pc tgt : Nat) (hC : gz_ok C cc own nL) {dflt : Int} {ps : Array (Int × Int)} {len : Nat} {x : Int32} {off : Int} (hd : decode cc pc = .ok (.lookupswitch dflt ps, len)) (hp : (ps.toList.zip (ps.toList.drop 1)).all (fun (a, next) => a.1 < next.1) = true) (ho : Op.lookupswitch.offset ps.toList dflt x.toInt = off) (ht : (pc : Int) + off = (tgt : Int)) (kk : gz_go C cs sl M lv tgt st) : gz_go C cs sl M lv pc (.int x :: st) := fun H locs ls hM hS hl => lv_lookup hC.1 hC.2.1 hd hp ho ht (kk H locs ls hM hS hl)
end SW
