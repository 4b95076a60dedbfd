def gz_cl2 (ci : Nat) (q : vw_C) : Prop := gz_nf ci = q.2.2 ∧ ci < 19 ∧ ∃ ty : Nat → FieldType, (∀ k, k < q.2.2 → parseFieldDescriptor (q.2.1 k).2.2.1 = some (ty k)) ∧ ∀ k, k < q.2.2 → defaultValue (ty k) = if gz_fk ci k < 2 then .int 0 else if gz_fk ci k = 2 then .long 0 else .null
theorem gz_cl2_ok : ∀ (ci : Nat) (q : vw_C), vwCl[ci]? = some q → gz_cl2 ci q := by
  intro ci q h
  match ci, h with
  | 0, h => cases h; exact ⟨by decide, by decide, tyX0, tyX0_ok, by decide⟩
  | 1, h => cases h; exact ⟨by decide, by decide, tyX1, tyX1_ok, by decide⟩
  | 2, h => cases h; exact ⟨by decide, by decide, tyX2, tyX2_ok, by decide⟩
  | 3, h => cases h; exact ⟨by decide, by decide, tyX3, tyX3_ok, by decide⟩
  | 4, h => cases h; exact ⟨by decide, by decide, tyX4, tyX4_ok, by decide⟩
  | 5, h => cases h; exact ⟨by decide, by decide, tyX5, tyX5_ok, by decide⟩
  | 6, h => cases h; exact ⟨by decide, by decide, tyX6, tyX6_ok, by decide⟩
  | 7, h => cases h; exact ⟨by decide, by decide, tyX7, tyX7_ok, by decide⟩
  | 8, h => cases h; exact ⟨by decide, by decide, tyX8, tyX8_ok, by decide⟩
  | 9, h => cases h; exact ⟨by decide, by decide, tyX9, tyX9_ok, by decide⟩
  | 10, h => cases h; exact ⟨by decide, by decide, tyX10, tyX10_ok, by decide⟩
  | k + 11, h => simp [vwCl] at h
/-- one cell more -/
theorem gz_H.push {G : gz_G} {M M' : gz_M} {H H1 : Heap} (h : gz_H G M H) (hs : M'.1 = M.1 + 1) (h0 : ∀ b, b ≠ M.1 → M'.2.1 b = M.2.1 b) (h1 : ∀ b, b ≠ M.1 → M'.2.2.1 b = M.2.2.1 b) (h2 : ∀ b, b ≠ M.1 → M'.2.2.2.1 b = M.2.2.2.1 b) (h3 : ∀ b, b ≠ M.1 → M'.2.2.2.2 b = M.2.2.2.2 b)
    (z : H1.size = H.size + 1) (oq : ∀ q : Nat, q < H.size → H1[q]? = H[q]?) (hc : va_at G.1 vwCl (M.1, gz_ce G.2.1 M' M.1) H1) : gz_H G M' H1 := by
  refine ⟨by rw [z, hs, h.1], by rw [hs]; have := h.2.1; omega, fun b hb => ?_, fun q hq => by rw [oq q (by have := h.1; have := h.2.1; omega)]; exact h.2.2.2 q hq⟩
  by_cases e : b = M.1
  · subst e
    exact ⟨h.2.1, hc⟩
  · rw [h0 b e] at hb
    refine ⟨(h.2.2.1 b hb).1, ?_⟩
    rw [gz_ce_ne (M := M) (h0 b e) (h1 b e) (h2 b e) (h3 b e)]
    exact (h.2.2.1 b hb).2.kept (oq b (h.2.2.1 b hb).2.lt)
theorem gz_S.push {A : Nat → Prop} {H0 H H1 : Heap} {locs : List Loc} (h : va_S A H0 H locs) (z : H.size ≤ H1.size) (oq : ∀ q : Nat, q < H.size → H1[q]? = H[q]?) : va_S A H0 H1 locs := ⟨Nat.le_trans h.1 z, fun q h1 h2 => (oq q (Nat.lt_of_lt_of_le h1 h.1)).trans (h.2.1 q h1 h2), h.2.2⟩
section AL
variable {C : gz_C} {cc : ByteArray} {own : String} {nL cs sl : Nat} {M : gz_M} {lv : List (Nat × Value)} {st : List Value} {α : Type} {y : α}
variable {fr lo mc0 ms0 : Nat} {ret0 : Option FieldType} {v0 : Option Value} {M0 : gz_M} {nm : String}
theorem gz_wid {pc k n : Nat} (h1 : cs ≤ k) (h2 : sl ≤ n) (kk : gz_go C k n M lv pc st) : gz_go C cs sl M lv pc st := fun H locs ls hM hS hl => W.widen h1 h2 (kk H locs ls hM hS hl)
theorem gz_new (pc : Nat) (hC : gz_ok C cc own nL) (hX : gz_cx C fr lo mc0 ms0 ret0 v0 M0 nm) (cs' sl' : Nat) {idx ci : Nat} {q : vw_C} {f : gz_M → Option α} (hq : vwCl[ci]? = some q) (hw : Cond.classLink own idx q.1 ∈ lw_tbl) (hi : Cond.instantiable q.1 q.2.2 ∈ lw_tbl) (hn : Cond.initialized q.1 ∈ lw_tbl) (hcs : cs + 1 = cs') (hsl : sl + q.2.2 = sl') (hR : cs' ≤ mc0 ∧ sl' ≤ ms0) (hd : decode cc pc = .ok (.new idx, 3)) (hF : gz_jn (gz_nw M ci) f = some y)
    (kk : ∀ M', M' = gz_nw M ci → f M' = some y → gz_go C cs' sl' M' lv (pc + 3) (.ref M.1 :: st)) : gz_go C cs sl M lv pc st := by
  subst hcs; subst hsl
  intro H locs ls hM hS hl
  obtain ⟨hnf, hc19, ty, hty, hdv⟩ := gz_cl2_ok ci q hq
  have hKn := hC.2.2.2.2.1.2.1 ci q hq
  refine W.newcK hC.1 hC.2.1 hC.2.2.2.1 (gz_wd hC hw rfl) (gz_wd hC hi rfl) (gz_wd hC hn rfl) rfl hd (by rw [hX.1]; exact hR.1) (by rw [hX.1]; exact hR.2) hKn.2.1 (h := M.1) hM.1 fun H1 kC hkC e1 z1 o1 => ?_
  have o2 : ∀ q : Nat, q < H.size → H1[q]? = H[q]? := fun q hq => o1 q (by rw [← hM.1]; exact hq)
  refine kk _ rfl hF H1 locs ls (hM.push rfl (fun b hb => gz_u1_ne hb) (fun b hb => gz_u1_ne hb) (fun b hb => gz_u1_ne hb) (fun b hb => gz_u1_ne hb) (by rw [z1, hM.1]) o2 ?_) (gz_S.push hS (by rw [z1, hM.1]; omega) o2) hl
  have hk : ((gz_nw M ci).2.1 M.1) = (ci + 1, 0) := gz_u1_eq
  unfold gz_ce
  rw [hk, if_neg (by show ¬ 20 ≤ ci + 1; omega)]
  show va_at _ _ (M.1, .inr (ci + 1 - 1, (List.range (gz_nf (ci + 1 - 1))).map (gz_fv (gz_nw M ci) M.1 (ci + 1 - 1)))) _
  rw [Nat.add_sub_cancel]
  refine ⟨q, hq, (u_born ty (gz_uts hC hq) (fun _ h => h) hKn hkC e1 hty).to (fun j hj => ?_)⟩
  rw [hnf, gz_vV hj, hdv j hj]
  unfold gz_fv
  simp only [gz_nw, gz_u1_eq]
  rfl
theorem gz_newaX (pc : Nat) (hC : gz_ok C cc own nL) (hX : gz_cx C fr lo mc0 ms0 ret0 v0 M0 nm) (cs' sl' : Nat) (t : Nat) {atype : ArrayType} {n : Int32} {f : gz_M → Option α} (hw : Cond.arrayClass (newarray.typeOf atype) ∈ lw_tbl) (ht : (gz_ty C.2.2.2)[t]? = some (C.2.2.2.2.1 t, newarray.typeOf atype)) (hz : ∀ (c : ClassId) (N : Nat), vp_cell c (N, gz_row (gz_na M t N) M.1 t) = arrV c N (fun _ => defaultValue (newarray.typeOf atype))) (hcs : cs + 1 = cs') (hsl : sl + n.toNatClampNeg = sl') (hn : ¬ n < 0) (hby : n.toNatClampNeg * componentBytes (newarray.typeOf atype) ≤ 536870912) (hR : cs' ≤ mc0 ∧ sl' ≤ ms0) (hd : decode cc pc = .ok (.newarray atype, 2)) (hF : gz_jn (gz_na M t n.toNatClampNeg) f = some y)
    (kk : ∀ M', M' = gz_na M t n.toNatClampNeg → f M' = some y → gz_go C cs' sl' M' lv (pc + 2) (.ref M.1 :: st)) : gz_go C cs sl M lv pc (.int n :: st) := by
  subst hcs; subst hsl
  intro H locs ls hM hS hl
  refine va_newaK hC.1 hC.2.1 (gz_wd hC hw rfl) rfl hd rfl hn rfl hby (by rw [hX.1]; exact hR.1) (by rw [hX.1]; exact hR.2) (h := M.1) hM.1 fun H1 cA e1 z1 o1 hAr hNm => ?_
  have o2 : ∀ q : Nat, q < H.size → H1[q]? = H[q]? := fun q hq => o1 q (by rw [← hM.1]; exact hq)
  have hcA : cA = C.2.2.2.2.1 t := by
    have h2 := (hC.2.2.2.2.1.2.2 t _ ht).2
    have h3 : C.1.2.2.2.2.vm.findClass ("[" ++ (newarray.typeOf atype).toString) = some (C.2.2.2.2.1 t) := by cases atype <;> exact h2
    exact Option.some.inj (hNm.symm.trans h3)
  refine kk _ rfl hF H1 locs ls (hM.push rfl (fun b hb => gz_u1_ne hb) (fun b hb => gz_u1_ne hb) (fun b hb => gz_u1_ne hb) (fun b hb => gz_u1_ne hb) (by rw [z1, hM.1]) o2 ?_) (gz_S.push hS (by rw [z1, hM.1]; omega) o2) hl
  have hk : ((gz_na M t n.toNatClampNeg).2.1 M.1) = (20 + t, n.toNatClampNeg) := gz_u1_eq
  unfold gz_ce
  rw [hk, if_pos (Nat.le_add_right 20 t)]
  show H1[M.1]? = some (vp_cell _ (_, gz_row _ _ (20 + t - 20)))
  rw [Nat.add_sub_cancel_left, hz, e1, hcA]
theorem gz_anew (pc : Nat) (hC : gz_ok C cc own nL) (hX : gz_cx C fr lo mc0 ms0 ret0 v0 M0 nm) (cs' sl' : Nat) (t : Nat) {idx : Nat} {cn : String} {n : Int32} {f : gz_M → Option α} (hw : Cond.classLink own idx cn ∈ lw_tbl) (ho : Cond.arrayOver (.object cn) ∈ lw_tbl) (ht : (gz_ty C.2.2.2)[t]? = some (C.2.2.2.2.1 t, .object cn)) (ht2 : 2 ≤ t) (hcs : cs + 1 = cs') (hsl : sl + n.toNatClampNeg = sl') (hn : ¬ n < 0) (hby : n.toNatClampNeg * 4 ≤ 536870912) (hR : cs' ≤ mc0 ∧ sl' ≤ ms0) (hd : decode cc pc = .ok (.anewarray idx, 3)) (hF : gz_jn (gz_na M t n.toNatClampNeg) f = some y)
    (kk : ∀ M', M' = gz_na M t n.toNatClampNeg → f M' = some y → gz_go C cs' sl' M' lv (pc + 3) (.ref M.1 :: st)) : gz_go C cs sl M lv pc (.int n :: st) := by
  subst hcs; subst hsl
  intro H locs ls hM hS hl T hT X
  obtain ⟨vm₁, cA, kA, comp, h1, h2, h3, h4, h5, X', stp⟩ := X.anewarrayRef hC.1 hC.2.2.2.1 (gz_wd hC hw rfl) (hC.2.2.2.2.1.1.1 _ ho (Or.inr rfl) _) (g := F0 C.2.1.1 pc ls (.int n :: st)) rfl (by rw [hC.2.1]; exact hd) rfl hn hby (by rw [hX.1]; exact hR.1) (by rw [hX.1]; exact hR.2)
  have hcA : cA = C.2.2.2.2.1 t := by
    obtain ⟨_, _, _, _, _, q4⟩ := (hC.2.2.2.2.1.2.2 t _ ht).2
    exact Option.some.inj (h2.symm.trans q4)
  have hsz : T.heap.size = M.1 := by rw [hT]; exact hM.1
  have hheap : ((T.setVm vm₁).pushCell { cls := cA, slots := Array.replicate n.toNatClampNeg .null, vm := .none }).heap = H.push { cls := cA, slots := Array.replicate n.toNatClampNeg .null, vm := .none } := by rw [← hT]; rfl
  have o2 : ∀ q : Nat, q < H.size → (H.push { cls := cA, slots := Array.replicate n.toNatClampNeg .null, vm := .none })[q]? = H[q]? := fun q hq => by rw [Array.getElem?_push, if_neg (Nat.ne_of_lt hq)]
  obtain ⟨t9, a1, b1⟩ := kk _ rfl hF _ locs ls (hM.push rfl (fun b hb => gz_u1_ne hb) (fun b hb => gz_u1_ne hb) (fun b hb => gz_u1_ne hb) (fun b hb => gz_u1_ne hb) (by simp) o2 (by
      have hk : ((gz_na M t n.toNatClampNeg).2.1 M.1) = (20 + t, n.toNatClampNeg) := gz_u1_eq
      unfold gz_ce
      rw [hk, if_pos (Nat.le_add_right 20 t)]
      show (H.push _)[M.1]? = some (vp_cell _ (_, gz_row _ _ (20 + t - 20)))
      rw [Nat.add_sub_cancel_left]
      unfold gz_row
      rw [if_neg (by omega), if_neg (by omega), vp_cell_q, ← hM.1]
      simp only [gz_na, ← hM.1, gz_u1_eq]
      rw [Array.getElem?_push, if_pos rfl, hcA]
      show some _ = some (arrV _ _ (fun _ => va_rf none))
      rw [show (va_rf none : Value) = .null from rfl, ← arrV_new])) (gz_S.push hS (by simp) o2) hl _ hheap X'
  refine ⟨t9, stp t9 ?_, b1⟩
  rw [hsz]
  exact a1
theorem gz_aast (pc : Nat) (hC : gz_ok C cc own nL) {a v : Nat} {i : Int32} {f : gz_M → Option α} (hd : decode cc pc = .ok (.aastore, 1)) (hF : (gz_tR M a i v).bind f = some y) (kk : ∀ M', f M' = some y → gz_go C cs sl M' lv (pc + 1) st) : gz_go C cs sl M lv pc (.ref v :: .int i :: .ref a :: st) := by
  obtain ⟨x, hx, hf⟩ := gz_b_some hF
  obtain ⟨⟨h1, h2⟩, h3⟩ := gz_if_some hx
  cases h3
  intro H locs ls hM hS hv
  have hlt : i.toNatClampNeg < (M.2.1 a).2 := Nat.not_le.mp fun q => h2 (Or.inr q)
  have h0 : ¬ i < 0 := fun q => h2 (Or.inl q)
  obtain ⟨t, ci, q, ht, hk, hkv, hq, hc19, hty⟩ : ∃ (t ci : Nat) (q : vw_C), 2 ≤ t ∧ (M.2.1 a).1 = 20 + t ∧ (M.2.1 v).1 = ci + 1 ∧ vwCl[ci]? = some q ∧ ci < 19 ∧ (gz_ty C.2.2.2)[t]? = some (C.2.2.2.2.1 t, .object q.1) := by
    rcases h1 with ⟨g1, g2⟩ | ⟨g1, g2⟩
    · exact ⟨2, 4, _, by decide, g1, g2, rfl, by decide, rfl⟩
    · exact ⟨3, 7, _, by decide, g1, g2, rfl, by decide, rfl⟩
  obtain ⟨hba, hcell⟩ := gz_arr hM hk
  have hrow : gz_row M a t = .inr (.inr (.inr (.inr (M.2.2.2.2 a)))) := by unfold gz_row; rw [if_neg (by omega), if_neg (by omega)]
  rw [hrow] at hcell
  obtain ⟨-, r', hr', cellV, g1, g2, g3, -⟩ := gz_obj hM hkv hc19
  have hcls := (hC.2.2.2.2.1.2.1 ci q hq).2
  obtain ⟨kA, comp, k1, k2, k3, -⟩ := (hC.2.2.2.2.1.2.2 t _ hty).2
  have hcomp : comp = C.2.2.2.1.1 ci := Option.some.inj (k3.symm.trans hcls.1)
  subst hcomp
  obtain ⟨kC, hkC, -⟩ := hcls.2
  refine W.aast hC.1 hC.2.1 hcell (fun q h => by cases h) (fun h => by cases h) k1 k2 rfl hkC ⟨h0, by show _ < (arrV _ _ _).slots.size; rw [arrV_size]; exact hlt⟩ g1 (fun q h => by rw [g3] at h; cases h) (by rw [g2]; exact hkC) (by rw [g2]; exact va_assign hcls) rfl rfl hd fun H1 e z oq => ?_
  refine kk _ hf H1 _ ls (hM.put rfl rfl (fun _ _ => rfl) (fun _ _ => rfl) (fun b hb => gz_u2_ne hb) z oq hba ?_) (hS.put z oq hba) hv
  unfold gz_ce
  have h1' : ((gz_sR M a i.toNatClampNeg (some v)).2.1 a).1 = 20 + t := hk
  rw [h1', if_pos (Nat.le_add_right 20 t)]
  show H1[a]? = some (vp_cell _ (_, gz_row _ _ (20 + t - 20)))
  rw [Nat.add_sub_cancel_left]
  unfold gz_row
  rw [if_neg (by omega), if_neg (by omega), e, vp_cell_q, vp_cell_q, arrV_store]
  congr 2
  funext q
  by_cases hq : q = i.toNatClampNeg
  · subst hq
    simp [updV, gz_sR, gz_u2_eq, va_rf]
  · simp [updV, gz_sR, gz_u2_eq, hq]
theorem gz_oi_w : Cond.instanceMethod Lib.objectInit ∈ lw_tbl ∧ Cond.code Lib.objectInit ⟨#[0xb1]⟩ 1 none ∈ lw_tbl := by decide +kernel
theorem gz_oin (pc : Nat) (hC : gz_ok C cc own nL) (hX : gz_cx C fr lo mc0 ms0 ret0 v0 M0 nm) {idx a : Nat} (hw : Cond.methodLink own idx Lib.objectInit ∈ lw_tbl) (hR : 1 ≤ fr ∧ (st.map fun v => v.category).sum + 12 ≤ lo) (hd : decode cc pc = .ok (.invokespecial idx, 3)) (k : gz_go C cs sl M lv (pc + 3) st) : gz_go C cs sl M lv pc (.ref a :: st) := fun H locs ls hM hS hl =>
  W.objInit hC.1 hC.2.1 hC.2.2.2.1 (gz_wd hC hw rfl) (gz_wd hC gz_oi_w.1 rfl) (gz_wd hC gz_oi_w.2 rfl) rfl hl.1 rfl hd (by rw [hX.1]; exact hR.1) (by rw [hX.1]; show 2 * 0 + _ + 12 ≤ lo; have := hR.2; omega) (k H locs ls hM hS hl)
/-- a constructor called: of a class that lets us, of a nest mate -/
theorem gz_ci (pc : Nat) (hC : gz_ok C cc own nL) (hX : gz_cx C fr lo mc0 ms0 ret0 v0 M0 nm) (cs' sl' : Nat) {ym : MethodName} {bytes : ByteArray} {maxL n fr' lo' mc ms idx a : Nat} {stk : List Value} (av : List Value) {F1 : Option gz_M} {f : gz_M → Option α} (hy : gz_yl ym bytes maxL none n) (hyi : ym.name = "<init>" ∧ Cond.instanceMethod ym ∈ lw_tbl) (hw : Cond.methodLink own idx ym ∈ lw_tbl) (hR : fr' + 1 ≤ fr ∧ 8 + (maxL + 11) + lo' ≤ lo)
    (hct : ∀ x, F1 = some x → gz_ct C.1.2.1 ym bytes maxL none fr' lo' mc ms C.2.2.2 (.ref a :: av) M none x) (hn : av.length = n) (hs : stk = av.reverse ++ .ref a :: st) (hst : (st.map fun v => v.category).sum ≤ 8) (hd : decode cc pc = .ok (.invokespecial idx, 3)) (hcs : cs + mc = cs') (hsl : sl + ms = sl') (hf : cs' ≤ mc0 ∧ sl' ≤ ms0) (hF : F1.bind f = some y) (k : ∀ M', f M' = some y → gz_go C cs' sl' M' lv (pc + 3) st) : gz_go C cs sl M lv pc stk := by
  obtain ⟨x, hx, hf1⟩ := gz_b_some hF
  subst hcs; subst hsl; subst hs
  intro H locs ls hM hS hl
  exact gz_back (va_runI (As := av) (rest := st) (g := F0 C.2.1.1 pc ls (av.reverse ++ .ref a :: st)) (Ts := []) ⟨hC.1, hC.2.1, hC.2.2.1, hC.2.2.2.1, fun w h => by cases h⟩ (hct x hx) ⟨gz_cb hC hX hy hw hR, hyi.1, gz_wd hC hyi.2 rfl⟩ ⟨gz_blind, fun U hU hW => ⟨rfl, hC.2.2.2.2.1.warm hW (fun a h1 h2 => by rw [hU]; exact hS.2.1 a h1 h2), by rw [hU]; exact hM⟩⟩ rfl hn (hl.1.trans hC.2.2.1) rfl (lv_room hst) hd (by rw [hX.1]; exact hf)) hS hl (k x hf1)
theorem gz_cn (pc : Nat) (hC : gz_ok C cc own nL) (hX : gz_cx C fr lo mc0 ms0 ret0 v0 M0 nm) (cs' sl' : Nat) {ym : MethodName} {bytes : ByteArray} {maxL n fr' lo' mc ms idx a : Nat} {host : String} {stk : List Value} (av : List Value) {F1 : Option gz_M} {f : gz_M → Option α} (hy : gz_yl ym bytes maxL none n) (hyi : ym.name = "<init>" ∧ Cond.instanceMethod ym ∈ lw_tbl) (hw : Cond.methodLinkNest own idx ym host ∈ lw_tbl) (hR : fr' + 1 ≤ fr ∧ 8 + (maxL + 11) + lo' ≤ lo)
    (hct : ∀ x, F1 = some x → gz_ct C.1.2.1 ym bytes maxL none fr' lo' mc ms C.2.2.2 (.ref a :: av) M none x) (hn : av.length = n) (hs : stk = av.reverse ++ .ref a :: st) (hst : (st.map fun v => v.category).sum ≤ 8) (hd : decode cc pc = .ok (.invokespecial idx, 3)) (hcs : cs + mc = cs') (hsl : sl + ms = sl') (hf : cs' ≤ mc0 ∧ sl' ≤ ms0) (hF : F1.bind f = some y) (k : ∀ M', f M' = some y → gz_go C cs' sl' M' lv (pc + 3) st) : gz_go C cs sl M lv pc stk := by
  obtain ⟨x, hx, hf1⟩ := gz_b_some hF
  subst hcs; subst hsl; subst hs
  intro H locs ls hM hS hl
  refine gz_back (va_runIN (bytes := bytes) (maxL := maxL) (n := n) (host := host) (As := av) (rest := st) (g := F0 C.2.1.1 pc ls (av.reverse ++ .ref a :: st)) (Ts := []) ⟨hC.1, hC.2.1, hC.2.2.1, hC.2.2.2.1, fun w h => by cases h⟩ (hct x hx) ⟨⟨⟨rfl, rfl, by rw [hX.1]; exact hR.1, by rw [hX.1]; exact hR.2, fun w hw1 a' U hW => by rw [List.mem_singleton.mp hw1]; exact word_at hW (good_of_word rfl) (gz_wd hC hy.1 rfl), List.mem_cons_self⟩, gz_wd hC hy.1 rfl, gz_wd hC hy.2.1 rfl, hy.2.2.1, fun sig h => by
      have h2 := hy.2.2.2
      rw [h] at h2
      exact (Option.some.inj h2).symm, hC.2.2.2.2.1.1.1 _ hw (Or.inr rfl) _⟩, hyi.1, gz_wd hC hyi.2 rfl⟩ ⟨gz_blind, fun U hU hW => ⟨rfl, hC.2.2.2.2.1.warm hW (fun a h1 h2 => by rw [hU]; exact hS.2.1 a h1 h2), by rw [hU]; exact hM⟩⟩ rfl hn (hl.1.trans hC.2.2.1) rfl (lv_room hst) hd (by rw [hX.1]; exact hf)) hS hl (k x hf1)
end AL
