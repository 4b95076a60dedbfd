/-- the law's room -/
def gz_cy (C : gz_C) (fr lo mc ms : Nat) : Prop := C.1.2.2.2.1 = { frames := fr, cells := mc, slots := ms, locals := lo } ∧ True
section LR
variable {C : gz_C} {cc : ByteArray} {own : String} {nL cs sl : Nat} {M : gz_M} {lv : List (Nat × Value)} {st : List Value} {α : Type} {y : α}
variable {fr lo mc0 ms0 : Nat}
theorem gz_cbR (hC : gz_ok C cc own nL) {fr lo mc0 ms0 : Nat} (hX : gz_cy C fr lo mc0 ms0) {ym : MethodName} {bytes : ByteArray} {maxL n fr' lo' mc ms idx : Nat} {ret : Option FieldType} (hy : gz_yl ym bytes maxL ret n) (hw : Cond.methodLink own idx ym ∈ lw_tbl) (hR : fr' + 1 ≤ fr ∧ 8 + (maxL + 11) + lo' ≤ lo) :
    CallB C.1.2.2.2.1 C.1.2.2.2.2 C.2.1.2.1 own idx ym bytes maxL ret [.code ym bytes maxL ret] { frames := fr', cells := mc, slots := ms, locals := lo' } mc ms n := by
  refine ⟨rfl, rfl, by rw [hX.1]; exact hR.1, by rw [hX.1]; exact hR.2, fun w hw1 a' U hW => ?_, List.mem_cons_self, gz_wd hC hy.1 rfl, gz_wd hC hy.2.1 rfl, hy.2.2.1, fun sig h => ?_, gz_wd hC hw rfl⟩
  · rw [List.mem_singleton.mp hw1]
    exact word_at hW (good_of_word rfl) (gz_wd hC hy.1 rfl)
  · have h2 := hy.2.2.2
    rw [h] at h2
    exact (Option.some.inj h2).symm
theorem gz_cvR (pc : Nat) (hC : gz_ok C cc own nL) {fr lo mc0 ms0 : Nat} (hX : gz_cy C fr lo mc0 ms0) {ym : MethodName} {bytes : ByteArray} {maxL n fr' lo' mc ms idx ci a : Nat} {ret v} {M' : gz_M} {stk : List Value} (av : List Value) (hy : gz_yl ym bytes maxL ret n) (hyv : gz_yv ym ci) (hw : Cond.methodLink own idx ym ∈ lw_tbl) (hR : fr' + 1 ≤ fr ∧ 8 + (maxL + 11) + lo' ≤ lo) (hk : (M.2.1 a).1 = ci + 1)
    (hct : gz_ct C.1.2.1 ym bytes maxL ret fr' lo' mc ms C.2.2.2 (.ref a :: av) M v M') (hn : av.length = n) (hs : stk = av.reverse ++ .ref a :: st) (hst : (st.map fun v => v.category).sum ≤ 8) (hd : decode cc pc = .ok (.invokevirtual idx, 3)) (hf : cs + mc ≤ mc0 ∧ sl + ms ≤ ms0) (k : gz_go C (cs + mc) (sl + ms) M' lv (pc + 3) (v.toList ++ st)) : gz_go C cs sl M lv pc stk := by
  intro H locs ls hM hS hl
  subst hs
  obtain ⟨hi, hse, hc, q, hq, hqn⟩ := hyv
  obtain ⟨-, r, hr1, cell, q1, q2, q3, q4⟩ := gz_obj hM hk hc
  have hr : r = q := Option.some.inj (hr1.symm.trans hq)
  subst hr
  refine gz_back (va_runV (As := av) (rest := st) (g := F0 C.2.1.1 pc ls (av.reverse ++ .ref a :: st)) ⟨hC.1, hC.2.1, hC.2.2.1, hC.2.2.2.1, gz_uts hC hq⟩ hct ⟨gz_cbR hC hX hy hw hR, gz_wd hC hi rfl, gz_wd hC hse rfl⟩ ⟨gz_blind, ⟨cell, q1, by rw [q3]; rfl, by rw [q2, ← hqn]; exact (hC.2.2.2.2.1.2.1 ci _ hq).2.1⟩, fun U hU hW => ⟨rfl, hC.2.2.2.2.1.warm hW (fun a h1 h2 => by rw [hU]; exact hS.2.1 a h1 h2), by rw [hU]; exact hM⟩⟩ rfl hn (hl.1.trans hC.2.2.1) rfl (lv_room hst) hd (by rw [hX.1]; exact hf)) hS hl k
theorem gz_ciR (pc : Nat) (hC : gz_ok C cc own nL) (hX : gz_cy C fr lo mc0 ms0) (cs' sl' : Nat) {ym : MethodName} {bytes : ByteArray} {maxL n fr' lo' mc ms idx a : Nat} {stk : List Value} (av : List Value) {F1 : Option gz_M} {f : gz_M → Option α} (hy : gz_yl ym bytes maxL none n) (hyi : ym.name = "<init>" ∧ Cond.instanceMethod ym ∈ lw_tbl) (hw : Cond.methodLink own idx ym ∈ lw_tbl) (hR : fr' + 1 ≤ fr ∧ 8 + (maxL + 11) + lo' ≤ lo)
    (hct : ∀ x, F1 = some x → gz_ct C.1.2.1 ym bytes maxL none fr' lo' mc ms C.2.2.2 (.ref a :: av) M none x) (hn : av.length = n) (hs : stk = av.reverse ++ .ref a :: st) (hst : (st.map fun v => v.category).sum ≤ 8) (hd : decode cc pc = .ok (.invokespecial idx, 3)) (hcs : cs + mc = cs') (hsl : sl + ms = sl') (hf : cs' ≤ mc0 ∧ sl' ≤ ms0) (hF : F1.bind f = some y) (k : ∀ M', f M' = some y → gz_go C cs' sl' M' lv (pc + 3) st) : gz_go C cs sl M lv pc stk := by
  obtain ⟨x, hx, hf1⟩ := gz_b_some hF
  subst hcs; subst hsl; subst hs
  intro H locs ls hM hS hl
  exact gz_back (va_runI (As := av) (rest := st) (g := F0 C.2.1.1 pc ls (av.reverse ++ .ref a :: st)) (Ts := []) ⟨hC.1, hC.2.1, hC.2.2.1, hC.2.2.2.1, fun w h => by cases h⟩ (hct x hx) ⟨gz_cbR hC hX hy hw hR, hyi.1, gz_wd hC hyi.2 rfl⟩ ⟨gz_blind, fun U hU hW => ⟨rfl, hC.2.2.2.2.1.warm hW (fun a h1 h2 => by rw [hU]; exact hS.2.1 a h1 h2), by rw [hU]; exact hM⟩⟩ rfl hn (hl.1.trans hC.2.2.1) rfl (lv_room hst) hd (by rw [hX.1]; exact hf)) hS hl (k x hf1)
theorem gz_newR (pc : Nat) (hC : gz_ok C cc own nL) (hX : gz_cy C fr lo mc0 ms0) (cs' sl' : Nat) {idx ci : Nat} {q : vw_C} {f : gz_M → Option α} (hq : vwCl[ci]? = some q) (hw : Cond.classLink own idx q.1 ∈ lw_tbl) (hi : Cond.instantiable q.1 q.2.2 ∈ lw_tbl) (hn : Cond.initialized q.1 ∈ lw_tbl) (hcs : cs + 1 = cs') (hsl : sl + q.2.2 = sl') (hR : cs' ≤ mc0 ∧ sl' ≤ ms0) (hd : decode cc pc = .ok (.new idx, 3)) (hF : gz_jn (gz_nw M ci) f = some y)
    (kk : ∀ M', M' = gz_nw M ci → f M' = some y → gz_go C cs' sl' M' lv (pc + 3) (.ref M.1 :: st)) : gz_go C cs sl M lv pc st := by
  subst hcs; subst hsl
  intro H locs ls hM hS hl
  obtain ⟨hnf, hc19, ty, hty, hdv⟩ := gz_cl2_ok ci q hq
  have hKn := hC.2.2.2.2.1.2.1 ci q hq
  refine W.newcK hC.1 hC.2.1 hC.2.2.2.1 (gz_wd hC hw rfl) (gz_wd hC hi rfl) (gz_wd hC hn rfl) rfl hd (by rw [hX.1]; exact hR.1) (by rw [hX.1]; exact hR.2) hKn.2.1 (h := M.1) hM.1 fun H1 kC hkC e1 z1 o1 => ?_
  have o2 : ∀ q : Nat, q < H.size → H1[q]? = H[q]? := fun q hq => o1 q (by rw [← hM.1]; exact hq)
  refine kk _ rfl hF H1 locs ls (hM.push rfl (fun b hb => gz_u1_ne hb) (fun b hb => gz_u1_ne hb) (fun b hb => gz_u1_ne hb) (fun b hb => gz_u1_ne hb) (by rw [z1, hM.1]) o2 ?_) (gz_S.push hS (by rw [z1, hM.1]; omega) o2) hl
  have hk : ((gz_nw M ci).2.1 M.1) = (ci + 1, 0) := gz_u1_eq
  unfold gz_ce
  rw [hk, if_neg (by show ¬ 20 ≤ ci + 1; omega)]
  show va_at _ _ (M.1, .inr (ci + 1 - 1, (List.range (gz_nf (ci + 1 - 1))).map (gz_fv (gz_nw M ci) M.1 (ci + 1 - 1)))) _
  rw [Nat.add_sub_cancel]
  refine ⟨q, hq, (u_born ty (gz_uts hC hq) (fun _ h => h) hKn hkC e1 hty).to (fun j hj => ?_)⟩
  rw [hnf, gz_vV hj, hdv j hj]
  unfold gz_fv
  simp only [gz_nw, gz_u1_eq]
  rfl
theorem gz_sldR (pc : Nat) (hC : gz_ok C cc own nL) {b L : Nat} {xs : Nat → Int32} (hXs : va_X b L xs C.1.2.2.2.2 C.1.2.2.2.2.heap) (hbl : b < C.1.2.2.2.2.heap.size) (hbA : ¬ gz_A C.2.2.2 b) {i : Int32} (hin : vp_in i L) (hd : decode cc pc = .ok (.iaload, 1)) (k : gz_go C cs sl M lv (pc + 1) (.int (xs i.toNatClampNeg) :: st)) : gz_go C cs sl M lv pc (.int i :: .ref b :: st) := fun H locs ls hM hS hl => va_sld hC.1 hC.2.1 hXs hbl hbA hS hin hd (k H locs ls hM hS hl)
theorem gz_slenR (pc : Nat) (hC : gz_ok C cc own nL) {b L : Nat} {xs : Nat → Int32} (hXs : va_X b L xs C.1.2.2.2.2 C.1.2.2.2.2.heap) (hbl : b < C.1.2.2.2.2.heap.size) (hbA : ¬ gz_A C.2.2.2 b) (hd : decode cc pc = .ok (.arraylength, 1)) (k : gz_go C cs sl M lv (pc + 1) (.int (Int32.ofNat L) :: st)) : gz_go C cs sl M lv pc (.ref b :: st) := fun H locs ls hM hS hl => va_slen hC.1 hC.2.1 hXs hbl hbA hS hd (k H locs ls hM hS hl)
end LR
