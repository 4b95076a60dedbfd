section DP
variable {C : gz_C} {cc : ByteArray} {own : String} {nL cs sl : Nat} {M : gz_M} {lv : List (Nat × Value)} {st : List Value} {α ρ : Type} {y : α}
variable {fr lo mc0 ms0 : Nat} {ret0 : Option FieldType} {v0 : Option Value} {M0 : gz_M} {nm : String} {ym : MethodName} {bytes : ByteArray} {maxL n fr' lo' idx ci a : Nat} {ret : Option FieldType} {stk : List Value}
/-- a call over a stack of at most 16 words -/
theorem gz_cvD (pc : Nat) (hC : gz_ok C cc own nL) (hX : gz_cx C fr lo mc0 ms0 ret0 v0 M0 nm) {v : Option Value} {M' : gz_M} (av : List Value) (hy : gz_yl ym bytes maxL ret n) (hyv : gz_yv ym ci) (hw : Cond.methodLink own idx ym ∈ lw_tbl) (hR : fr' + 1 ≤ fr ∧ 16 + (maxL + 11) + lo' ≤ lo) (hk : (M.2.1 a).1 = ci + 1)
    (hct : gz_ct C.1.2.1 ym bytes maxL ret fr' lo' 0 0 C.2.2.2 (.ref a :: av) M v M') (hn : av.length = n) (hs : stk = av.reverse ++ .ref a :: st) (hst : (st.map fun v => v.category).sum ≤ 16) (hd : decode cc pc = .ok (.invokevirtual idx, 3)) (hf : cs ≤ mc0 ∧ sl ≤ ms0) (k : gz_go C cs sl M' lv (pc + 3) (v.toList ++ st)) : gz_go C cs sl M lv pc stk := by
  intro H locs ls hM hS hl
  subst hs
  obtain ⟨hi, hse, hc, q, hq, hqn⟩ := hyv
  obtain ⟨-, r, hr1, cell, q1, q2, q3, q4⟩ := gz_obj hM hk hc
  have hr : r = q := Option.some.inj (hr1.symm.trans hq)
  subst hr
  have hK : Back C.1.2.1 C.1.2.2.2.1 C.1.1 C.1.2.2.1 C.2.1.2.2.1 C.1.2.2.2.2 C.2.1.2.1 ym 3 16 (PreOf C.1.2.2.2.1 0 0 (va_Pc (.ref a :: av) (fun U => gz_E C.2.2.2 U ∧ gz_H C.2.2.2 M U.heap))) (PostOf (gz_Q C.2.2.2 v M') 0 0 (gz_A C.2.2.2)) :=
    back_of (bytes := bytes) (maxL := maxL) (ret := ret) hct gz_blind rfl rfl (by rw [hX.1]; exact hR.1) (by rw [hX.1]; exact hR.2) (fun w hw1 a' U hW => by rw [List.mem_singleton.mp hw1]; exact word_at hW (good_of_word rfl) (gz_wd hC hy.1 rfl)) List.mem_cons_self (fun a' U hW => word_at hW (good_of_word rfl) (gz_wd hC hy.2.1 rfl))
  refine gz_back (mc := 0) (ms := 0) (a := (Value.ref a :: av).toArray) ?_ hS hl k
  intro T hT X
  obtain ⟨v', vm₁, ⟨U', l2, c2, s2⟩, hW₁, X', ⟨g', mk, t, L, e1, e2, hq9, h1, hL, h2, h3⟩, st9⟩ := callV X hC.1 (C := ym.cls) (bytes := bytes) (maxL := maxL) (ret := ret) hC.2.2.2.1 (gz_wd hC hw rfl) (gz_wd hC hi rfl) (gz_wd hC hse rfl) (gz_wd hC hy.1 rfl) hy.2.2.1 hK (by rw [hT]; exact q1) (by rw [q3]; rfl) (by rw [q2, ← hqn]; exact (hC.2.2.2.2.1.2.1 ci _ hq).2.1) (g := F0 C.2.1.1 pc ls (av.reverse ++ .ref a :: st)) rfl hl.1 (argsL := av) (rest := st) (fun sig h => by
      have h2 := hy.2.2.2
      rw [h] at h2
      exact hn.trans (Option.some.inj h2).symm) rfl (by show 2 * 0 + _ ≤ 16; omega) (by rw [hC.2.1]; exact hd)
    (fun vm₁ hW₁ => ⟨by rw [hX.1]; exact hf.1, by rw [hX.1]; exact hf.2, rfl, hC.2.2.2.2.1.warm (U := T.setVm vm₁) hW₁ (fun a h1 h2 => by show T.heap[a]? = _; rw [hT]; exact hS.2.1 a h1 h2), by show gz_H _ _ T.heap; rw [hT]; exact hM⟩)
  dsimp only [Pt.U, Pt.locs, Pt.cells, Pt.slots] at X' e1 e2 h1 h2 h3 st9
  subst h1; subst h2; subst h3
  exact ⟨v', (T.setVm vm₁).calling g' mk (Value.ref a :: av).toArray, t, U', L, hT, X', hL, e1, e2, hq9, st9⟩
theorem gz_cvPD (pc : Nat) (hC : gz_ok C cc own nL) (hX : gz_cx C fr lo mc0 ms0 ret0 v0 M0 nm) (av : List Value) (vl : ρ → Value) {F1 : Option ρ} {f : ρ → Option α} (hy : gz_yl ym bytes maxL ret n) (hyv : gz_yv ym ci) (hw : Cond.methodLink own idx ym ∈ lw_tbl) (hR : fr' + 1 ≤ fr ∧ 16 + (maxL + 11) + lo' ≤ lo) (hg : ∃ B : Option ρ, F1 = gz_gd M ci a B)
    (hct : ∀ x, F1 = some x → gz_ct C.1.2.1 ym bytes maxL ret fr' lo' 0 0 C.2.2.2 (.ref a :: av) M (some (vl x)) M) (hn : av.length = n) (hs : stk = av.reverse ++ .ref a :: st) (hst : (st.map fun v => v.category).sum ≤ 16) (hd : decode cc pc = .ok (.invokevirtual idx, 3)) (hf : cs ≤ mc0 ∧ sl ≤ ms0) (hF : F1.bind f = some y) (k : ∀ x, f x = some y → gz_go C cs sl M lv (pc + 3) (vl x :: st)) : gz_go C cs sl M lv pc stk := by
  obtain ⟨x, hx, hf1⟩ := gz_b_some hF
  obtain ⟨B, hB⟩ := hg
  exact gz_cvD pc hC hX av hy hyv hw hR (gz_gd_some (hB.symm.trans hx)).1 (hct x hx) hn hs hst hd hf (k x hf1)
end DP
