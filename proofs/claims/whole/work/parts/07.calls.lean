def gz_Q (G : gz_G) (v : Option Value) (M' : gz_M) : Array Value → State → Outcome → State → Prop := fun _ st oc t => oc = .returned v ∧ gz_H G M' t.heap ∧ va_F (gz_A G) st t
/-- a contract: from memory M the method answers v, and leaves memory M' -/
def gz_ct (l : Launch) (ym : MethodName) (bytes : ByteArray) (maxL : Nat) (ret : Option FieldType) (fr lo mc ms : Nat) (G : gz_G) (av : List Value) (M : gz_M) (v : Option Value) (M' : gz_M) : Prop := Met l ym [.code ym bytes maxL ret] { frames := fr, cells := mc, slots := ms, locals := lo } (va_Pc av (fun U => gz_E G U ∧ gz_H G M U.heap)) (gz_Q G v M') mc ms (gz_A G)
/-- the contract that C walks for -/
def gz_cx (C : gz_C) (fr lo mc ms : Nat) (ret : Option FieldType) (v : Option Value) (M' : gz_M) (nm : String) : Prop := C.1.2.2.2.1 = { frames := fr, cells := mc, slots := ms, locals := lo } ∧ C.2.2.1 = MQ C.2.1.2.2.1 (gz_Q C.2.2.2 v M') C.2.1.2.1 C.1.2.2.2.2 mc ms (gz_A C.2.2.2) ∧ C.2.1.2.2.2.1.sig.returnType = ret ∧ C.2.1.2.2.2.1.name = nm
theorem gz_ct.of {l : Launch} {ym : MethodName} {bytes : ByteArray} {maxL : Nat} {ret : Option FieldType} {fr lo mc ms : Nat} {G : gz_G} {av : List Value} {M : gz_M} {v : Option Value} {M' : gz_M} (hy : plainName ym.cls = true) (hmax : (lg_sl av).length ≤ maxL)
    (body : ∀ C : gz_C, gz_ok C bytes ym.cls maxL → gz_cx C fr lo mc ms ret v M' ym.name → gz_go C 0 0 M (lv_args 0 av) 0 []) : gz_ct l ym bytes maxL ret fr lo mc ms G av M v M' := by
  refine Met.ofW (cc := bytes) (maxL := maxL) (ret := ret) hy rfl ?_
  intro p e s m args below meth c s₁ B hml hv
  obtain ⟨rfl, hE, hM⟩ := hv
  have hown : s.vm.findClass ym.cls = some m.cls := findClass_of_methodNamed B.named
  have hl := lv_entry av (n := maxL) hmax
  rw [lg_entry_eq]
  exact body ((p, l, e, { frames := fr, cells := mc, slots := ms, locals := lo }, s), (m, av.toArray, below, meth, c), MQ below (gz_Q G v M') av.toArray s mc ms (gz_A G), G) ⟨B.exec, B.bytes, hml, hown, hE, B.notSynchronized⟩ ⟨rfl, rfl, B.returns, (name_of_methodNamed B.named B.method).1⟩ s.heap [] _ hM va_S.rf (by rw [hml]; exact hl)
def gz_yl (ym : MethodName) (bytes : ByteArray) (maxL : Nat) (ret : Option FieldType) (n : Nat) : Prop := Cond.code ym bytes maxL ret ∈ lw_tbl ∧ Cond.initialized ym.cls ∈ lw_tbl ∧ (ym.cls ≠ "java/lang/invoke/MethodHandle" ∧ ym.cls ≠ "java/lang/invoke/VarHandle") ∧ (parseMethodDescriptor ym.desc).map (fun d => d.parameters.length) = some n
def gz_yv (ym : MethodName) (ci : Nat) : Prop := Cond.instanceMethod ym ∈ lw_tbl ∧ Cond.selects ym.cls ym ym ∈ lw_tbl ∧ ci < 19 ∧ ∃ q : vw_C, vwCl[ci]? = some q ∧ q.1 = ym.cls
section CL
variable {C : gz_C} {cc : ByteArray} {own : String} {nL cs sl : Nat} {M : gz_M} {lv : List (Nat × Value)} {st : List Value} {α : Type} {y : α}
theorem gz_iret0 (pc : Nat) (hC : gz_ok C cc own nL) {fr lo mc ms : Nat} {nm : String} {r : Int32} (hX : gz_cx C fr lo mc ms (some .int) (some (.int r)) M nm) (hd : decode cc pc = .ok (.ireturn, 1)) : gz_go C mc ms M lv pc [.int r] := by
  intro H locs ls hM hS hl
  rw [hX.2.1]
  exact W.iret hC.1 hC.2.1 hX.2.2.1 (fun t ht hW => ⟨rfl, by rw [ht]; exact hM, hS.F ht⟩) hS.2.2 hd hC.2.2.2.2.2
theorem gz_zret0 (pc : Nat) (hC : gz_ok C cc own nL) {fr lo mc ms : Nat} {nm : String} {r : Int32} (hz : r = 0 ∨ r = 1) (hX : gz_cx C fr lo mc ms (some .boolean) (some (.int r)) M nm) (hd : decode cc pc = .ok (.ireturn, 1)) : gz_go C mc ms M lv pc [.int r] := by
  intro H locs ls hM hS hl
  rw [hX.2.1]
  exact W.zret hC.1 hC.2.1 hX.2.2.1 (gz_and1 r hz) (fun t ht hW => ⟨rfl, by rw [ht]; exact hM, hS.F ht⟩) hS.2.2 hd hC.2.2.2.2.2
theorem gz_lret0 (pc : Nat) (hC : gz_ok C cc own nL) {fr lo mc ms : Nat} {nm : String} {r : Int64} (hX : gz_cx C fr lo mc ms (some .long) (some (.long r)) M nm) (hd : decode cc pc = .ok (.lreturn, 1)) : gz_go C mc ms M lv pc [.long r] := by
  intro H locs ls hM hS hl
  rw [hX.2.1]
  exact W.lret hC.1 hC.2.1 hX.2.2.1 (fun t ht hW => ⟨rfl, by rw [ht]; exact hM, hS.F ht⟩) hS.2.2 hd hC.2.2.2.2.2
theorem gz_vret0 (pc : Nat) (hC : gz_ok C cc own nL) {fr lo mc ms : Nat} {nm : String} (hX : gz_cx C fr lo mc ms none none M nm) (hd : decode cc pc = .ok (.return_, 1)) : gz_go C mc ms M lv pc [] := by
  intro H locs ls hM hS hl
  rw [hX.2.1]
  exact W.vret hC.1 hC.2.1 hX.2.2.1 (fun t ht hW => ⟨rfl, by rw [ht]; exact hM, hS.F ht⟩) hS.2.2 hd hC.2.2.2.2.2
theorem gz_iretP (pc : Nat) (hC : gz_ok C cc own nL) {fr lo mc ms : Nat} {nm : String} {r y : Int32} (hX : gz_cx C fr lo mc ms (some .int) (some (.int y)) M nm) (hd : decode cc pc = .ok (.ireturn, 1)) (hF : some r = some y) : gz_go C mc ms M lv pc [.int r] := by
  cases hF; exact gz_iret0 pc hC hX hd
theorem gz_iretM (pc : Nat) (hC : gz_ok C cc own nL) {fr lo mc ms : Nat} {nm : String} {r : Int32} {y : Int32 × gz_M} (hX : gz_cx C fr lo mc ms (some .int) (some (.int y.1)) y.2 nm) (hd : decode cc pc = .ok (.ireturn, 1)) (hF : some (r, M) = some y) : gz_go C mc ms M lv pc [.int r] := by
  cases hF; exact gz_iret0 pc hC hX hd
theorem gz_zretP (pc : Nat) (hC : gz_ok C cc own nL) {fr lo mc ms : Nat} {nm : String} {r y : Int32} (hX : gz_cx C fr lo mc ms (some .boolean) (some (.int y)) M nm) (hd : decode cc pc = .ok (.ireturn, 1)) (hF : gz_z r (some r) = some y) : gz_go C mc ms M lv pc [.int r] := by
  obtain ⟨hz, hF⟩ := gz_z_some hF
  cases hF; exact gz_zret0 pc hC hz hX hd
theorem gz_zretM (pc : Nat) (hC : gz_ok C cc own nL) {fr lo mc ms : Nat} {nm : String} {r : Int32} {y : Int32 × gz_M} (hX : gz_cx C fr lo mc ms (some .boolean) (some (.int y.1)) y.2 nm) (hd : decode cc pc = .ok (.ireturn, 1)) (hF : gz_z r (some (r, M)) = some y) : gz_go C mc ms M lv pc [.int r] := by
  obtain ⟨hz, hF⟩ := gz_z_some hF
  cases hF; exact gz_zret0 pc hC hz hX hd
theorem gz_lretP (pc : Nat) (hC : gz_ok C cc own nL) {fr lo mc ms : Nat} {nm : String} {r y : Int64} (hX : gz_cx C fr lo mc ms (some .long) (some (.long y)) M nm) (hd : decode cc pc = .ok (.lreturn, 1)) (hF : some r = some y) : gz_go C mc ms M lv pc [.long r] := by
  cases hF; exact gz_lret0 pc hC hX hd
theorem gz_lretM (pc : Nat) (hC : gz_ok C cc own nL) {fr lo mc ms : Nat} {nm : String} {r : Int64} {y : Int64 × gz_M} (hX : gz_cx C fr lo mc ms (some .long) (some (.long y.1)) y.2 nm) (hd : decode cc pc = .ok (.lreturn, 1)) (hF : some (r, M) = some y) : gz_go C mc ms M lv pc [.long r] := by
  cases hF; exact gz_lret0 pc hC hX hd
theorem gz_vretM (pc : Nat) (hC : gz_ok C cc own nL) {fr lo mc ms : Nat} {nm : String} {y : gz_M} (hX : gz_cx C fr lo mc ms none none y nm) (hd : decode cc pc = .ok (.return_, 1)) (hF : some M = some y) : gz_go C mc ms M lv pc [] := by
  cases hF; exact gz_vret0 pc hC hX hd
/-! calls -/
theorem gz_back {pc mc ms : Nat} {a : Array Value} {v : Option Value} {M' : gz_M} {H : Heap} {locs : List Loc} {ls : Array Slot} {stk : List Value} (hr : va_Run C.1.1 C.1.2.1 C.1.2.2.1 C.1.2.2.2.1 C.1.2.2.2.2 C.2.1.1 C.2.1.2.1 C.2.1.2.2.1 C.2.1.2.2.2.1 C.2.1.2.2.2.2 H locs cs sl mc ms (F0 C.2.1.1 pc ls stk) st (gz_Q C.2.2.2 v M' a) (gz_A C.2.2.2)) (hS : va_S (gz_A C.2.2.2) C.1.2.2.2.2.heap H locs) (hl : lv_has ls C.2.1.2.2.2.2.maxLocals lv)
    (k : gz_go C (cs + mc) (sl + ms) M' lv (pc + 3) (v.toList ++ st)) : W C.1.1 C.1.2.1 C.1.2.2.1 C.1.2.2.2.1 C.1.2.2.2.2 C.2.1.1 C.2.1.2.1 C.2.1.2.2.1 C.2.1.2.2.2.1 C.2.1.2.2.2.2 H locs cs sl C.2.2.1 (F0 C.2.1.1 pc ls stk) := by
  intro T hT X
  obtain ⟨v', st₀, t, T', L, h0, X', hL, e1, e2, ⟨hv, hm, hz, hk⟩, stp⟩ := hr T hT X
  cases hv
  rw [h0] at hz hk
  obtain ⟨t2, a1, b1⟩ := k T'.heap (locs ++ L) ls (by rw [e1]; exact hm) ⟨Nat.le_trans hS.1 (by rw [e1]; exact hz), fun q h1 h2 => by rw [e1, hk q (Nat.lt_of_lt_of_le h1 hS.1) h2]; exact hS.2.1 q h1 h2, fun q hq => by
      rcases List.mem_append.mp hq with h | h
      · exact hS.2.2 q h
      · exact hL q h⟩ hl T' rfl X'
  exact ⟨t2, stp t2 a1, b1⟩
theorem gz_blind {G : gz_G} {av : List Value} {M : gz_M} : FrameBlind (va_Pc av (fun U => gz_E G U ∧ gz_H G M U.heap)) := fun a U g mk q => ⟨q.1, q.2.1.calling, q.2.2⟩
theorem gz_cb (hC : gz_ok C cc own nL) {fr lo mc0 ms0 : Nat} {ret0 : Option FieldType} {v0 : Option Value} {M0 : gz_M} {nm : String} (hX : gz_cx C fr lo mc0 ms0 ret0 v0 M0 nm) {ym : MethodName} {bytes : ByteArray} {maxL n fr' lo' mc ms idx : Nat} {ret : Option FieldType} (hy : gz_yl ym bytes maxL ret n) (hw : Cond.methodLink own idx ym ∈ lw_tbl) (hR : fr' + 1 ≤ fr ∧ 8 + (maxL + 11) + lo' ≤ lo) :
    CallB C.1.2.2.2.1 C.1.2.2.2.2 C.2.1.2.1 own idx ym bytes maxL ret [.code ym bytes maxL ret] { frames := fr', cells := mc, slots := ms, locals := lo' } mc ms n := by
  refine ⟨rfl, rfl, by rw [hX.1]; exact hR.1, by rw [hX.1]; exact hR.2, fun w hw1 a' U hW => ?_, List.mem_cons_self, gz_wd hC hy.1 rfl, gz_wd hC hy.2.1 rfl, hy.2.2.1, fun sig h => ?_, gz_wd hC hw rfl⟩
  · rw [List.mem_singleton.mp hw1]
    exact word_at hW (good_of_word rfl) (gz_wd hC hy.1 rfl)
  · have h2 := hy.2.2.2
    rw [h] at h2
    exact (Option.some.inj h2).symm
theorem gz_cv (pc : Nat) (hC : gz_ok C cc own nL) {fr lo mc0 ms0 : Nat} {ret0 : Option FieldType} {v0 : Option Value} {M0 : gz_M} {nm : String} (hX : gz_cx C fr lo mc0 ms0 ret0 v0 M0 nm) {ym : MethodName} {bytes : ByteArray} {maxL n fr' lo' mc ms idx ci a : Nat} {ret v} {M' : gz_M} {stk : List Value} (av : List Value) (hy : gz_yl ym bytes maxL ret n) (hyv : gz_yv ym ci) (hw : Cond.methodLink own idx ym ∈ lw_tbl) (hR : fr' + 1 ≤ fr ∧ 8 + (maxL + 11) + lo' ≤ lo) (hk : (M.2.1 a).1 = ci + 1)
    (hct : gz_ct C.1.2.1 ym bytes maxL ret fr' lo' mc ms C.2.2.2 (.ref a :: av) M v M') (hn : av.length = n) (hs : stk = av.reverse ++ .ref a :: st) (hst : (st.map fun v => v.category).sum ≤ 8) (hd : decode cc pc = .ok (.invokevirtual idx, 3)) (hf : cs + mc ≤ mc0 ∧ sl + ms ≤ ms0) (k : gz_go C (cs + mc) (sl + ms) M' lv (pc + 3) (v.toList ++ st)) : gz_go C cs sl M lv pc stk := by
  intro H locs ls hM hS hl
  subst hs
  obtain ⟨hi, hse, hc, q, hq, hqn⟩ := hyv
  obtain ⟨-, r, hr1, cell, q1, q2, q3, q4⟩ := gz_obj hM hk hc
  have hr : r = q := Option.some.inj (hr1.symm.trans hq)
  subst hr
  refine gz_back (va_runV (As := av) (rest := st) (g := F0 C.2.1.1 pc ls (av.reverse ++ .ref a :: st)) ⟨hC.1, hC.2.1, hC.2.2.1, hC.2.2.2.1, gz_uts hC hq⟩ hct ⟨gz_cb hC hX hy hw hR, gz_wd hC hi rfl, gz_wd hC hse rfl⟩ ⟨gz_blind, ⟨cell, q1, by rw [q3]; rfl, by rw [q2, ← hqn]; exact (hC.2.2.2.2.1.2.1 ci _ hq).2.1⟩, fun U hU hW => ⟨rfl, hC.2.2.2.2.1.warm hW (fun a h1 h2 => by rw [hU]; exact hS.2.1 a h1 h2), by rw [hU]; exact hM⟩⟩ rfl hn (hl.1.trans hC.2.2.1) rfl (lv_room hst) hd (by rw [hX.1]; exact hf)) hS hl k
theorem gz_cs (pc : Nat) (hC : gz_ok C cc own nL) {fr lo mc0 ms0 : Nat} {ret0 : Option FieldType} {v0 : Option Value} {M0 : gz_M} {nm : String} (hX : gz_cx C fr lo mc0 ms0 ret0 v0 M0 nm) {ym : MethodName} {bytes : ByteArray} {maxL n fr' lo' mc ms idx : Nat} {ret v} {M' : gz_M} {stk : List Value} (av : List Value) (hy : gz_yl ym bytes maxL ret n) (hst0 : Cond.static ym ∈ lw_tbl) (hw : Cond.methodLink own idx ym ∈ lw_tbl) (hR : fr' + 1 ≤ fr ∧ 8 + (maxL + 11) + lo' ≤ lo)
    (hct : gz_ct C.1.2.1 ym bytes maxL ret fr' lo' mc ms C.2.2.2 av M v M') (hn : av.length = n) (hs : stk = av.reverse ++ st) (hst : (st.map fun v => v.category).sum ≤ 8) (hd : decode cc pc = .ok (.invokestatic idx, 3)) (hf : cs + mc ≤ mc0 ∧ sl + ms ≤ ms0) (k : gz_go C (cs + mc) (sl + ms) M' lv (pc + 3) (v.toList ++ st)) : gz_go C cs sl M lv pc stk := by
  intro H locs ls hM hS hl
  subst hs
  refine gz_back (va_runS (As := av) (rest := st) (g := F0 C.2.1.1 pc ls (av.reverse ++ st)) (Ts := []) ⟨hC.1, hC.2.1, hC.2.2.1, hC.2.2.2.1, fun w h => by cases h⟩ hct ⟨gz_cb hC hX hy hw hR, gz_wd hC hst0 rfl⟩ ⟨gz_blind, fun U hU hW => ⟨rfl, hC.2.2.2.2.1.warm hW (fun a h1 h2 => by rw [hU]; exact hS.2.1 a h1 h2), by rw [hU]; exact hM⟩⟩ rfl hn (hl.1.trans hC.2.2.1) rfl (lv_room hst) hd (by rw [hX.1]; exact hf)) hS hl k
end CL
