def gz_mn (M : gz_M) (t N K : Nat) : gz_M := (M.1 + 1 + N, fun b => if b = M.1 then (20 + t, N) else if M.1 < b ∧ b < M.1 + 1 + N then (20 + (t - 4), K) else M.2.1 b, fun b => if M.1 ≤ b ∧ b < M.1 + 1 + N then (fun _ => 0) else M.2.2.1 b, fun b => if M.1 ≤ b ∧ b < M.1 + 1 + N then (fun _ => 0) else M.2.2.2.1 b, fun b => if b = M.1 then (fun j => if j < N then some (M.1 + 1 + j) else none) else if M.1 < b ∧ b < M.1 + 1 + N then (fun _ => none) else M.2.2.2.2 b)
/-- an array class over arrays that has been made: it, and its components' class -/
theorem gz_ovr {args : Array Value} {s : State} {t : FieldType} (h : (Cond.arrayOver (.array t)).before args s = true) : ∃ (comp cA : ClassId) (kA : Class), s.vm.findClass (FieldType.array t).toString = some comp ∧ s.vm.findClass ("[" ++ (FieldType.array t).toString) = some cA ∧ s.vm.classes[cA]? = some kA ∧ kA.kind = .array comp (.array t) := by
  have h0 : (Cond.arrayOver (.array t)).value args s none s [] = some true := by simpa [Cond.before, Cond.holds] using h
  unfold Cond.value at h0
  obtain ⟨comp, hc, h1⟩ := Option.bind_eq_some_iff.mp h0
  obtain ⟨cA, hi, h2⟩ := Option.bind_eq_some_iff.mp h1
  obtain ⟨kA, hk, h3⟩ := Option.map_eq_some_iff.mp h2
  obtain ⟨hlt, hp, -⟩ := Array.findIdx?_eq_some_iff_getElem.mp hi
  have hkA : s.vm.classes[cA] = kA := (Array.getElem?_eq_some_iff.mp hk).2
  rw [hkA] at hp
  refine ⟨comp, cA, kA, hc, ?_⟩
  cases hd : kA.kind with
  | array a b =>
    rw [hd] at h3 hp
    have h4 : a = comp := by simpa using hp
    have h5 : b = .array t ∧ s.vm.findClass ("[" ++ (FieldType.array t).toString) = some cA := by simpa using h3
    exact ⟨h5.2, hk, by rw [h4, h5.1]⟩
  | _ => rw [hd] at h3; simp at h3
/-- the outer array when i of its rows are there; the state then -/
def gz_oc (cA : ClassId) (N h i : Nat) : Cell := arrV cA N (fun j => va_rf (if j < i then some (h + 1 + j) else none))
def gz_sg (S : State) (cA : ClassId) (N : Nat) (ic : Cell) : Nat → State
  | 0 => S.pushCell (gz_oc cA N S.heap.size 0)
  | i + 1 => ((gz_sg S cA N ic i).pushCell ic).setCell S.heap.size (gz_oc cA N S.heap.size (i + 1))
theorem gz_oc0 (cA : ClassId) (N h : Nat) : ({ cls := cA, slots := Array.replicate N .null, vm := .none } : Cell) = gz_oc cA N h 0 := arrV_new cA N .null
theorem gz_ocS (cA : ClassId) (N h i : Nat) : (gz_oc cA N h i).setSlot i (.ref (h + 1 + i)) = gz_oc cA N h (i + 1) := by
  unfold gz_oc
  rw [arrV_store]
  congr 1
  funext j
  unfold updV
  rcases Nat.lt_trichotomy j i with h | h | h
  · rw [if_neg (by omega)]
    show va_rf (if j < i then _ else _) = _
    rw [if_pos h, if_pos (by omega)]
  · rw [if_pos h, if_pos (by omega), h]; rfl
  · rw [if_neg (by omega)]
    show va_rf (if j < i then _ else _) = _
    rw [if_neg (by omega), if_neg (by omega)]
theorem gz_sgt (S : State) (f : JFrame) (cA : ClassId) (N : Nat) (ic : Cell) (i : Nat) : gz_sg (S.setTop f) cA N ic i = (gz_sg S cA N ic i).setTop f := by
  induction i with
  | zero => rfl
  | succ i ih =>
    show ((gz_sg (S.setTop f) cA N ic i).pushCell ic).setCell S.heap.size _ = _
    rw [ih]
    rfl
theorem gz_sgf (S : State) (cA : ClassId) (N : Nat) (ic : Cell) (i : Nat) : (gz_sg S cA N ic i).vm = S.vm ∧ (gz_sg S cA N ic i).slotsUsed = S.slotsUsed + N + i * ic.slots.size ∧ (gz_sg S cA N ic i).heap.size = S.heap.size + 1 + i ∧ (gz_sg S cA N ic i).heap[S.heap.size]? = some (gz_oc cA N S.heap.size i) ∧ (∀ x : Nat, x < S.heap.size → (gz_sg S cA N ic i).heap[x]? = S.heap[x]?) ∧ ∀ j : Nat, j < i → (gz_sg S cA N ic i).heap[S.heap.size + 1 + j]? = some ic := by
  induction i with
  | zero =>
    refine ⟨rfl, ?_, ?_, ?_, fun x hx => ?_, fun j hj => absurd hj (Nat.not_lt_zero j)⟩
    · show S.slotsUsed + (gz_oc cA N S.heap.size 0).slots.size = _
      rw [gz_oc, arrV_size]; omega
    · show (S.heap.push _).size = _
      rw [Array.size_push]
    · show (S.heap.push _)[S.heap.size]? = _
      exact Array.getElem?_push_size
    · show (S.heap.push _)[x]? = _
      rw [Array.getElem?_push, if_neg (by omega)]
  | succ i ih =>
    obtain ⟨h1, h2, h3, h4, h5, h6⟩ := ih
    have hh : (gz_sg S cA N ic (i + 1)).heap = ((gz_sg S cA N ic i).heap.push ic).setIfInBounds S.heap.size (gz_oc cA N S.heap.size (i + 1)) := rfl
    refine ⟨h1, ?_, ?_, ?_, fun x hx => ?_, fun j hj => ?_⟩
    · show (gz_sg S cA N ic i).slotsUsed + ic.slots.size = _
      rw [h2, Nat.succ_mul]; omega
    · rw [hh, Array.size_setIfInBounds, Array.size_push, h3]; omega
    · rw [hh, Array.getElem?_setIfInBounds, if_pos rfl, if_pos (by rw [Array.size_push, h3]; omega)]
    · rw [hh, Array.getElem?_setIfInBounds, if_neg (by omega), Array.getElem?_push, if_neg (by omega)]
      exact h5 x hx
    · rw [hh, Array.getElem?_setIfInBounds, if_neg (by omega), Array.getElem?_push]
      by_cases e : j = i
      · rw [if_pos (by omega)]
      · rw [if_neg (by omega)]
        exact h6 j (by omega)
section MK
variable {E : CtlPost} {e : Env} {d : Bool} {acts : List Action} {S : State}
theorem gz_mk1 {comp c1 : ClassId} {kc : Class} {ty : FieldType} {k : Int32} {Q : Addr → Pre} (hk : ¬ k < 0) (hc : S.vm.classes[comp]? = some kc) (hd : kc.kind = .array c1 ty) (hl : ¬ k.toNatClampNeg > e.platform.arrayLengthLimit) (hh : ¬ k.toNatClampNeg * componentBytes ty > e.platform.maxHeapBytes) (hm : S.heap.size < e.platform.maxCells) (hs : S.slotsUsed + k.toNatClampNeg ≤ e.platform.maxSlots) (hf : fits ty (defaultValue ty) = true) (hq : ∀ acts', Q S.heap.size d acts' (S.pushCell { cls := comp, slots := Array.replicate k.toNatClampNeg (defaultValue ty), vm := .none })) : wp (multianewarray.make comp [k]) Q E e d acts S := by
  simp only [multianewarray.make, wp_bind', W.ite, hk, if_false, wp_pure', W.theClass, hc, Option.some.injEq, exists_eq_left', hd]
  exact W.newArray_of hc hd hl hh hm hs hf hq
theorem gz_mk2 {cA comp c1 : ClassId} {kA kc : Class} {ty : FieldType} {n k : Int32} {Q : Addr → Pre} (hn : ¬ n < 0) (hk : ¬ k < 0) (hA : S.vm.classes[cA]? = some kA) (hdA : kA.kind = .array comp (.array ty)) (hc : S.vm.classes[comp]? = some kc) (hd : kc.kind = .array c1 ty) (hl1 : ¬ n.toNatClampNeg > e.platform.arrayLengthLimit) (hh1 : ¬ n.toNatClampNeg * componentBytes (.array ty) > e.platform.maxHeapBytes) (hl : ¬ k.toNatClampNeg > e.platform.arrayLengthLimit) (hh : ¬ k.toNatClampNeg * componentBytes ty > e.platform.maxHeapBytes) (hm : S.heap.size + (1 + n.toNatClampNeg) ≤ e.platform.maxCells) (hs : S.slotsUsed + (n.toNatClampNeg + n.toNatClampNeg * k.toNatClampNeg) ≤ e.platform.maxSlots) (hf : fits ty (defaultValue ty) = true) (hq : ∀ d' acts', Q S.heap.size d' acts' (gz_sg S cA n.toNatClampNeg { cls := comp, slots := Array.replicate k.toNatClampNeg (defaultValue ty), vm := .none } n.toNatClampNeg)) : wp (multianewarray.make cA [n, k]) Q E e d acts S := by
  have hnone : [k].find? (fun x => decide (x < 0)) = none := by simp [hk]
  rw [multianewarray.make]
  simp only [wp_bind', W.ite, hn, if_false, wp_pure', W.theClass, hA, Option.some.injEq, exists_eq_left', hdA, hnone]
  refine W.newArray_of hA hdA hl1 hh1 (by omega) (by omega) rfl (fun acts1 => ?_)
  rw [Std.Legacy.Range.forIn_eq_forIn_range', ite_self, wp_bind', gz_oc0 cA n.toNatClampNeg S.heap.size, show List.range' [:n.toNatClampNeg].start [:n.toNatClampNeg].size [:n.toNatClampNeg].step = List.range' 0 n.toNatClampNeg from by simp [Std.Legacy.Range.size]]
  generalize hic : ({ cls := comp, slots := Array.replicate k.toNatClampNeg (defaultValue ty), vm := .none } : Cell) = ic at hq
  have hisz : ic.slots.size = k.toNatClampNeg := by rw [← hic]; exact Array.size_replicate
  generalize n.toNatClampNeg = N at hl1 hh1 hm hs hq ⊢
  refine wp_forIn_inv (fun rest s' => ∃ i, i ≤ N ∧ rest = List.range' i (N - i) ∧ s' = gz_sg S cA N ic i) _ _ ⟨0, Nat.zero_le N, rfl, rfl⟩ ?_ ?_
  · rintro x rest s' d' acts' Q' ⟨i, hi, hr, rfl⟩ hgo
    obtain ⟨m, hm1⟩ : ∃ m, N - i = m + 1 := by
      cases h : N - i with
      | zero => rw [h] at hr; simp at hr
      | succ m => exact ⟨m, rfl⟩
    rw [hm1, List.range'_succ] at hr
    obtain ⟨hx, hrest⟩ := List.cons.inj hr
    subst hx
    obtain ⟨f1, f2, f3, f4, -, -⟩ := gz_sgf S cA N ic x
    have hle : (x + 1) * ic.slots.size ≤ N * k.toNatClampNeg := by rw [hisz]; exact Nat.mul_le_mul_right _ (by omega)
    rw [Nat.succ_mul, hisz] at hle
    rw [hisz] at f2
    simp only [wp_bind']
    refine gz_mk1 hk (by rw [f1]; exact hc) hd hl hh (by rw [f3]; omega) (by rw [f2]; omega) hf (fun acts2 => ?_)
    rw [hic, wp_bind']
    refine (W.writeLoc (s := (gz_sg S cA N ic x).pushCell ic) S.heap.size x (.ref (gz_sg S cA N ic x).heap.size) .plain).mpr ?_
    refine ⟨gz_oc cA N S.heap.size x, ?_, (fun h => by cases h), (by rw [gz_oc, arrV_size]; omega), ?_, ?_⟩
    · show ((gz_sg S cA N ic x).heap.push ic)[S.heap.size]? = _
      rw [Array.getElem?_push, if_neg (by omega)]
      exact f4
    · show (gz_sg S cA N ic x).fitsSlot cA .none x _ = true
      simp [State.fitsSlot, State.slotType?, f1, hA, hdA]
      rfl
    · rw [wp_pure', f3, gz_ocS]
      exact hgo _ _ _ ⟨x + 1, by omega, by rw [hrest, show m = N - (x + 1) from by omega], rfl⟩
  · rintro s' d' acts' ⟨i, hi, hr, rfl⟩
    have hN : i = N := by
      have := congrArg List.length hr
      simp at this
      omega
    subst hN
    simp only [wp_pure']
    exact hq _ _
end MK
section MS
variable {p : Program} {l : Launch} {e : Env} {R : Room} {s : State} {m : MethodId} {args : Array Value} {below : List Frame} {meth : Method} {c : Code} {T S : State} {locs : List Loc} {cells slots : Nat}
theorem gz_sgX (X : Stand p l e R s m args below meth c S locs cells slots) (cA : ClassId) (N : Nat) (ic : Cell) (i : Nat) : Stand p l e R s m args below meth c (gz_sg S cA N ic i) locs (cells + 1 + i) (slots + N + i * ic.slots.size) := by
  induction i with
  | zero =>
    have h := X.pushed (gz_oc cA N S.heap.size 0)
    rw [show (gz_oc cA N S.heap.size 0).slots.size = N from by rw [gz_oc, arrV_size]] at h
    rw [Nat.zero_mul]
    exact h
  | succ i ih =>
    obtain ⟨-, -, f3, f4, -, -⟩ := gz_sgf S cA N ic i
    have h1 : ((gz_sg S cA N ic i).pushCell ic).heap[S.heap.size]? = some (gz_oc cA N S.heap.size i) := by
      show ((gz_sg S cA N ic i).heap.push ic)[S.heap.size]? = _
      rw [Array.getElem?_push, if_neg (by omega)]
      exact f4
    have h2 := ((ih.pushed ic).stored h1 i (.ref (S.heap.size + 1 + i))).dropFresh (fun x hx => by
      rw [List.mem_singleton.mp hx]
      exact X.heapGrown)
    rw [gz_ocS] at h2
    rw [Nat.succ_mul, ← Nat.add_assoc (slots + N)]
    exact h2
theorem gz_mstep (X : Stand p l e R s m args below meth c T locs cells slots) (hx : p.tables.exec = Jvm.exec) {own : String} {idx : Nat} {ty : FieldType} (hown : s.vm.findClass own = some m.cls) (hw : (Cond.classLink own idx ("[" ++ (FieldType.array ty).toString)).before args s = true) (ho : (Cond.arrayOver (.array ty)).before args s = true) (ha : (Cond.arrayClass ty).before args s = true) {pc : Nat} {ls : Array Slot} {st : List Value} {n k : Int32} (hd : decode c.code pc = .ok (.multianewarray idx 2, 4)) (hn : ¬ n < 0) (hk : ¬ k < 0) (hb1 : n.toNatClampNeg * 4 ≤ 536870912) (hb2 : k.toNatClampNeg * componentBytes ty ≤ 536870912) (hb3 : k.toNatClampNeg ≤ 536870912) (hf : fits ty (defaultValue ty) = true) (hR : cells + (1 + n.toNatClampNeg) ≤ R.cells ∧ slots + (n.toNatClampNeg + n.toNatClampNeg * k.toNatClampNeg) ≤ R.slots) :
    ∃ (vm1 : Vm) (cA comp : ClassId), s.vm.findClass ("[" ++ (FieldType.array ty).toString) = some cA ∧ s.vm.findClass (FieldType.array ty).toString = some comp ∧ s.WarmedH vm1 ∧
      ∀ Z, Steps p.tables e below ((gz_sg (T.setVm vm1) cA n.toNatClampNeg { cls := comp, slots := Array.replicate k.toNatClampNeg (defaultValue ty), vm := .none } n.toNatClampNeg).setTop (F0 m (pc + 4) ls (.ref T.heap.size :: st))) Z → Steps p.tables e below (T.setTop (F0 m pc ls (.int k :: .int n :: st))) Z := by
  obtain ⟨comp, cA, kA, hcomp, hcA, hkA, hdA⟩ := gz_ovr ho
  obtain ⟨c1, hc1, hlk⟩ := Cond.classLink_spec hown hw e.platform (by rw [X.admits.platform])
  obtain ⟨c2, kc, c3, hc2, hkc, hdc⟩ := Cond.arrayClass_spec ha
  cases hcA.symm.trans hc1
  cases hcomp.symm.trans hc2
  obtain ⟨hg, hW, hr⟩ := State.classEntry (e := e) X.warmed hlk
  refine ⟨T.vm.noted m.cls idx (.cls cA), cA, comp, hcA, hcomp, hW, fun Z hZ => ?_⟩
  obtain ⟨kA', hkA', heA⟩ := hW.alike.2.2 _ _ hkA
  obtain ⟨kc', hkc', hec⟩ := hW.alike.2.2 _ _ hkc
  obtain ⟨r1, r2⟩ := X.roomAbove hR.1 hR.2
  refine Steps.instr (c := c) (by simpa using X.here) ?_
  have htop : (T.setVm (T.vm.noted m.cls idx (.cls cA))).topJava?.isSome := X.here.top
  rw [show (F0 m pc ls (.int k :: .int n :: st)).pc = pc from rfl, hd]
  show wp (p.tables.exec (.multianewarray idx 2)) _ _ e false [] (T.setTop (F0 m pc ls (.int k :: .int n :: st)))
  rw [hx]
  show wp (multianewarray.sem idx 2) _ _ e false [] (T.setTop (F0 m pc ls (.int k :: .int n :: st)))
  unfold multianewarray.sem
  rw [wp_bind', W.resolveClassAt_transfer (s := T.setTop (F0 m pc ls (.int k :: .int n :: st))) (m := m) (State.method?_setTop _ X.here.top) hg hr, State.setVm_setTop, W.resolveClassAt_ready (m := m) (State.method?_setTop _ htop) hr]
  rw [wp_bind']
  refine (popN_top (args := [.int n, .int k]) (rest := st) htop rfl).mpr ?_
  simp only [List.mapM_cons, List.mapM_nil, pure_bind, wp_bind', wp_pure']
  refine gz_mk2 hn hk hkA' (by rw [heA]; exact hdA) hkc' (by rw [hec]; exact hdc) (by rw [Launch.admits_arrayLengthLimit X.admits]; omega) (by rw [Launch.admits_maxHeapBytes X.admits]; show ¬ n.toNatClampNeg * 4 > 536870912; omega) (by rw [Launch.admits_arrayLengthLimit X.admits]; omega) (by rw [Launch.admits_maxHeapBytes X.admits]; omega) r1 r2 hf (fun d1 acts1 => ?_)
  have X1 := gz_sgX (X.noted hW) cA n.toNatClampNeg { cls := comp, slots := Array.replicate k.toNatClampNeg (defaultValue ty), vm := .none } n.toNatClampNeg
  rw [gz_sgt, wp_bind', W.mark, W.pushRef]
  refine ⟨_, State.topJava?_setTop' _ X1.here.top, fun acts2 => ?_⟩
  rw [State.setTop_setTop, afterInstr_ok]
  exact hZ
end MS
section MU
variable {C : gz_C} {cc : ByteArray} {own : String} {nL cs sl : Nat} {M : gz_M} {lv : List (Nat × Value)} {st : List Value} {α : Type} {y : α}
variable {fr lo mc0 ms0 : Nat} {ret0 : Option FieldType} {v0 : Option Value} {M0 : gz_M} {nm : String}
theorem gz_mnew (pc : Nat) (hC : gz_ok C cc own nL) (hX : gz_cx C fr lo mc0 ms0 ret0 v0 M0 nm) (cs' sl' t : Nat) (ty : FieldType) {idx : Nat} {cn : String} {n k : Int32} (N K : Nat) {f : gz_M → Option α} (hw : Cond.classLink own idx cn ∈ lw_tbl) (hcn : cn = "[" ++ (FieldType.array ty).toString) (ho : Cond.arrayOver (.array ty) ∈ lw_tbl) (ha : Cond.arrayClass ty ∈ lw_tbl) (ht : (t = 4 ∧ ty = .int) ∨ (t = 5 ∧ ty = .long)) (hN : n.toNatClampNeg = N) (hK : k.toNatClampNeg = K) (hcs : cs + 1 + N = cs') (hsl : sl + N + N * K = sl') (hn : ¬ n < 0) (hk : ¬ k < 0) (hb : N ≤ 1000 ∧ K ≤ 1000) (hR : cs' ≤ mc0 ∧ sl' ≤ ms0) (hd : decode cc pc = .ok (.multianewarray idx 2, 4)) (hF : gz_jn (gz_mn M t N K) f = some y)
    (kk : ∀ M', M' = gz_mn M t N K → f M' = some y → gz_go C cs' sl' M' lv (pc + 4) (.ref M.1 :: st)) : gz_go C cs sl M lv pc (.int k :: .int n :: st) := by
  subst hN; subst hK; subst hcs; subst hsl; subst hcn
  intro H locs ls hM hS hl T hT X
  have hcb : componentBytes ty ≤ 8 := by rcases ht with ⟨-, rfl⟩ | ⟨-, rfl⟩ <;> decide
  have hmul : k.toNatClampNeg * componentBytes ty ≤ 1000 * 8 := Nat.mul_le_mul hb.2 hcb
  obtain ⟨vm1, cA, comp, fA, fC, hW, step⟩ := gz_mstep X hC.1 hC.2.2.2.1 (gz_wd hC hw rfl) (hC.2.2.2.2.1.1.1 _ ho (Or.inr rfl) _) (gz_wd hC ha rfl) (pc := pc) (ls := ls) (st := st) (by rw [hC.2.1]; exact hd) hn hk (by have := hb.1; omega) (by omega) (by have := hb.2; omega) (by rcases ht with ⟨-, rfl⟩ | ⟨-, rfl⟩ <;> rfl) ⟨by rw [hX.1]; have := hR.1; show _ ≤ mc0; omega, by rw [hX.1]; have := hR.2; show _ ≤ ms0; omega⟩
  have hcA : cA = C.2.2.2.2.1 t := by
    rcases ht with ⟨rfl, rfl⟩ | ⟨rfl, rfl⟩
    · exact Option.some.inj (fA.symm.trans (hC.2.2.2.2.1.2.2 4 _ rfl).2)
    · exact Option.some.inj (fA.symm.trans (hC.2.2.2.2.1.2.2 5 _ rfl).2)
  have hcI : comp = C.2.2.2.2.1 (t - 4) := by
    rcases ht with ⟨rfl, rfl⟩ | ⟨rfl, rfl⟩
    · exact Option.some.inj (fC.symm.trans (hC.2.2.2.2.1.2.2 0 _ rfl).2)
    · exact Option.some.inj (fC.symm.trans (hC.2.2.2.2.1.2.2 1 _ rfl).2)
  have X' := gz_sgX (X.noted hW) cA n.toNatClampNeg { cls := comp, slots := Array.replicate k.toNatClampNeg (defaultValue ty), vm := .none } n.toNatClampNeg
  obtain ⟨-, -, f1, f2, hold, hrow⟩ := gz_sgf (T.setVm vm1) cA n.toNatClampNeg { cls := comp, slots := Array.replicate k.toNatClampNeg (defaultValue ty), vm := .none } n.toNatClampNeg
  generalize gz_sg (T.setVm vm1) cA n.toNatClampNeg { cls := comp, slots := Array.replicate k.toNatClampNeg (defaultValue ty), vm := .none } n.toNatClampNeg = F at X' step f1 f2 hold hrow
  have hTh : (T.setVm vm1).heap = H := hT
  rw [hTh] at f1 f2 hold hrow
  rw [show (Array.replicate k.toNatClampNeg (defaultValue ty)).size = k.toNatClampNeg from Array.size_replicate] at X'
  have ht4 : 4 ≤ t ∧ t ≤ 5 := by rcases ht with ⟨rfl, -⟩ | ⟨rfl, -⟩ <;> omega
  have hHM : gz_H C.2.2.2 (gz_mn M t n.toNatClampNeg k.toNatClampNeg) F.heap := by
    refine ⟨by rw [f1, hM.1]; rfl, by show _ ≤ M.1 + 1 + n.toNatClampNeg; have := hM.2.1; omega, fun b hb => ?_, fun q hq => by rw [hold q (by have := hM.1; have := hM.2.1; omega)]; exact hM.2.2.2 q hq⟩
    by_cases e : b = M.1
    · subst e
      refine ⟨hM.2.1, ?_⟩
      have hk : ((gz_mn M t n.toNatClampNeg k.toNatClampNeg).2.1 M.1) = (20 + t, n.toNatClampNeg) := if_pos rfl
      unfold gz_ce
      rw [hk, if_pos (Nat.le_add_right 20 t)]
      show F.heap[M.1]? = some (vp_cell _ (_, gz_row _ _ (20 + t - 20)))
      rw [Nat.add_sub_cancel_left, ← hM.1, f2, hcA]
      unfold gz_row
      rw [if_neg (by omega), if_neg (by omega), vp_cell_q]
      have h9 : (gz_mn M t n.toNatClampNeg k.toNatClampNeg).2.2.2.2 H.size = fun j => if j < n.toNatClampNeg then some (M.1 + 1 + j) else none := by rw [hM.1]; exact if_pos rfl
      rw [h9, hM.1]
      rfl
    · by_cases e2 : M.1 < b ∧ b < M.1 + 1 + n.toNatClampNeg
      · refine ⟨by have := hM.2.1; omega, ?_⟩
        have hk : ((gz_mn M t n.toNatClampNeg k.toNatClampNeg).2.1 b) = (20 + (t - 4), k.toNatClampNeg) := by
          show (if b = M.1 then _ else if M.1 < b ∧ b < M.1 + 1 + n.toNatClampNeg then _ else _) = _
          rw [if_neg e, if_pos e2]
        unfold gz_ce
        rw [hk, if_pos (Nat.le_add_right 20 (t - 4))]
        show F.heap[b]? = some (vp_cell _ (_, gz_row _ _ (20 + (t - 4) - 20)))
        rw [Nat.add_sub_cancel_left]
        have hb2 : b = H.size + 1 + (b - M.1 - 1) := by rw [hM.1]; omega
        rw [hb2, hrow _ (by omega), ← hb2, ← hcI]
        have hI : (gz_mn M t n.toNatClampNeg k.toNatClampNeg).2.2.1 b = fun _ => 0 := if_pos ⟨by omega, e2.2⟩
        have hL : (gz_mn M t n.toNatClampNeg k.toNatClampNeg).2.2.2.1 b = fun _ => 0 := if_pos ⟨by omega, e2.2⟩
        unfold gz_row
        rcases ht with ⟨rfl, rfl⟩ | ⟨rfl, rfl⟩
        · rw [if_pos rfl, hI, vp_cell_i, show (fun j => Value.int ((fun _ => (0 : Int32)) j)) = (fun _ => defaultValue .int) from rfl, ← arrV_new]
        · rw [if_neg (by decide), if_pos rfl, hL, vp_cell_l, show (fun j => Value.long ((fun _ => (0 : Int64)) j)) = (fun _ => defaultValue .long) from rfl, ← arrV_new]
      · have k0 : (gz_mn M t n.toNatClampNeg k.toNatClampNeg).2.1 b = M.2.1 b := by
          show (if b = M.1 then _ else if M.1 < b ∧ b < M.1 + 1 + n.toNatClampNeg then _ else _) = _
          rw [if_neg e, if_neg e2]
        have e3 : ¬ (M.1 ≤ b ∧ b < M.1 + 1 + n.toNatClampNeg) := by omega
        have k3 : (gz_mn M t n.toNatClampNeg k.toNatClampNeg).2.2.2.2 b = M.2.2.2.2 b := by
          show (if b = M.1 then _ else if M.1 < b ∧ b < M.1 + 1 + n.toNatClampNeg then _ else _) = _
          rw [if_neg e, if_neg e2]
        rw [k0] at hb
        refine ⟨(hM.2.2.1 b hb).1, ?_⟩
        rw [gz_ce_ne (M := M) k0 (if_neg e3) (if_neg e3) k3]
        exact (hM.2.2.1 b hb).2.kept (hold b (hM.2.2.1 b hb).2.lt)
  obtain ⟨t9, a1, b1⟩ := kk _ rfl hF F.heap locs ls hHM (gz_S.push hS (by rw [f1]; omega) hold) hl F rfl X'
  refine ⟨t9, step t9 ?_, b1⟩
  have e : T.heap.size = M.1 := by rw [hT]; exact hM.1
  rw [e]
  exact a1
end MU
theorem gz_hzI (M : gz_M) (c : ClassId) (N : Nat) : vp_cell c (N, gz_row (gz_na M 0 N) M.1 0) = arrV c N (fun _ => defaultValue (newarray.typeOf .int)) := by
  unfold gz_row
  rw [if_pos rfl, vp_cell_i]
  simp only [gz_na, gz_u1_eq]
  rfl
theorem gz_hzL (M : gz_M) (c : ClassId) (N : Nat) : vp_cell c (N, gz_row (gz_na M 1 N) M.1 1) = arrV c N (fun _ => defaultValue (newarray.typeOf .long)) := by
  unfold gz_row
  rw [if_neg (by decide), if_pos rfl, vp_cell_l]
  simp only [gz_na, gz_u1_eq]
  rfl
