def gz_mn (M : gz_M) (t N K : Nat) : gz_M := (M.1 + 1 + N, fun b => if b = M.1 then (20 + t, N) else if M.1 < b ∧ b < M.1 + 1 + N then (20 + (t - 4), K) else M.2.1 b, fun b => if M.1 ≤ b ∧ b < M.1 + 1 + N then (fun _ => 0) else M.2.2.1 b, fun b => if M.1 ≤ b ∧ b < M.1 + 1 + N then (fun _ => 0) else M.2.2.2.1 b, fun b => if b = M.1 then (fun j => if j < N then some (M.1 + 1 + j) else none) else if M.1 < b ∧ b < M.1 + 1 + N then (fun _ => none) else M.2.2.2.2 b)
theorem gz_outer (c : ClassId) (N h0 : Nat) : ∀ i : Nat, Jvm.Free.Multi.outerC c N h0 i = arrV c N (fun j => va_rf (if j < i then some (h0 + 1 + j) else none))
  | 0 => by
    show ({ cls := c, slots := Array.replicate N .null, vm := .none } : Cell) = _
    rw [arrV_new]
    refine congrArg (arrV c N) (funext fun j => ?_)
    simp [va_rf]
  | i + 1 => by
    show (Jvm.Free.Multi.outerC c N h0 i).setSlot i (.ref (h0 + 1 + i)) = _
    rw [gz_outer c N h0 i, arrV_store]
    refine congrArg (arrV c N) (funext fun j => ?_)
    by_cases e : j = i
    · subst e
      simp [updV, va_rf]
    · by_cases h : j < i
      · simp [updV, e, h, Nat.lt_succ_of_lt h]
      · simp [updV, e, h, show ¬ j < i + 1 by omega]
section MU
variable {C : gz_C} {cc : ByteArray} {own : String} {nL cs sl : Nat} {M : gz_M} {lv : List (Nat × Value)} {st : List Value} {α : Type} {y : α}
variable {fr lo mc0 ms0 : Nat} {ret0 : Option FieldType} {v0 : Option Value} {M0 : gz_M} {nm : String}
theorem gz_mnew (pc : Nat) (hC : gz_ok C cc own nL) (hX : gz_cx C fr lo mc0 ms0 ret0 v0 M0 nm) (cs' sl' t : Nat) (ty : FieldType) {idx : Nat} {cn : String} {n k : Int32} (N K : Nat) {f : gz_M → Option α} (hw : Cond.classLink own idx cn ∈ lw_tbl) (hcn : cn = "[" ++ (FieldType.array ty).toString) (ho : Cond.arrayOver (.array ty) ∈ lw_tbl) (ha : Cond.arrayClass ty ∈ lw_tbl) (ht : (t = 4 ∧ ty = .int) ∨ (t = 5 ∧ ty = .long)) (hN : n.toNatClampNeg = N) (hK : k.toNatClampNeg = K) (hcs : cs + 1 + N = cs') (hsl : sl + N + N * K = sl') (hn : ¬ n < 0) (hk : ¬ k < 0) (hb : N ≤ 1000 ∧ K ≤ 1000) (hR : cs' ≤ mc0 ∧ sl' ≤ ms0) (hd : decode cc pc = .ok (.multianewarray idx 2, 4)) (hF : gz_jn (gz_mn M t N K) f = some y)
    (kk : ∀ M', M' = gz_mn M t N K → f M' = some y → gz_go C cs' sl' M' lv (pc + 4) (.ref M.1 :: st)) : gz_go C cs sl M lv pc (.int k :: .int n :: st) := by
  subst hN; subst hK; subst hcs; subst hsl; subst hcn
  intro H locs ls hM hS hl T hT X
  have hcb : componentBytes ty ≤ 8 := by rcases ht with ⟨-, rfl⟩ | ⟨-, rfl⟩ <;> decide
  have hmul : k.toNatClampNeg * componentBytes ty ≤ 1000 * 8 := Nat.mul_le_mul hb.2 hcb
  obtain ⟨vm₁, cA, comp, -, fA, fC, -, -, X', step⟩ := X.multianewarray2F hC.1 hC.2.2.2.1 (gz_wd hC hw rfl) (hC.2.2.2.2.1.1.1 _ ho (Or.inr rfl) _) (gz_wd hC ha rfl) (g := F0 C.2.1.1 pc ls (.int k :: .int n :: st)) rfl (by rw [hC.2.1]; exact hd) rfl hn hk (by have := hb.1; omega) (by omega) (by have := hb.2; omega) (by rcases ht with ⟨-, rfl⟩ | ⟨-, rfl⟩ <;> rfl) (by rcases ht with ⟨-, rfl⟩ | ⟨-, rfl⟩ <;> rfl) (by rw [hX.1]; have := hR.1; show _ ≤ mc0; omega) (by rw [hX.1]; have := hR.2; show _ ≤ ms0; omega)
  have hcA : cA = C.2.2.2.2.1 t := by
    rcases ht with ⟨rfl, rfl⟩ | ⟨rfl, rfl⟩
    · exact Option.some.inj (fA.symm.trans (hC.2.2.2.2.1.2.2 4 _ rfl).2)
    · exact Option.some.inj (fA.symm.trans (hC.2.2.2.2.1.2.2 5 _ rfl).2)
  have hcI : comp = C.2.2.2.2.1 (t - 4) := by
    rcases ht with ⟨rfl, rfl⟩ | ⟨rfl, rfl⟩
    · exact Option.some.inj (fC.symm.trans (hC.2.2.2.2.1.2.2 0 _ rfl).2)
    · exact Option.some.inj (fC.symm.trans (hC.2.2.2.2.1.2.2 1 _ rfl).2)
  generalize hF0 : Jvm.Free.Multi.fill (T.setVm vm₁) cA comp n.toNatClampNeg k.toNatClampNeg (defaultValue ty) n.toNatClampNeg = F at X' step
  have hTh : (T.setVm vm₁).heap = H := hT
  obtain ⟨f1, f2, -, -⟩ := Jvm.Free.Multi.fill_facts (T.setVm vm₁) cA comp n.toNatClampNeg k.toNatClampNeg (defaultValue ty) n.toNatClampNeg
  rw [hF0, hTh] at f1 f2
  have hold : ∀ x : Nat, x < H.size → F.heap[x]? = H[x]? := fun x hx => by
    have := Jvm.Free.Multi.fill_old (T.setVm vm₁) cA comp n.toNatClampNeg k.toNatClampNeg (defaultValue ty) (a := x) (by rw [hTh]; exact hx) n.toNatClampNeg
    rw [hF0, hTh] at this
    exact this
  have hrow : ∀ j : Nat, j < n.toNatClampNeg → F.heap[H.size + 1 + j]? = some (Jvm.Free.Multi.innerC comp k.toNatClampNeg (defaultValue ty)) := fun j hj => by
    have := Jvm.Free.Multi.fill_inner (T.setVm vm₁) cA comp n.toNatClampNeg k.toNatClampNeg (defaultValue ty) n.toNatClampNeg j hj
    rw [hF0, hTh] at this
    exact this
  rw [gz_outer] at f2
  have ht4 : 4 ≤ t ∧ t ≤ 5 := by rcases ht with ⟨rfl, -⟩ | ⟨rfl, -⟩ <;> omega
  have hHM : gz_H C.2.2.2 (gz_mn M t n.toNatClampNeg k.toNatClampNeg) F.heap := by
    refine ⟨by rw [f1, hM.1]; rfl, by show _ ≤ M.1 + 1 + n.toNatClampNeg; have := hM.2.1; omega, fun b hb => ?_, fun q hq => by rw [hold q (by have := hM.1; have := hM.2.1; omega)]; exact hM.2.2.2 q hq⟩
    by_cases e : b = M.1
    · subst e
      refine ⟨hM.2.1, ?_⟩
      have hk : ((gz_mn M t n.toNatClampNeg k.toNatClampNeg).2.1 M.1) = (20 + t, n.toNatClampNeg) := if_pos rfl
      unfold gz_ce
      rw [hk, if_pos (Nat.le_add_right 20 t)]
      show F.heap[M.1]? = some (vp_cell _ (_, gz_row _ _ (20 + t - 20)))
      rw [Nat.add_sub_cancel_left, ← hM.1, f2, hcA]
      unfold gz_row
      rw [if_neg (by omega), if_neg (by omega), vp_cell_q]
      have h9 : (gz_mn M t n.toNatClampNeg k.toNatClampNeg).2.2.2.2 H.size = fun j => if j < n.toNatClampNeg then some (M.1 + 1 + j) else none := by rw [hM.1]; exact if_pos rfl
      rw [h9, hM.1]
    · by_cases e2 : M.1 < b ∧ b < M.1 + 1 + n.toNatClampNeg
      · refine ⟨by have := hM.2.1; omega, ?_⟩
        have hk : ((gz_mn M t n.toNatClampNeg k.toNatClampNeg).2.1 b) = (20 + (t - 4), k.toNatClampNeg) := by
          show (if b = M.1 then _ else if M.1 < b ∧ b < M.1 + 1 + n.toNatClampNeg then _ else _) = _
          rw [if_neg e, if_pos e2]
        unfold gz_ce
        rw [hk, if_pos (Nat.le_add_right 20 (t - 4))]
        show F.heap[b]? = some (vp_cell _ (_, gz_row _ _ (20 + (t - 4) - 20)))
        rw [Nat.add_sub_cancel_left]
        have hb2 : b = H.size + 1 + (b - M.1 - 1) := by rw [hM.1]; omega
        rw [hb2, hrow _ (by omega), ← hb2, ← hcI]
        have hI : (gz_mn M t n.toNatClampNeg k.toNatClampNeg).2.2.1 b = fun _ => 0 := if_pos ⟨by omega, e2.2⟩
        have hL : (gz_mn M t n.toNatClampNeg k.toNatClampNeg).2.2.2.1 b = fun _ => 0 := if_pos ⟨by omega, e2.2⟩
        unfold gz_row
        rcases ht with ⟨rfl, rfl⟩ | ⟨rfl, rfl⟩
        · rw [if_pos rfl, hI, vp_cell_i, show (fun j => Value.int ((fun _ => (0 : Int32)) j)) = (fun _ => defaultValue .int) from rfl, ← arrV_new]; rfl
        · rw [if_neg (by decide), if_pos rfl, hL, vp_cell_l, show (fun j => Value.long ((fun _ => (0 : Int64)) j)) = (fun _ => defaultValue .long) from rfl, ← arrV_new]; rfl
      · have k0 : (gz_mn M t n.toNatClampNeg k.toNatClampNeg).2.1 b = M.2.1 b := by
          show (if b = M.1 then _ else if M.1 < b ∧ b < M.1 + 1 + n.toNatClampNeg then _ else _) = _
          rw [if_neg e, if_neg e2]
        have e3 : ¬ (M.1 ≤ b ∧ b < M.1 + 1 + n.toNatClampNeg) := by omega
        have k3 : (gz_mn M t n.toNatClampNeg k.toNatClampNeg).2.2.2.2 b = M.2.2.2.2 b := by
          show (if b = M.1 then _ else if M.1 < b ∧ b < M.1 + 1 + n.toNatClampNeg then _ else _) = _
          rw [if_neg e, if_neg e2]
        rw [k0] at hb
        refine ⟨(hM.2.2.1 b hb).1, ?_⟩
        rw [gz_ce_ne (M := M) k0 (if_neg e3) (if_neg e3) k3]
        exact (hM.2.2.1 b hb).2.kept (hold b (hM.2.2.1 b hb).2.lt)
  obtain ⟨t9, a1, b1⟩ := kk _ rfl hF F.heap locs ls hHM (gz_S.push hS (by rw [f1]; omega) hold) hl F rfl X'
  refine ⟨t9, step t9 ?_, b1⟩
  have e : T.heap.size = M.1 := by rw [hT]; exact hM.1
  rw [e]
  exact a1
end MU
theorem gz_hzI (M : gz_M) (c : ClassId) (N : Nat) : vp_cell c (N, gz_row (gz_na M 0 N) M.1 0) = arrV c N (fun _ => defaultValue (newarray.typeOf .int)) := by
  unfold gz_row
  rw [if_pos rfl, vp_cell_i]
  simp only [gz_na, gz_u1_eq]
  rfl
theorem gz_hzL (M : gz_M) (c : ClassId) (N : Nat) : vp_cell c (N, gz_row (gz_na M 1 N) M.1 1) = arrV c N (fun _ => defaultValue (newarray.typeOf .long)) := by
  unfold gz_row
  rw [if_neg (by decide), if_pos rfl, vp_cell_l]
  simp only [gz_na, gz_u1_eq]
  rfl
