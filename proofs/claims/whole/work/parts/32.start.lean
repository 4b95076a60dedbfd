def R_law : String := "NineLastsLaw"
def lw_P (b : Addr) (xs : List Int32) (args : Array Value) (s : State) : Prop := args = #[.ref b] ∧ s.IntsAt b xs ∧ xs.length ≤ 384 ∧ (Jvm.Cond.and given_1 narrow_1).before args s = true
def lw_Q (_ : Array Value) (s : State) (o : Outcome) (t : State) : Prop := o = .returned (some (.int 1)) ∧ Framed s o t [] 600000 7302250
def lw_Z (below : List Frame) (a : Array Value) (s : State) : State → Prop := fun t => ∃ o, t.status = .running ∧ Ended t below o ∧ lw_Q a s o t
/-- the law's own end, with 1 on the stack, nothing written that was there before, its room as the claim has it -/
theorem lw_ret {p : Program} {l : Launch} {e : Env} {s : State} {m : MethodId} {below : List Frame} {meth : Method} {c : Code} {b : Nat} (hx : p.tables.exec = Jvm.exec) (hb : c.code = code) (hr : meth.sig.returnType = ret) (hlocks : meth.locks = false) {pc : Nat} {H : Heap} {ls : Array Slot} (hdg : decode code pc = .ok (.ireturn, 1)) : W p l e room_1 s m #[Value.ref b] below meth c H [] 600000 7302250 (lw_Z below #[Value.ref b] s) (F0 m pc ls [.int 1]) := by
  intro T hT X
  obtain ⟨fs, hret, hrun, hended, hW, hframe⟩ := X.leave (v := some (.int 1)) (hlocks := hlocks) (fun h => by rw [hr] at h; cases h)
  have hmeth' : T.vm.method? m = some meth := X.method'
  refine ⟨T.setFrames fs, ?_, .returned (some (.int 1)), hrun, hended, rfl, ⟨_, rfl⟩, hW, hframe⟩
  jvm_step X.here [X.here.top, hx, hb, hdg, hmeth', hr, ret, narrow_b1]
  (try refine ⟨rfl, ?_⟩); (try refine ⟨rfl, ?_⟩)
  first | (intro acts; rw [hret _ acts rfl rfl rfl]) | rw [hret _ _ rfl rfl rfl]
  exact Steps.refl _
/-- what holds at the law's entry: the machine, the code, the tables' words (any of lw_tbl by 'hts w (by decide +kernel)'), the script of L ints xs at the cell b, what the Statement gives of the start (any of its parts by flat_of_before) -/
def lw_At (p : Program) (s : State) (m : MethodId) (meth : Method) (c : Code) (b L : Nat) (xs : Nat → Int32) : Prop :=
  p.tables.exec = Jvm.exec ∧ c.code = code ∧ meth.sig.returnType = ret ∧ c.maxLocals = 4 ∧ s.vm.findClass R_law = some m.cls ∧ (∀ w ∈ lw_tbl, w.before #[Value.ref b] s = true) ∧ va_X b L xs s s.heap ∧ b < s.heap.size ∧ meth.locks = false ∧ (Jvm.Cond.and given_1 narrow_1).before #[Value.ref b] s = true
theorem gz_in0 : Cond.instantiable RX0 12 ∈ lw_tbl := List.mem_of_getElem? (i := 304) (by decide +kernel)
theorem gz_in1 : Cond.instantiable RX1 7 ∈ lw_tbl := List.mem_of_getElem? (i := 146) (by decide +kernel)
theorem gz_in2 : Cond.instantiable RX2 5 ∈ lw_tbl := List.mem_of_getElem? (i := 114) (by decide +kernel)
theorem gz_in3 : Cond.instantiable RX3 5 ∈ lw_tbl := List.mem_of_getElem? (i := 247) (by decide +kernel)
theorem gz_in4 : Cond.instantiable RX4 5 ∈ lw_tbl := List.mem_of_getElem? (i := 351) (by decide +kernel)
theorem gz_in5 : Cond.instantiable RX5 7 ∈ lw_tbl := List.mem_of_getElem? (i := 271) (by decide +kernel)
theorem gz_in6 : Cond.instantiable RX6 2 ∈ lw_tbl := List.mem_of_getElem? (i := 98) (by decide +kernel)
theorem gz_in7 : Cond.instantiable RX7 8 ∈ lw_tbl := List.mem_of_getElem? (i := 152) (by decide +kernel)
theorem gz_in8 : Cond.instantiable RX8 3 ∈ lw_tbl := List.mem_of_getElem? (i := 138) (by decide +kernel)
theorem gz_in9 : Cond.instantiable RX9 10 ∈ lw_tbl := List.mem_of_getElem? (i := 90) (by decide +kernel)
theorem gz_in10 : Cond.instantiable RX10 30 ∈ lw_tbl := List.mem_of_getElem? (i := 1067) (by decide +kernel)
theorem gz_wcI : Cond.arrayClass .int ∈ lw_tbl := List.mem_of_getElem? (i := 112) (by decide +kernel)
theorem gz_wcL : Cond.arrayClass .long ∈ lw_tbl := List.mem_of_getElem? (i := 375) (by decide +kernel)
theorem gz_woS : Cond.arrayOver (.object RX4) ∈ lw_tbl := List.mem_of_getElem? (i := 136) (by decide +kernel)
theorem gz_woV : Cond.arrayOver (.object RX7) ∈ lw_tbl := List.mem_of_getElem? (i := 144) (by decide +kernel)
theorem gz_woI : Cond.arrayOver (.array .int) ∈ lw_tbl := List.mem_of_getElem? (i := 277) (by decide +kernel)
theorem gz_woL : Cond.arrayOver (.array .long) ∈ lw_tbl := List.mem_of_getElem? (i := 1073) (by decide +kernel)
theorem gz_wst : ∀ q ∈ gz_sw, Cond.stringRef q.1 q.2.1 q.2.2 ∈ lw_tbl := by decide +kernel
theorem gz_wz : Cond.laysStatic "java/lang/String" "COMPACT_STRINGS" "Z" ∈ lw_tbl ∧ Cond.initialized "java/lang/String" ∈ lw_tbl ∧ Cond.laysStatic "jdk/internal/util/Preconditions" "SIOOBE_FORMATTER" "Ljava/util/function/BiFunction;" ∈ lw_tbl ∧ Cond.initialized "jdk/internal/util/Preconditions" ∈ lw_tbl := by decide +kernel
def gz_FL : List Cond := flatC (Jvm.Cond.and given_1 narrow_1)
def gz_tm (k i : Nat) : Term := .string (gz_sw.getD (k + i) ("", 0, "")).1 (gz_sw.getD (k + i) ("", 0, "")).2.1
def gz_vf (k i : Nat) : Term := .field (gz_tm k i) "java/lang/String" "value" "[B"
def gz_sp (k i : Nat) : Prop := Cond.exactly (gz_tm k i) "java/lang/String" ∈ gz_FL ∧ Cond.eq (.field (gz_tm k i) "java/lang/String" "coder" "B") (.int 0) ∈ gz_FL ∧ Cond.arrayOf (gz_vf k i) .byte ∈ gz_FL ∧ Cond.eq (.length (gz_vf k i)) (.int (Int32.ofNat (gz_le (k + i)))) ∈ gz_FL ∧ ∀ j, j < gz_le (k + i) → Cond.eq (.elem (gz_vf k i) (.int (Int32.ofNat j))) (.int (gz_by (k + i) j)) ∈ gz_FL
def gz_sq (k i j : Nat) : Prop := Cond.not (Cond.eq (gz_tm k i) (gz_tm k j)) ∈ gz_FL ∨ Cond.not (Cond.eq (gz_tm k j) (gz_tm k i)) ∈ gz_FL
theorem gz_se0_0_0 : Cond.eq (.elem (gz_vf 0 0) (.int (Int32.ofNat 0))) (.int (gz_by 0 0)) ∈ gz_FL := List.mem_of_getElem? (i := 35) (by decide +kernel)
theorem gz_se0_0_1 : Cond.eq (.elem (gz_vf 0 0) (.int (Int32.ofNat 1))) (.int (gz_by 0 1)) ∈ gz_FL := List.mem_of_getElem? (i := 36) (by decide +kernel)
theorem gz_se0_0_2 : Cond.eq (.elem (gz_vf 0 0) (.int (Int32.ofNat 2))) (.int (gz_by 0 2)) ∈ gz_FL := List.mem_of_getElem? (i := 37) (by decide +kernel)
theorem gz_se0_0_3 : Cond.eq (.elem (gz_vf 0 0) (.int (Int32.ofNat 3))) (.int (gz_by 0 3)) ∈ gz_FL := List.mem_of_getElem? (i := 38) (by decide +kernel)
theorem gz_sp0_0 : gz_sp 0 0 := ⟨List.mem_of_getElem? (i := 31) (by decide +kernel), List.mem_of_getElem? (i := 32) (by decide +kernel), List.mem_of_getElem? (i := 33) (by decide +kernel), List.mem_of_getElem? (i := 34) (by decide +kernel), fun j hj => by
  have hj : j < 4 := hj
  match j, hj with
  | 0, _ => exact gz_se0_0_0
  | 1, _ => exact gz_se0_0_1
  | 2, _ => exact gz_se0_0_2
  | 3, _ => exact gz_se0_0_3⟩
theorem gz_se0_1_0 : Cond.eq (.elem (gz_vf 0 1) (.int (Int32.ofNat 0))) (.int (gz_by 1 0)) ∈ gz_FL := List.mem_of_getElem? (i := 43) (by decide +kernel)
theorem gz_se0_1_1 : Cond.eq (.elem (gz_vf 0 1) (.int (Int32.ofNat 1))) (.int (gz_by 1 1)) ∈ gz_FL := List.mem_of_getElem? (i := 44) (by decide +kernel)
theorem gz_se0_1_2 : Cond.eq (.elem (gz_vf 0 1) (.int (Int32.ofNat 2))) (.int (gz_by 1 2)) ∈ gz_FL := List.mem_of_getElem? (i := 45) (by decide +kernel)
theorem gz_se0_1_3 : Cond.eq (.elem (gz_vf 0 1) (.int (Int32.ofNat 3))) (.int (gz_by 1 3)) ∈ gz_FL := List.mem_of_getElem? (i := 46) (by decide +kernel)
theorem gz_se0_1_4 : Cond.eq (.elem (gz_vf 0 1) (.int (Int32.ofNat 4))) (.int (gz_by 1 4)) ∈ gz_FL := List.mem_of_getElem? (i := 47) (by decide +kernel)
theorem gz_sp0_1 : gz_sp 0 1 := ⟨List.mem_of_getElem? (i := 39) (by decide +kernel), List.mem_of_getElem? (i := 40) (by decide +kernel), List.mem_of_getElem? (i := 41) (by decide +kernel), List.mem_of_getElem? (i := 42) (by decide +kernel), fun j hj => by
  have hj : j < 5 := hj
  match j, hj with
  | 0, _ => exact gz_se0_1_0
  | 1, _ => exact gz_se0_1_1
  | 2, _ => exact gz_se0_1_2
  | 3, _ => exact gz_se0_1_3
  | 4, _ => exact gz_se0_1_4⟩
theorem gz_se0_2_0 : Cond.eq (.elem (gz_vf 0 2) (.int (Int32.ofNat 0))) (.int (gz_by 2 0)) ∈ gz_FL := List.mem_of_getElem? (i := 53) (by decide +kernel)
theorem gz_se0_2_1 : Cond.eq (.elem (gz_vf 0 2) (.int (Int32.ofNat 1))) (.int (gz_by 2 1)) ∈ gz_FL := List.mem_of_getElem? (i := 54) (by decide +kernel)
theorem gz_se0_2_2 : Cond.eq (.elem (gz_vf 0 2) (.int (Int32.ofNat 2))) (.int (gz_by 2 2)) ∈ gz_FL := List.mem_of_getElem? (i := 55) (by decide +kernel)
theorem gz_se0_2_3 : Cond.eq (.elem (gz_vf 0 2) (.int (Int32.ofNat 3))) (.int (gz_by 2 3)) ∈ gz_FL := List.mem_of_getElem? (i := 56) (by decide +kernel)
theorem gz_sp0_2 : gz_sp 0 2 := ⟨List.mem_of_getElem? (i := 49) (by decide +kernel), List.mem_of_getElem? (i := 50) (by decide +kernel), List.mem_of_getElem? (i := 51) (by decide +kernel), List.mem_of_getElem? (i := 52) (by decide +kernel), fun j hj => by
  have hj : j < 4 := hj
  match j, hj with
  | 0, _ => exact gz_se0_2_0
  | 1, _ => exact gz_se0_2_1
  | 2, _ => exact gz_se0_2_2
  | 3, _ => exact gz_se0_2_3⟩
theorem gz_se0_3_0 : Cond.eq (.elem (gz_vf 0 3) (.int (Int32.ofNat 0))) (.int (gz_by 3 0)) ∈ gz_FL := List.mem_of_getElem? (i := 63) (by decide +kernel)
theorem gz_se0_3_1 : Cond.eq (.elem (gz_vf 0 3) (.int (Int32.ofNat 1))) (.int (gz_by 3 1)) ∈ gz_FL := List.mem_of_getElem? (i := 64) (by decide +kernel)
theorem gz_se0_3_2 : Cond.eq (.elem (gz_vf 0 3) (.int (Int32.ofNat 2))) (.int (gz_by 3 2)) ∈ gz_FL := List.mem_of_getElem? (i := 65) (by decide +kernel)
theorem gz_se0_3_3 : Cond.eq (.elem (gz_vf 0 3) (.int (Int32.ofNat 3))) (.int (gz_by 3 3)) ∈ gz_FL := List.mem_of_getElem? (i := 66) (by decide +kernel)
theorem gz_sp0_3 : gz_sp 0 3 := ⟨List.mem_of_getElem? (i := 59) (by decide +kernel), List.mem_of_getElem? (i := 60) (by decide +kernel), List.mem_of_getElem? (i := 61) (by decide +kernel), List.mem_of_getElem? (i := 62) (by decide +kernel), fun j hj => by
  have hj : j < 4 := hj
  match j, hj with
  | 0, _ => exact gz_se0_3_0
  | 1, _ => exact gz_se0_3_1
  | 2, _ => exact gz_se0_3_2
  | 3, _ => exact gz_se0_3_3⟩
theorem gz_se0_4_0 : Cond.eq (.elem (gz_vf 0 4) (.int (Int32.ofNat 0))) (.int (gz_by 4 0)) ∈ gz_FL := List.mem_of_getElem? (i := 74) (by decide +kernel)
theorem gz_se0_4_1 : Cond.eq (.elem (gz_vf 0 4) (.int (Int32.ofNat 1))) (.int (gz_by 4 1)) ∈ gz_FL := List.mem_of_getElem? (i := 75) (by decide +kernel)
theorem gz_se0_4_2 : Cond.eq (.elem (gz_vf 0 4) (.int (Int32.ofNat 2))) (.int (gz_by 4 2)) ∈ gz_FL := List.mem_of_getElem? (i := 76) (by decide +kernel)
theorem gz_se0_4_3 : Cond.eq (.elem (gz_vf 0 4) (.int (Int32.ofNat 3))) (.int (gz_by 4 3)) ∈ gz_FL := List.mem_of_getElem? (i := 77) (by decide +kernel)
theorem gz_se0_4_4 : Cond.eq (.elem (gz_vf 0 4) (.int (Int32.ofNat 4))) (.int (gz_by 4 4)) ∈ gz_FL := List.mem_of_getElem? (i := 78) (by decide +kernel)
theorem gz_sp0_4 : gz_sp 0 4 := ⟨List.mem_of_getElem? (i := 70) (by decide +kernel), List.mem_of_getElem? (i := 71) (by decide +kernel), List.mem_of_getElem? (i := 72) (by decide +kernel), List.mem_of_getElem? (i := 73) (by decide +kernel), fun j hj => by
  have hj : j < 5 := hj
  match j, hj with
  | 0, _ => exact gz_se0_4_0
  | 1, _ => exact gz_se0_4_1
  | 2, _ => exact gz_se0_4_2
  | 3, _ => exact gz_se0_4_3
  | 4, _ => exact gz_se0_4_4⟩
theorem gz_se0_5_0 : Cond.eq (.elem (gz_vf 0 5) (.int (Int32.ofNat 0))) (.int (gz_by 5 0)) ∈ gz_FL := List.mem_of_getElem? (i := 87) (by decide +kernel)
theorem gz_se0_5_1 : Cond.eq (.elem (gz_vf 0 5) (.int (Int32.ofNat 1))) (.int (gz_by 5 1)) ∈ gz_FL := List.mem_of_getElem? (i := 88) (by decide +kernel)
theorem gz_se0_5_2 : Cond.eq (.elem (gz_vf 0 5) (.int (Int32.ofNat 2))) (.int (gz_by 5 2)) ∈ gz_FL := List.mem_of_getElem? (i := 89) (by decide +kernel)
theorem gz_se0_5_3 : Cond.eq (.elem (gz_vf 0 5) (.int (Int32.ofNat 3))) (.int (gz_by 5 3)) ∈ gz_FL := List.mem_of_getElem? (i := 90) (by decide +kernel)
theorem gz_se0_5_4 : Cond.eq (.elem (gz_vf 0 5) (.int (Int32.ofNat 4))) (.int (gz_by 5 4)) ∈ gz_FL := List.mem_of_getElem? (i := 91) (by decide +kernel)
theorem gz_sp0_5 : gz_sp 0 5 := ⟨List.mem_of_getElem? (i := 83) (by decide +kernel), List.mem_of_getElem? (i := 84) (by decide +kernel), List.mem_of_getElem? (i := 85) (by decide +kernel), List.mem_of_getElem? (i := 86) (by decide +kernel), fun j hj => by
  have hj : j < 5 := hj
  match j, hj with
  | 0, _ => exact gz_se0_5_0
  | 1, _ => exact gz_se0_5_1
  | 2, _ => exact gz_se0_5_2
  | 3, _ => exact gz_se0_5_3
  | 4, _ => exact gz_se0_5_4⟩
theorem gz_se0_6_0 : Cond.eq (.elem (gz_vf 0 6) (.int (Int32.ofNat 0))) (.int (gz_by 6 0)) ∈ gz_FL := List.mem_of_getElem? (i := 101) (by decide +kernel)
theorem gz_se0_6_1 : Cond.eq (.elem (gz_vf 0 6) (.int (Int32.ofNat 1))) (.int (gz_by 6 1)) ∈ gz_FL := List.mem_of_getElem? (i := 102) (by decide +kernel)
theorem gz_se0_6_2 : Cond.eq (.elem (gz_vf 0 6) (.int (Int32.ofNat 2))) (.int (gz_by 6 2)) ∈ gz_FL := List.mem_of_getElem? (i := 103) (by decide +kernel)
theorem gz_se0_6_3 : Cond.eq (.elem (gz_vf 0 6) (.int (Int32.ofNat 3))) (.int (gz_by 6 3)) ∈ gz_FL := List.mem_of_getElem? (i := 104) (by decide +kernel)
theorem gz_sp0_6 : gz_sp 0 6 := ⟨List.mem_of_getElem? (i := 97) (by decide +kernel), List.mem_of_getElem? (i := 98) (by decide +kernel), List.mem_of_getElem? (i := 99) (by decide +kernel), List.mem_of_getElem? (i := 100) (by decide +kernel), fun j hj => by
  have hj : j < 4 := hj
  match j, hj with
  | 0, _ => exact gz_se0_6_0
  | 1, _ => exact gz_se0_6_1
  | 2, _ => exact gz_se0_6_2
  | 3, _ => exact gz_se0_6_3⟩
theorem gz_se0_7_0 : Cond.eq (.elem (gz_vf 0 7) (.int (Int32.ofNat 0))) (.int (gz_by 7 0)) ∈ gz_FL := List.mem_of_getElem? (i := 115) (by decide +kernel)
theorem gz_se0_7_1 : Cond.eq (.elem (gz_vf 0 7) (.int (Int32.ofNat 1))) (.int (gz_by 7 1)) ∈ gz_FL := List.mem_of_getElem? (i := 116) (by decide +kernel)
theorem gz_se0_7_2 : Cond.eq (.elem (gz_vf 0 7) (.int (Int32.ofNat 2))) (.int (gz_by 7 2)) ∈ gz_FL := List.mem_of_getElem? (i := 117) (by decide +kernel)
theorem gz_sp0_7 : gz_sp 0 7 := ⟨List.mem_of_getElem? (i := 111) (by decide +kernel), List.mem_of_getElem? (i := 112) (by decide +kernel), List.mem_of_getElem? (i := 113) (by decide +kernel), List.mem_of_getElem? (i := 114) (by decide +kernel), fun j hj => by
  have hj : j < 3 := hj
  match j, hj with
  | 0, _ => exact gz_se0_7_0
  | 1, _ => exact gz_se0_7_1
  | 2, _ => exact gz_se0_7_2⟩
theorem gz_se0_8_0 : Cond.eq (.elem (gz_vf 0 8) (.int (Int32.ofNat 0))) (.int (gz_by 8 0)) ∈ gz_FL := List.mem_of_getElem? (i := 129) (by decide +kernel)
theorem gz_se0_8_1 : Cond.eq (.elem (gz_vf 0 8) (.int (Int32.ofNat 1))) (.int (gz_by 8 1)) ∈ gz_FL := List.mem_of_getElem? (i := 130) (by decide +kernel)
theorem gz_se0_8_2 : Cond.eq (.elem (gz_vf 0 8) (.int (Int32.ofNat 2))) (.int (gz_by 8 2)) ∈ gz_FL := List.mem_of_getElem? (i := 131) (by decide +kernel)
theorem gz_se0_8_3 : Cond.eq (.elem (gz_vf 0 8) (.int (Int32.ofNat 3))) (.int (gz_by 8 3)) ∈ gz_FL := List.mem_of_getElem? (i := 132) (by decide +kernel)
theorem gz_sp0_8 : gz_sp 0 8 := ⟨List.mem_of_getElem? (i := 125) (by decide +kernel), List.mem_of_getElem? (i := 126) (by decide +kernel), List.mem_of_getElem? (i := 127) (by decide +kernel), List.mem_of_getElem? (i := 128) (by decide +kernel), fun j hj => by
  have hj : j < 4 := hj
  match j, hj with
  | 0, _ => exact gz_se0_8_0
  | 1, _ => exact gz_se0_8_1
  | 2, _ => exact gz_se0_8_2
  | 3, _ => exact gz_se0_8_3⟩
theorem gz_sp0 : ∀ i, i < 9 → gz_sp 0 i := fun i hi => match i, hi with
  | 0, _ => gz_sp0_0
  | 1, _ => gz_sp0_1
  | 2, _ => gz_sp0_2
  | 3, _ => gz_sp0_3
  | 4, _ => gz_sp0_4
  | 5, _ => gz_sp0_5
  | 6, _ => gz_sp0_6
  | 7, _ => gz_sp0_7
  | 8, _ => gz_sp0_8
theorem gz_sq0_0_1 : Cond.not (Cond.eq (gz_tm 0 0) (gz_tm 0 1)) ∈ gz_FL := List.mem_of_getElem? (i := 48) (by decide +kernel)
theorem gz_sq0_0_2 : Cond.not (Cond.eq (gz_tm 0 0) (gz_tm 0 2)) ∈ gz_FL := List.mem_of_getElem? (i := 57) (by decide +kernel)
theorem gz_sq0_0_3 : Cond.not (Cond.eq (gz_tm 0 0) (gz_tm 0 3)) ∈ gz_FL := List.mem_of_getElem? (i := 67) (by decide +kernel)
theorem gz_sq0_0_4 : Cond.not (Cond.eq (gz_tm 0 0) (gz_tm 0 4)) ∈ gz_FL := List.mem_of_getElem? (i := 79) (by decide +kernel)
theorem gz_sq0_0_5 : Cond.not (Cond.eq (gz_tm 0 0) (gz_tm 0 5)) ∈ gz_FL := List.mem_of_getElem? (i := 92) (by decide +kernel)
theorem gz_sq0_0_6 : Cond.not (Cond.eq (gz_tm 0 0) (gz_tm 0 6)) ∈ gz_FL := List.mem_of_getElem? (i := 105) (by decide +kernel)
theorem gz_sq0_0_7 : Cond.not (Cond.eq (gz_tm 0 0) (gz_tm 0 7)) ∈ gz_FL := List.mem_of_getElem? (i := 118) (by decide +kernel)
theorem gz_sq0_0_8 : Cond.not (Cond.eq (gz_tm 0 0) (gz_tm 0 8)) ∈ gz_FL := List.mem_of_getElem? (i := 133) (by decide +kernel)
theorem gz_sq0_1_2 : Cond.not (Cond.eq (gz_tm 0 1) (gz_tm 0 2)) ∈ gz_FL := List.mem_of_getElem? (i := 58) (by decide +kernel)
theorem gz_sq0_1_3 : Cond.not (Cond.eq (gz_tm 0 1) (gz_tm 0 3)) ∈ gz_FL := List.mem_of_getElem? (i := 68) (by decide +kernel)
theorem gz_sq0_1_4 : Cond.not (Cond.eq (gz_tm 0 1) (gz_tm 0 4)) ∈ gz_FL := List.mem_of_getElem? (i := 80) (by decide +kernel)
theorem gz_sq0_1_5 : Cond.not (Cond.eq (gz_tm 0 1) (gz_tm 0 5)) ∈ gz_FL := List.mem_of_getElem? (i := 93) (by decide +kernel)
theorem gz_sq0_1_6 : Cond.not (Cond.eq (gz_tm 0 1) (gz_tm 0 6)) ∈ gz_FL := List.mem_of_getElem? (i := 106) (by decide +kernel)
theorem gz_sq0_1_7 : Cond.not (Cond.eq (gz_tm 0 1) (gz_tm 0 7)) ∈ gz_FL := List.mem_of_getElem? (i := 119) (by decide +kernel)
theorem gz_sq0_1_8 : Cond.not (Cond.eq (gz_tm 0 1) (gz_tm 0 8)) ∈ gz_FL := List.mem_of_getElem? (i := 134) (by decide +kernel)
theorem gz_sq0_2_3 : Cond.not (Cond.eq (gz_tm 0 2) (gz_tm 0 3)) ∈ gz_FL := List.mem_of_getElem? (i := 69) (by decide +kernel)
theorem gz_sq0_2_4 : Cond.not (Cond.eq (gz_tm 0 2) (gz_tm 0 4)) ∈ gz_FL := List.mem_of_getElem? (i := 81) (by decide +kernel)
theorem gz_sq0_2_5 : Cond.not (Cond.eq (gz_tm 0 2) (gz_tm 0 5)) ∈ gz_FL := List.mem_of_getElem? (i := 94) (by decide +kernel)
theorem gz_sq0_2_6 : Cond.not (Cond.eq (gz_tm 0 2) (gz_tm 0 6)) ∈ gz_FL := List.mem_of_getElem? (i := 107) (by decide +kernel)
theorem gz_sq0_2_7 : Cond.not (Cond.eq (gz_tm 0 2) (gz_tm 0 7)) ∈ gz_FL := List.mem_of_getElem? (i := 120) (by decide +kernel)
theorem gz_sq0_2_8 : Cond.not (Cond.eq (gz_tm 0 2) (gz_tm 0 8)) ∈ gz_FL := List.mem_of_getElem? (i := 135) (by decide +kernel)
theorem gz_sq0_3_4 : Cond.not (Cond.eq (gz_tm 0 3) (gz_tm 0 4)) ∈ gz_FL := List.mem_of_getElem? (i := 82) (by decide +kernel)
theorem gz_sq0_3_5 : Cond.not (Cond.eq (gz_tm 0 3) (gz_tm 0 5)) ∈ gz_FL := List.mem_of_getElem? (i := 95) (by decide +kernel)
theorem gz_sq0_3_6 : Cond.not (Cond.eq (gz_tm 0 3) (gz_tm 0 6)) ∈ gz_FL := List.mem_of_getElem? (i := 108) (by decide +kernel)
theorem gz_sq0_3_7 : Cond.not (Cond.eq (gz_tm 0 3) (gz_tm 0 7)) ∈ gz_FL := List.mem_of_getElem? (i := 121) (by decide +kernel)
theorem gz_sq0_3_8 : Cond.not (Cond.eq (gz_tm 0 3) (gz_tm 0 8)) ∈ gz_FL := List.mem_of_getElem? (i := 136) (by decide +kernel)
theorem gz_sq0_4_5 : Cond.not (Cond.eq (gz_tm 0 4) (gz_tm 0 5)) ∈ gz_FL := List.mem_of_getElem? (i := 96) (by decide +kernel)
theorem gz_sq0_4_6 : Cond.not (Cond.eq (gz_tm 0 4) (gz_tm 0 6)) ∈ gz_FL := List.mem_of_getElem? (i := 109) (by decide +kernel)
theorem gz_sq0_4_7 : Cond.not (Cond.eq (gz_tm 0 4) (gz_tm 0 7)) ∈ gz_FL := List.mem_of_getElem? (i := 122) (by decide +kernel)
theorem gz_sq0_4_8 : Cond.not (Cond.eq (gz_tm 0 4) (gz_tm 0 8)) ∈ gz_FL := List.mem_of_getElem? (i := 137) (by decide +kernel)
theorem gz_sq0_5_6 : Cond.not (Cond.eq (gz_tm 0 5) (gz_tm 0 6)) ∈ gz_FL := List.mem_of_getElem? (i := 110) (by decide +kernel)
theorem gz_sq0_5_7 : Cond.not (Cond.eq (gz_tm 0 5) (gz_tm 0 7)) ∈ gz_FL := List.mem_of_getElem? (i := 123) (by decide +kernel)
theorem gz_sq0_5_8 : Cond.not (Cond.eq (gz_tm 0 5) (gz_tm 0 8)) ∈ gz_FL := List.mem_of_getElem? (i := 138) (by decide +kernel)
theorem gz_sq0_6_7 : Cond.not (Cond.eq (gz_tm 0 6) (gz_tm 0 7)) ∈ gz_FL := List.mem_of_getElem? (i := 124) (by decide +kernel)
theorem gz_sq0_6_8 : Cond.not (Cond.eq (gz_tm 0 6) (gz_tm 0 8)) ∈ gz_FL := List.mem_of_getElem? (i := 139) (by decide +kernel)
theorem gz_sq0_7_8 : Cond.not (Cond.eq (gz_tm 0 7) (gz_tm 0 8)) ∈ gz_FL := List.mem_of_getElem? (i := 140) (by decide +kernel)
theorem gz_sq0 : ∀ i, i < 9 → ∀ j, j < 9 → i ≠ j → gz_sq 0 i j := fun i hi j hj h => match i, hi, j, hj, h with
  | 0, _, 1, _, _ => Or.inl gz_sq0_0_1
  | 0, _, 2, _, _ => Or.inl gz_sq0_0_2
  | 0, _, 3, _, _ => Or.inl gz_sq0_0_3
  | 0, _, 4, _, _ => Or.inl gz_sq0_0_4
  | 0, _, 5, _, _ => Or.inl gz_sq0_0_5
  | 0, _, 6, _, _ => Or.inl gz_sq0_0_6
  | 0, _, 7, _, _ => Or.inl gz_sq0_0_7
  | 0, _, 8, _, _ => Or.inl gz_sq0_0_8
  | 0, _, 0, _, h => absurd rfl h
  | 1, _, 0, _, _ => Or.inr gz_sq0_0_1
  | 1, _, 2, _, _ => Or.inl gz_sq0_1_2
  | 1, _, 3, _, _ => Or.inl gz_sq0_1_3
  | 1, _, 4, _, _ => Or.inl gz_sq0_1_4
  | 1, _, 5, _, _ => Or.inl gz_sq0_1_5
  | 1, _, 6, _, _ => Or.inl gz_sq0_1_6
  | 1, _, 7, _, _ => Or.inl gz_sq0_1_7
  | 1, _, 8, _, _ => Or.inl gz_sq0_1_8
  | 1, _, 1, _, h => absurd rfl h
  | 2, _, 0, _, _ => Or.inr gz_sq0_0_2
  | 2, _, 1, _, _ => Or.inr gz_sq0_1_2
  | 2, _, 3, _, _ => Or.inl gz_sq0_2_3
  | 2, _, 4, _, _ => Or.inl gz_sq0_2_4
  | 2, _, 5, _, _ => Or.inl gz_sq0_2_5
  | 2, _, 6, _, _ => Or.inl gz_sq0_2_6
  | 2, _, 7, _, _ => Or.inl gz_sq0_2_7
  | 2, _, 8, _, _ => Or.inl gz_sq0_2_8
  | 2, _, 2, _, h => absurd rfl h
  | 3, _, 0, _, _ => Or.inr gz_sq0_0_3
  | 3, _, 1, _, _ => Or.inr gz_sq0_1_3
  | 3, _, 2, _, _ => Or.inr gz_sq0_2_3
  | 3, _, 4, _, _ => Or.inl gz_sq0_3_4
  | 3, _, 5, _, _ => Or.inl gz_sq0_3_5
  | 3, _, 6, _, _ => Or.inl gz_sq0_3_6
  | 3, _, 7, _, _ => Or.inl gz_sq0_3_7
  | 3, _, 8, _, _ => Or.inl gz_sq0_3_8
  | 3, _, 3, _, h => absurd rfl h
  | 4, _, 0, _, _ => Or.inr gz_sq0_0_4
  | 4, _, 1, _, _ => Or.inr gz_sq0_1_4
  | 4, _, 2, _, _ => Or.inr gz_sq0_2_4
  | 4, _, 3, _, _ => Or.inr gz_sq0_3_4
  | 4, _, 5, _, _ => Or.inl gz_sq0_4_5
  | 4, _, 6, _, _ => Or.inl gz_sq0_4_6
  | 4, _, 7, _, _ => Or.inl gz_sq0_4_7
  | 4, _, 8, _, _ => Or.inl gz_sq0_4_8
  | 4, _, 4, _, h => absurd rfl h
  | 5, _, 0, _, _ => Or.inr gz_sq0_0_5
  | 5, _, 1, _, _ => Or.inr gz_sq0_1_5
  | 5, _, 2, _, _ => Or.inr gz_sq0_2_5
  | 5, _, 3, _, _ => Or.inr gz_sq0_3_5
  | 5, _, 4, _, _ => Or.inr gz_sq0_4_5
  | 5, _, 6, _, _ => Or.inl gz_sq0_5_6
  | 5, _, 7, _, _ => Or.inl gz_sq0_5_7
  | 5, _, 8, _, _ => Or.inl gz_sq0_5_8
  | 5, _, 5, _, h => absurd rfl h
  | 6, _, 0, _, _ => Or.inr gz_sq0_0_6
  | 6, _, 1, _, _ => Or.inr gz_sq0_1_6
  | 6, _, 2, _, _ => Or.inr gz_sq0_2_6
  | 6, _, 3, _, _ => Or.inr gz_sq0_3_6
  | 6, _, 4, _, _ => Or.inr gz_sq0_4_6
  | 6, _, 5, _, _ => Or.inr gz_sq0_5_6
  | 6, _, 7, _, _ => Or.inl gz_sq0_6_7
  | 6, _, 8, _, _ => Or.inl gz_sq0_6_8
  | 6, _, 6, _, h => absurd rfl h
  | 7, _, 0, _, _ => Or.inr gz_sq0_0_7
  | 7, _, 1, _, _ => Or.inr gz_sq0_1_7
  | 7, _, 2, _, _ => Or.inr gz_sq0_2_7
  | 7, _, 3, _, _ => Or.inr gz_sq0_3_7
  | 7, _, 4, _, _ => Or.inr gz_sq0_4_7
  | 7, _, 5, _, _ => Or.inr gz_sq0_5_7
  | 7, _, 6, _, _ => Or.inr gz_sq0_6_7
  | 7, _, 8, _, _ => Or.inl gz_sq0_7_8
  | 7, _, 7, _, h => absurd rfl h
  | 8, _, 0, _, _ => Or.inr gz_sq0_0_8
  | 8, _, 1, _, _ => Or.inr gz_sq0_1_8
  | 8, _, 2, _, _ => Or.inr gz_sq0_2_8
  | 8, _, 3, _, _ => Or.inr gz_sq0_3_8
  | 8, _, 4, _, _ => Or.inr gz_sq0_4_8
  | 8, _, 5, _, _ => Or.inr gz_sq0_5_8
  | 8, _, 6, _, _ => Or.inr gz_sq0_6_8
  | 8, _, 7, _, _ => Or.inr gz_sq0_7_8
  | 8, _, 8, _, h => absurd rfl h
theorem gz_se9_0_0 : Cond.eq (.elem (gz_vf 9 0) (.int (Int32.ofNat 0))) (.int (gz_by 9 0)) ∈ gz_FL := List.mem_of_getElem? (i := 145) (by decide +kernel)
theorem gz_se9_0_1 : Cond.eq (.elem (gz_vf 9 0) (.int (Int32.ofNat 1))) (.int (gz_by 9 1)) ∈ gz_FL := List.mem_of_getElem? (i := 146) (by decide +kernel)
theorem gz_se9_0_2 : Cond.eq (.elem (gz_vf 9 0) (.int (Int32.ofNat 2))) (.int (gz_by 9 2)) ∈ gz_FL := List.mem_of_getElem? (i := 147) (by decide +kernel)
theorem gz_se9_0_3 : Cond.eq (.elem (gz_vf 9 0) (.int (Int32.ofNat 3))) (.int (gz_by 9 3)) ∈ gz_FL := List.mem_of_getElem? (i := 148) (by decide +kernel)
theorem gz_sp9_0 : gz_sp 9 0 := ⟨List.mem_of_getElem? (i := 141) (by decide +kernel), List.mem_of_getElem? (i := 142) (by decide +kernel), List.mem_of_getElem? (i := 143) (by decide +kernel), List.mem_of_getElem? (i := 144) (by decide +kernel), fun j hj => by
  have hj : j < 4 := hj
  match j, hj with
  | 0, _ => exact gz_se9_0_0
  | 1, _ => exact gz_se9_0_1
  | 2, _ => exact gz_se9_0_2
  | 3, _ => exact gz_se9_0_3⟩
theorem gz_se9_1_0 : Cond.eq (.elem (gz_vf 9 1) (.int (Int32.ofNat 0))) (.int (gz_by 10 0)) ∈ gz_FL := List.mem_of_getElem? (i := 162) (by decide +kernel)
theorem gz_se9_1_1 : Cond.eq (.elem (gz_vf 9 1) (.int (Int32.ofNat 1))) (.int (gz_by 10 1)) ∈ gz_FL := List.mem_of_getElem? (i := 163) (by decide +kernel)
theorem gz_se9_1_2 : Cond.eq (.elem (gz_vf 9 1) (.int (Int32.ofNat 2))) (.int (gz_by 10 2)) ∈ gz_FL := List.mem_of_getElem? (i := 164) (by decide +kernel)
theorem gz_se9_1_3 : Cond.eq (.elem (gz_vf 9 1) (.int (Int32.ofNat 3))) (.int (gz_by 10 3)) ∈ gz_FL := List.mem_of_getElem? (i := 165) (by decide +kernel)
theorem gz_se9_1_4 : Cond.eq (.elem (gz_vf 9 1) (.int (Int32.ofNat 4))) (.int (gz_by 10 4)) ∈ gz_FL := List.mem_of_getElem? (i := 166) (by decide +kernel)
theorem gz_sp9_1 : gz_sp 9 1 := ⟨List.mem_of_getElem? (i := 158) (by decide +kernel), List.mem_of_getElem? (i := 159) (by decide +kernel), List.mem_of_getElem? (i := 160) (by decide +kernel), List.mem_of_getElem? (i := 161) (by decide +kernel), fun j hj => by
  have hj : j < 5 := hj
  match j, hj with
  | 0, _ => exact gz_se9_1_0
  | 1, _ => exact gz_se9_1_1
  | 2, _ => exact gz_se9_1_2
  | 3, _ => exact gz_se9_1_3
  | 4, _ => exact gz_se9_1_4⟩
theorem gz_se9_2_0 : Cond.eq (.elem (gz_vf 9 2) (.int (Int32.ofNat 0))) (.int (gz_by 11 0)) ∈ gz_FL := List.mem_of_getElem? (i := 181) (by decide +kernel)
theorem gz_se9_2_1 : Cond.eq (.elem (gz_vf 9 2) (.int (Int32.ofNat 1))) (.int (gz_by 11 1)) ∈ gz_FL := List.mem_of_getElem? (i := 182) (by decide +kernel)
theorem gz_se9_2_2 : Cond.eq (.elem (gz_vf 9 2) (.int (Int32.ofNat 2))) (.int (gz_by 11 2)) ∈ gz_FL := List.mem_of_getElem? (i := 183) (by decide +kernel)
theorem gz_se9_2_3 : Cond.eq (.elem (gz_vf 9 2) (.int (Int32.ofNat 3))) (.int (gz_by 11 3)) ∈ gz_FL := List.mem_of_getElem? (i := 184) (by decide +kernel)
theorem gz_sp9_2 : gz_sp 9 2 := ⟨List.mem_of_getElem? (i := 177) (by decide +kernel), List.mem_of_getElem? (i := 178) (by decide +kernel), List.mem_of_getElem? (i := 179) (by decide +kernel), List.mem_of_getElem? (i := 180) (by decide +kernel), fun j hj => by
  have hj : j < 4 := hj
  match j, hj with
  | 0, _ => exact gz_se9_2_0
  | 1, _ => exact gz_se9_2_1
  | 2, _ => exact gz_se9_2_2
  | 3, _ => exact gz_se9_2_3⟩
theorem gz_se9_3_0 : Cond.eq (.elem (gz_vf 9 3) (.int (Int32.ofNat 0))) (.int (gz_by 12 0)) ∈ gz_FL := List.mem_of_getElem? (i := 200) (by decide +kernel)
theorem gz_se9_3_1 : Cond.eq (.elem (gz_vf 9 3) (.int (Int32.ofNat 1))) (.int (gz_by 12 1)) ∈ gz_FL := List.mem_of_getElem? (i := 201) (by decide +kernel)
theorem gz_se9_3_2 : Cond.eq (.elem (gz_vf 9 3) (.int (Int32.ofNat 2))) (.int (gz_by 12 2)) ∈ gz_FL := List.mem_of_getElem? (i := 202) (by decide +kernel)
theorem gz_se9_3_3 : Cond.eq (.elem (gz_vf 9 3) (.int (Int32.ofNat 3))) (.int (gz_by 12 3)) ∈ gz_FL := List.mem_of_getElem? (i := 203) (by decide +kernel)
theorem gz_sp9_3 : gz_sp 9 3 := ⟨List.mem_of_getElem? (i := 196) (by decide +kernel), List.mem_of_getElem? (i := 197) (by decide +kernel), List.mem_of_getElem? (i := 198) (by decide +kernel), List.mem_of_getElem? (i := 199) (by decide +kernel), fun j hj => by
  have hj : j < 4 := hj
  match j, hj with
  | 0, _ => exact gz_se9_3_0
  | 1, _ => exact gz_se9_3_1
  | 2, _ => exact gz_se9_3_2
  | 3, _ => exact gz_se9_3_3⟩
theorem gz_se9_4_0 : Cond.eq (.elem (gz_vf 9 4) (.int (Int32.ofNat 0))) (.int (gz_by 13 0)) ∈ gz_FL := List.mem_of_getElem? (i := 220) (by decide +kernel)
theorem gz_se9_4_1 : Cond.eq (.elem (gz_vf 9 4) (.int (Int32.ofNat 1))) (.int (gz_by 13 1)) ∈ gz_FL := List.mem_of_getElem? (i := 221) (by decide +kernel)
theorem gz_se9_4_2 : Cond.eq (.elem (gz_vf 9 4) (.int (Int32.ofNat 2))) (.int (gz_by 13 2)) ∈ gz_FL := List.mem_of_getElem? (i := 222) (by decide +kernel)
theorem gz_se9_4_3 : Cond.eq (.elem (gz_vf 9 4) (.int (Int32.ofNat 3))) (.int (gz_by 13 3)) ∈ gz_FL := List.mem_of_getElem? (i := 223) (by decide +kernel)
theorem gz_se9_4_4 : Cond.eq (.elem (gz_vf 9 4) (.int (Int32.ofNat 4))) (.int (gz_by 13 4)) ∈ gz_FL := List.mem_of_getElem? (i := 224) (by decide +kernel)
theorem gz_sp9_4 : gz_sp 9 4 := ⟨List.mem_of_getElem? (i := 216) (by decide +kernel), List.mem_of_getElem? (i := 217) (by decide +kernel), List.mem_of_getElem? (i := 218) (by decide +kernel), List.mem_of_getElem? (i := 219) (by decide +kernel), fun j hj => by
  have hj : j < 5 := hj
  match j, hj with
  | 0, _ => exact gz_se9_4_0
  | 1, _ => exact gz_se9_4_1
  | 2, _ => exact gz_se9_4_2
  | 3, _ => exact gz_se9_4_3
  | 4, _ => exact gz_se9_4_4⟩
theorem gz_se9_5_0 : Cond.eq (.elem (gz_vf 9 5) (.int (Int32.ofNat 0))) (.int (gz_by 14 0)) ∈ gz_FL := List.mem_of_getElem? (i := 242) (by decide +kernel)
theorem gz_se9_5_1 : Cond.eq (.elem (gz_vf 9 5) (.int (Int32.ofNat 1))) (.int (gz_by 14 1)) ∈ gz_FL := List.mem_of_getElem? (i := 243) (by decide +kernel)
theorem gz_se9_5_2 : Cond.eq (.elem (gz_vf 9 5) (.int (Int32.ofNat 2))) (.int (gz_by 14 2)) ∈ gz_FL := List.mem_of_getElem? (i := 244) (by decide +kernel)
theorem gz_se9_5_3 : Cond.eq (.elem (gz_vf 9 5) (.int (Int32.ofNat 3))) (.int (gz_by 14 3)) ∈ gz_FL := List.mem_of_getElem? (i := 245) (by decide +kernel)
theorem gz_se9_5_4 : Cond.eq (.elem (gz_vf 9 5) (.int (Int32.ofNat 4))) (.int (gz_by 14 4)) ∈ gz_FL := List.mem_of_getElem? (i := 246) (by decide +kernel)
theorem gz_sp9_5 : gz_sp 9 5 := ⟨List.mem_of_getElem? (i := 238) (by decide +kernel), List.mem_of_getElem? (i := 239) (by decide +kernel), List.mem_of_getElem? (i := 240) (by decide +kernel), List.mem_of_getElem? (i := 241) (by decide +kernel), fun j hj => by
  have hj : j < 5 := hj
  match j, hj with
  | 0, _ => exact gz_se9_5_0
  | 1, _ => exact gz_se9_5_1
  | 2, _ => exact gz_se9_5_2
  | 3, _ => exact gz_se9_5_3
  | 4, _ => exact gz_se9_5_4⟩
theorem gz_se9_6_0 : Cond.eq (.elem (gz_vf 9 6) (.int (Int32.ofNat 0))) (.int (gz_by 15 0)) ∈ gz_FL := List.mem_of_getElem? (i := 265) (by decide +kernel)
theorem gz_se9_6_1 : Cond.eq (.elem (gz_vf 9 6) (.int (Int32.ofNat 1))) (.int (gz_by 15 1)) ∈ gz_FL := List.mem_of_getElem? (i := 266) (by decide +kernel)
theorem gz_se9_6_2 : Cond.eq (.elem (gz_vf 9 6) (.int (Int32.ofNat 2))) (.int (gz_by 15 2)) ∈ gz_FL := List.mem_of_getElem? (i := 267) (by decide +kernel)
theorem gz_se9_6_3 : Cond.eq (.elem (gz_vf 9 6) (.int (Int32.ofNat 3))) (.int (gz_by 15 3)) ∈ gz_FL := List.mem_of_getElem? (i := 268) (by decide +kernel)
theorem gz_sp9_6 : gz_sp 9 6 := ⟨List.mem_of_getElem? (i := 261) (by decide +kernel), List.mem_of_getElem? (i := 262) (by decide +kernel), List.mem_of_getElem? (i := 263) (by decide +kernel), List.mem_of_getElem? (i := 264) (by decide +kernel), fun j hj => by
  have hj : j < 4 := hj
  match j, hj with
  | 0, _ => exact gz_se9_6_0
  | 1, _ => exact gz_se9_6_1
  | 2, _ => exact gz_se9_6_2
  | 3, _ => exact gz_se9_6_3⟩
theorem gz_se9_7_0 : Cond.eq (.elem (gz_vf 9 7) (.int (Int32.ofNat 0))) (.int (gz_by 16 0)) ∈ gz_FL := List.mem_of_getElem? (i := 288) (by decide +kernel)
theorem gz_se9_7_1 : Cond.eq (.elem (gz_vf 9 7) (.int (Int32.ofNat 1))) (.int (gz_by 16 1)) ∈ gz_FL := List.mem_of_getElem? (i := 289) (by decide +kernel)
theorem gz_se9_7_2 : Cond.eq (.elem (gz_vf 9 7) (.int (Int32.ofNat 2))) (.int (gz_by 16 2)) ∈ gz_FL := List.mem_of_getElem? (i := 290) (by decide +kernel)
theorem gz_sp9_7 : gz_sp 9 7 := ⟨List.mem_of_getElem? (i := 284) (by decide +kernel), List.mem_of_getElem? (i := 285) (by decide +kernel), List.mem_of_getElem? (i := 286) (by decide +kernel), List.mem_of_getElem? (i := 287) (by decide +kernel), fun j hj => by
  have hj : j < 3 := hj
  match j, hj with
  | 0, _ => exact gz_se9_7_0
  | 1, _ => exact gz_se9_7_1
  | 2, _ => exact gz_se9_7_2⟩
theorem gz_se9_8_0 : Cond.eq (.elem (gz_vf 9 8) (.int (Int32.ofNat 0))) (.int (gz_by 17 0)) ∈ gz_FL := List.mem_of_getElem? (i := 311) (by decide +kernel)
theorem gz_se9_8_1 : Cond.eq (.elem (gz_vf 9 8) (.int (Int32.ofNat 1))) (.int (gz_by 17 1)) ∈ gz_FL := List.mem_of_getElem? (i := 312) (by decide +kernel)
theorem gz_se9_8_2 : Cond.eq (.elem (gz_vf 9 8) (.int (Int32.ofNat 2))) (.int (gz_by 17 2)) ∈ gz_FL := List.mem_of_getElem? (i := 313) (by decide +kernel)
theorem gz_se9_8_3 : Cond.eq (.elem (gz_vf 9 8) (.int (Int32.ofNat 3))) (.int (gz_by 17 3)) ∈ gz_FL := List.mem_of_getElem? (i := 314) (by decide +kernel)
theorem gz_sp9_8 : gz_sp 9 8 := ⟨List.mem_of_getElem? (i := 307) (by decide +kernel), List.mem_of_getElem? (i := 308) (by decide +kernel), List.mem_of_getElem? (i := 309) (by decide +kernel), List.mem_of_getElem? (i := 310) (by decide +kernel), fun j hj => by
  have hj : j < 4 := hj
  match j, hj with
  | 0, _ => exact gz_se9_8_0
  | 1, _ => exact gz_se9_8_1
  | 2, _ => exact gz_se9_8_2
  | 3, _ => exact gz_se9_8_3⟩
theorem gz_sp9 : ∀ i, i < 9 → gz_sp 9 i := fun i hi => match i, hi with
  | 0, _ => gz_sp9_0
  | 1, _ => gz_sp9_1
  | 2, _ => gz_sp9_2
  | 3, _ => gz_sp9_3
  | 4, _ => gz_sp9_4
  | 5, _ => gz_sp9_5
  | 6, _ => gz_sp9_6
  | 7, _ => gz_sp9_7
  | 8, _ => gz_sp9_8
theorem gz_sq9_0_1 : Cond.not (Cond.eq (gz_tm 9 0) (gz_tm 9 1)) ∈ gz_FL := List.mem_of_getElem? (i := 176) (by decide +kernel)
theorem gz_sq9_0_2 : Cond.not (Cond.eq (gz_tm 9 0) (gz_tm 9 2)) ∈ gz_FL := List.mem_of_getElem? (i := 194) (by decide +kernel)
theorem gz_sq9_0_3 : Cond.not (Cond.eq (gz_tm 9 0) (gz_tm 9 3)) ∈ gz_FL := List.mem_of_getElem? (i := 213) (by decide +kernel)
theorem gz_sq9_0_4 : Cond.not (Cond.eq (gz_tm 9 0) (gz_tm 9 4)) ∈ gz_FL := List.mem_of_getElem? (i := 234) (by decide +kernel)
theorem gz_sq9_0_5 : Cond.not (Cond.eq (gz_tm 9 0) (gz_tm 9 5)) ∈ gz_FL := List.mem_of_getElem? (i := 256) (by decide +kernel)
theorem gz_sq9_0_6 : Cond.not (Cond.eq (gz_tm 9 0) (gz_tm 9 6)) ∈ gz_FL := List.mem_of_getElem? (i := 278) (by decide +kernel)
theorem gz_sq9_0_7 : Cond.not (Cond.eq (gz_tm 9 0) (gz_tm 9 7)) ∈ gz_FL := List.mem_of_getElem? (i := 300) (by decide +kernel)
theorem gz_sq9_0_8 : Cond.not (Cond.eq (gz_tm 9 0) (gz_tm 9 8)) ∈ gz_FL := List.mem_of_getElem? (i := 324) (by decide +kernel)
theorem gz_sq9_1_2 : Cond.not (Cond.eq (gz_tm 9 1) (gz_tm 9 2)) ∈ gz_FL := List.mem_of_getElem? (i := 195) (by decide +kernel)
theorem gz_sq9_1_3 : Cond.not (Cond.eq (gz_tm 9 1) (gz_tm 9 3)) ∈ gz_FL := List.mem_of_getElem? (i := 214) (by decide +kernel)
theorem gz_sq9_1_4 : Cond.not (Cond.eq (gz_tm 9 1) (gz_tm 9 4)) ∈ gz_FL := List.mem_of_getElem? (i := 235) (by decide +kernel)
theorem gz_sq9_1_5 : Cond.not (Cond.eq (gz_tm 9 1) (gz_tm 9 5)) ∈ gz_FL := List.mem_of_getElem? (i := 257) (by decide +kernel)
theorem gz_sq9_1_6 : Cond.not (Cond.eq (gz_tm 9 1) (gz_tm 9 6)) ∈ gz_FL := List.mem_of_getElem? (i := 279) (by decide +kernel)
theorem gz_sq9_1_7 : Cond.not (Cond.eq (gz_tm 9 1) (gz_tm 9 7)) ∈ gz_FL := List.mem_of_getElem? (i := 301) (by decide +kernel)
theorem gz_sq9_1_8 : Cond.not (Cond.eq (gz_tm 9 1) (gz_tm 9 8)) ∈ gz_FL := List.mem_of_getElem? (i := 325) (by decide +kernel)
theorem gz_sq9_2_3 : Cond.not (Cond.eq (gz_tm 9 2) (gz_tm 9 3)) ∈ gz_FL := List.mem_of_getElem? (i := 215) (by decide +kernel)
theorem gz_sq9_2_4 : Cond.not (Cond.eq (gz_tm 9 2) (gz_tm 9 4)) ∈ gz_FL := List.mem_of_getElem? (i := 236) (by decide +kernel)
theorem gz_sq9_2_5 : Cond.not (Cond.eq (gz_tm 9 2) (gz_tm 9 5)) ∈ gz_FL := List.mem_of_getElem? (i := 258) (by decide +kernel)
theorem gz_sq9_2_6 : Cond.not (Cond.eq (gz_tm 9 2) (gz_tm 9 6)) ∈ gz_FL := List.mem_of_getElem? (i := 280) (by decide +kernel)
theorem gz_sq9_2_7 : Cond.not (Cond.eq (gz_tm 9 2) (gz_tm 9 7)) ∈ gz_FL := List.mem_of_getElem? (i := 302) (by decide +kernel)
theorem gz_sq9_2_8 : Cond.not (Cond.eq (gz_tm 9 2) (gz_tm 9 8)) ∈ gz_FL := List.mem_of_getElem? (i := 326) (by decide +kernel)
theorem gz_sq9_3_4 : Cond.not (Cond.eq (gz_tm 9 3) (gz_tm 9 4)) ∈ gz_FL := List.mem_of_getElem? (i := 237) (by decide +kernel)
theorem gz_sq9_3_5 : Cond.not (Cond.eq (gz_tm 9 3) (gz_tm 9 5)) ∈ gz_FL := List.mem_of_getElem? (i := 259) (by decide +kernel)
theorem gz_sq9_3_6 : Cond.not (Cond.eq (gz_tm 9 3) (gz_tm 9 6)) ∈ gz_FL := List.mem_of_getElem? (i := 281) (by decide +kernel)
theorem gz_sq9_3_7 : Cond.not (Cond.eq (gz_tm 9 3) (gz_tm 9 7)) ∈ gz_FL := List.mem_of_getElem? (i := 303) (by decide +kernel)
theorem gz_sq9_3_8 : Cond.not (Cond.eq (gz_tm 9 3) (gz_tm 9 8)) ∈ gz_FL := List.mem_of_getElem? (i := 327) (by decide +kernel)
theorem gz_sq9_4_5 : Cond.not (Cond.eq (gz_tm 9 4) (gz_tm 9 5)) ∈ gz_FL := List.mem_of_getElem? (i := 260) (by decide +kernel)
theorem gz_sq9_4_6 : Cond.not (Cond.eq (gz_tm 9 4) (gz_tm 9 6)) ∈ gz_FL := List.mem_of_getElem? (i := 282) (by decide +kernel)
theorem gz_sq9_4_7 : Cond.not (Cond.eq (gz_tm 9 4) (gz_tm 9 7)) ∈ gz_FL := List.mem_of_getElem? (i := 304) (by decide +kernel)
theorem gz_sq9_4_8 : Cond.not (Cond.eq (gz_tm 9 4) (gz_tm 9 8)) ∈ gz_FL := List.mem_of_getElem? (i := 328) (by decide +kernel)
theorem gz_sq9_5_6 : Cond.not (Cond.eq (gz_tm 9 5) (gz_tm 9 6)) ∈ gz_FL := List.mem_of_getElem? (i := 283) (by decide +kernel)
theorem gz_sq9_5_7 : Cond.not (Cond.eq (gz_tm 9 5) (gz_tm 9 7)) ∈ gz_FL := List.mem_of_getElem? (i := 305) (by decide +kernel)
theorem gz_sq9_5_8 : Cond.not (Cond.eq (gz_tm 9 5) (gz_tm 9 8)) ∈ gz_FL := List.mem_of_getElem? (i := 329) (by decide +kernel)
theorem gz_sq9_6_7 : Cond.not (Cond.eq (gz_tm 9 6) (gz_tm 9 7)) ∈ gz_FL := List.mem_of_getElem? (i := 306) (by decide +kernel)
theorem gz_sq9_6_8 : Cond.not (Cond.eq (gz_tm 9 6) (gz_tm 9 8)) ∈ gz_FL := List.mem_of_getElem? (i := 330) (by decide +kernel)
theorem gz_sq9_7_8 : Cond.not (Cond.eq (gz_tm 9 7) (gz_tm 9 8)) ∈ gz_FL := List.mem_of_getElem? (i := 331) (by decide +kernel)
theorem gz_sq9 : ∀ i, i < 9 → ∀ j, j < 9 → i ≠ j → gz_sq 9 i j := fun i hi j hj h => match i, hi, j, hj, h with
  | 0, _, 1, _, _ => Or.inl gz_sq9_0_1
  | 0, _, 2, _, _ => Or.inl gz_sq9_0_2
  | 0, _, 3, _, _ => Or.inl gz_sq9_0_3
  | 0, _, 4, _, _ => Or.inl gz_sq9_0_4
  | 0, _, 5, _, _ => Or.inl gz_sq9_0_5
  | 0, _, 6, _, _ => Or.inl gz_sq9_0_6
  | 0, _, 7, _, _ => Or.inl gz_sq9_0_7
  | 0, _, 8, _, _ => Or.inl gz_sq9_0_8
  | 0, _, 0, _, h => absurd rfl h
  | 1, _, 0, _, _ => Or.inr gz_sq9_0_1
  | 1, _, 2, _, _ => Or.inl gz_sq9_1_2
  | 1, _, 3, _, _ => Or.inl gz_sq9_1_3
  | 1, _, 4, _, _ => Or.inl gz_sq9_1_4
  | 1, _, 5, _, _ => Or.inl gz_sq9_1_5
  | 1, _, 6, _, _ => Or.inl gz_sq9_1_6
  | 1, _, 7, _, _ => Or.inl gz_sq9_1_7
  | 1, _, 8, _, _ => Or.inl gz_sq9_1_8
  | 1, _, 1, _, h => absurd rfl h
  | 2, _, 0, _, _ => Or.inr gz_sq9_0_2
  | 2, _, 1, _, _ => Or.inr gz_sq9_1_2
  | 2, _, 3, _, _ => Or.inl gz_sq9_2_3
  | 2, _, 4, _, _ => Or.inl gz_sq9_2_4
  | 2, _, 5, _, _ => Or.inl gz_sq9_2_5
  | 2, _, 6, _, _ => Or.inl gz_sq9_2_6
  | 2, _, 7, _, _ => Or.inl gz_sq9_2_7
  | 2, _, 8, _, _ => Or.inl gz_sq9_2_8
  | 2, _, 2, _, h => absurd rfl h
  | 3, _, 0, _, _ => Or.inr gz_sq9_0_3
  | 3, _, 1, _, _ => Or.inr gz_sq9_1_3
  | 3, _, 2, _, _ => Or.inr gz_sq9_2_3
  | 3, _, 4, _, _ => Or.inl gz_sq9_3_4
  | 3, _, 5, _, _ => Or.inl gz_sq9_3_5
  | 3, _, 6, _, _ => Or.inl gz_sq9_3_6
  | 3, _, 7, _, _ => Or.inl gz_sq9_3_7
  | 3, _, 8, _, _ => Or.inl gz_sq9_3_8
  | 3, _, 3, _, h => absurd rfl h
  | 4, _, 0, _, _ => Or.inr gz_sq9_0_4
  | 4, _, 1, _, _ => Or.inr gz_sq9_1_4
  | 4, _, 2, _, _ => Or.inr gz_sq9_2_4
  | 4, _, 3, _, _ => Or.inr gz_sq9_3_4
  | 4, _, 5, _, _ => Or.inl gz_sq9_4_5
  | 4, _, 6, _, _ => Or.inl gz_sq9_4_6
  | 4, _, 7, _, _ => Or.inl gz_sq9_4_7
  | 4, _, 8, _, _ => Or.inl gz_sq9_4_8
  | 4, _, 4, _, h => absurd rfl h
  | 5, _, 0, _, _ => Or.inr gz_sq9_0_5
  | 5, _, 1, _, _ => Or.inr gz_sq9_1_5
  | 5, _, 2, _, _ => Or.inr gz_sq9_2_5
  | 5, _, 3, _, _ => Or.inr gz_sq9_3_5
  | 5, _, 4, _, _ => Or.inr gz_sq9_4_5
  | 5, _, 6, _, _ => Or.inl gz_sq9_5_6
  | 5, _, 7, _, _ => Or.inl gz_sq9_5_7
  | 5, _, 8, _, _ => Or.inl gz_sq9_5_8
  | 5, _, 5, _, h => absurd rfl h
  | 6, _, 0, _, _ => Or.inr gz_sq9_0_6
  | 6, _, 1, _, _ => Or.inr gz_sq9_1_6
  | 6, _, 2, _, _ => Or.inr gz_sq9_2_6
  | 6, _, 3, _, _ => Or.inr gz_sq9_3_6
  | 6, _, 4, _, _ => Or.inr gz_sq9_4_6
  | 6, _, 5, _, _ => Or.inr gz_sq9_5_6
  | 6, _, 7, _, _ => Or.inl gz_sq9_6_7
  | 6, _, 8, _, _ => Or.inl gz_sq9_6_8
  | 6, _, 6, _, h => absurd rfl h
  | 7, _, 0, _, _ => Or.inr gz_sq9_0_7
  | 7, _, 1, _, _ => Or.inr gz_sq9_1_7
  | 7, _, 2, _, _ => Or.inr gz_sq9_2_7
  | 7, _, 3, _, _ => Or.inr gz_sq9_3_7
  | 7, _, 4, _, _ => Or.inr gz_sq9_4_7
  | 7, _, 5, _, _ => Or.inr gz_sq9_5_7
  | 7, _, 6, _, _ => Or.inr gz_sq9_6_7
  | 7, _, 8, _, _ => Or.inl gz_sq9_7_8
  | 7, _, 7, _, h => absurd rfl h
  | 8, _, 0, _, _ => Or.inr gz_sq9_0_8
  | 8, _, 1, _, _ => Or.inr gz_sq9_1_8
  | 8, _, 2, _, _ => Or.inr gz_sq9_2_8
  | 8, _, 3, _, _ => Or.inr gz_sq9_3_8
  | 8, _, 4, _, _ => Or.inr gz_sq9_4_8
  | 8, _, 5, _, _ => Or.inr gz_sq9_5_8
  | 8, _, 6, _, _ => Or.inr gz_sq9_6_8
  | 8, _, 7, _, _ => Or.inr gz_sq9_7_8
  | 8, _, 8, _, h => absurd rfl h
theorem gz_zok : Cond.eq (.static "java/lang/String" "COMPACT_STRINGS" "Z") (.int 1) ∈ gz_FL ∧ Cond.isRef (.static "jdk/internal/util/Preconditions" "SIOOBE_FORMATTER" "Ljava/util/function/BiFunction;") ∈ gz_FL := ⟨List.mem_of_getElem? (i := 4) (by decide +kernel), List.mem_of_getElem? (i := 5) (by decide +kernel)⟩
theorem gz_Sof {args : Array Value} {s : State} {A : Nat → Prop} (k : Nat) (hk : ∀ i, i < 9 → gz_sp k i) (hk2 : ∀ i, i < 9 → ∀ j, j < 9 → i ≠ j → gz_sq k i j) (hs : ∀ c ∈ gz_FL, c.before args s = true) (hA : ∀ a : Nat, a < s.heap.size → ¬ A a) (h9 : ∀ i, i < 9 → gz_le (k + i) < 6) :
    ∃ adK adV : Nat → Nat, vk_S 9 ((List.range 9).map (fun i => gz_le (k + i))) ((List.range 9).map (fun i => gz_tx.getD (k + i) [])) adK adV A s s.heap ∧ ∀ i : Nat, i < 9 → (gz_tm k i).eval args s none [] s = some (.ref (adK i)) := by
  have hl : ∀ i, i < 9 → ((List.range 9).map (fun i => gz_le (k + i))).getD i 0 = gz_le (k + i) := fun i hi => by simp [List.getD, hi]
  have hb : ∀ i, i < 9 → ((List.range 9).map (fun i => gz_tx.getD (k + i) [])).getD i [] = gz_tx.getD (k + i) [] := fun i hi => by simp [List.getD, hi]
  refine vk_Sof (tm := gz_tm k) (fun i hi => ?_) (fun i hi => hs _ (hk i hi).1) (fun i hi => hs _ (hk i hi).2.1) (fun i hi => hs _ (hk i hi).2.2.1) (fun i hi => ?_) (fun i hi j hj => ?_) (fun i j hi hj hne => ?_) hA
  · rw [hl i hi]; have := h9 i hi; omega
  · rw [hl i hi]; exact hs _ (hk i hi).2.2.2.1
  · rw [hl i hi] at hj
    rw [hb i hi]
    exact hs _ ((hk i hi).2.2.2.2 j hj)
  · rcases hk2 i hi j hj hne with h | h
    · exact Or.inl (hs _ h)
    · exact Or.inr (hs _ h)
/-- the memory at the law's entry: nothing of ours -/
def gz_m0 (b : Nat) : gz_M := (b, fun _ => (0, 0), fun _ _ => 0, fun _ _ => 0, fun _ _ => none)
theorem gz_E0 {p : Program} {s : State} {m : MethodId} {meth : Method} {c : Code} {b L : Nat} {xs : Nat → Int32} (C0 : lw_At p s m meth c b L xs) : ∃ G : gz_G, G.2.2.1 = s.heap.size ∧ G.2.2.2.1 = s.heap ∧ gz_E G s := by
  obtain ⟨hx, hb, hr, hml, hown, hts, hX, hbl, hlocks, hgv⟩ := C0
  have hs : ∀ c ∈ gz_FL, c.before #[Value.ref b] s = true := flat_of_before _ hgv
  have hus : ∀ (ci : Nat) (q : vw_C), vwCl[ci]? = some q → ∀ w ∈ u_ws q.1 q.2.1 q.2.2, w ∈ lw_tbl := by
    intro ci q hq w hw
    have h1 := List.all_eq_true.mp (gz_cls_ok ci q hq).1 w hw
    simp only [Bool.and_eq_true, decide_eq_true_eq] at h1
    exact h1.1
  have hcl : ∀ ci : Nat, ∃ d : ClassId × (Nat → Nat), ∀ q, vwCl[ci]? = some q → u_Kn s q.1 q.2.1 q.2.2 d.1 d.2 := by
    intro ci
    cases hq : vwCl[ci]? with
    | none => exact ⟨(0, fun _ => 0), fun q h => nomatch h⟩
    | some q =>
      have hin : ∃ n, Cond.instantiable q.1 n ∈ lw_tbl := by
        match ci, hq with
        | 0, h => cases h; exact ⟨_, gz_in0⟩
        | 1, h => cases h; exact ⟨_, gz_in1⟩
        | 2, h => cases h; exact ⟨_, gz_in2⟩
        | 3, h => cases h; exact ⟨_, gz_in3⟩
        | 4, h => cases h; exact ⟨_, gz_in4⟩
        | 5, h => cases h; exact ⟨_, gz_in5⟩
        | 6, h => cases h; exact ⟨_, gz_in6⟩
        | 7, h => cases h; exact ⟨_, gz_in7⟩
        | 8, h => cases h; exact ⟨_, gz_in8⟩
        | 9, h => cases h; exact ⟨_, gz_in9⟩
        | 10, h => cases h; exact ⟨_, gz_in10⟩
        | k + 11, h => simp [vwCl] at h
      obtain ⟨n, hn⟩ := hin
      obtain ⟨cC, iS, h⟩ := u_known hts (hus ci q hq) (hts _ hn)
      exact ⟨(cC, iS), fun q2 h2 => by cases h2; exact h⟩
  obtain ⟨dd, hdd⟩ := Classical.axiomOfChoice hcl
  obtain ⟨c0, k0, m0, a1, a2, a3⟩ := Cond.arrayClass_spec (args := #[Value.ref b]) (first := s) (o := none) (idx := []) (hts _ gz_wcI)
  obtain ⟨c1, k1, m1, b1, b2, b3⟩ := Cond.arrayClass_spec (args := #[Value.ref b]) (first := s) (o := none) (idx := []) (hts _ gz_wcL)
  obtain ⟨m2, c2, k2, d0, -, d2, d3, d1⟩ := Cond.arrayOver_spec (args := #[Value.ref b]) (first := s) (o := none) (idx := []) (hts _ gz_woS)
  obtain ⟨m3, c3, k3, e0, -, e2, e3, e1⟩ := Cond.arrayOver_spec (args := #[Value.ref b]) (first := s) (o := none) (idx := []) (hts _ gz_woV)
  obtain ⟨m4, c4, k4, f0, f1, f2, f3⟩ := gz_ovr (args := #[Value.ref b]) (hts _ gz_woI)
  obtain ⟨m5, c5, k5, g0, g1, g2, g3⟩ := gz_ovr (args := #[Value.ref b]) (hts _ gz_woL)
  have hA : ∀ a : Nat, a < s.heap.size → ¬ (fun q => s.heap.size ≤ q) a := fun a h => Nat.not_le.mpr h
  obtain ⟨K1, V1, hS1, hT1⟩ := gz_Sof 0 gz_sp0 gz_sq0 hs hA (by decide)
  obtain ⟨K2, V2, hS2, hT2⟩ := gz_Sof 9 gz_sp9 gz_sq9 hs hA (by decide)
  have arr : ∀ {cA : ClassId} {kA : Class} {comp : ClassId} {ty : FieldType}, s.vm.classes[cA]? = some kA → kA.kind = .array comp ty → ArrOfT s cA ty := fun h1 h2 n z => ⟨fun k h => (by cases h), _, h1, _, h2⟩
  refine ⟨((fun k => (dd k).1, fun k => (dd k).2), fun t => if t = 0 then c0 else if t = 1 then c1 else if t = 2 then c2 else if t = 3 then c3 else if t = 4 then c4 else c5, s.heap.size, s.heap, fun n => if n < 9 then K1 n else if n < 18 then K2 (n - 9) else if n < 27 then V1 (n - 18) else V2 (n - 27)), rfl, rfl, ⟨⟨fun w hw hg a => ?_, ?_⟩, ?_⟩⟩
  · have h1 := hts w hw
    rcases hg with hg | hg
    · exact word_at (State.WarmedH.refl s) (good_of_word hg) h1
    · cases w with
      | methodLinkNest o i x hst => exact va_Nw.use rfl (va_Nw.of rfl h1)
      | arrayOver ty => exact h1
      | _ => cases hg
  · refine ⟨fun i hi => ?_, va_Zof (hts _ gz_wz.1) (hts _ gz_wz.2.1) (va_eqi (hs _ gz_zok.1)) hA, va_Zqof (hts _ gz_wz.2.2.1) (hts _ gz_wz.2.2.2) (hs _ gz_zok.2) hA, fun i q hq => ?_⟩
    · by_cases h : i < 9
      · have e1 : ((List.range 9).map (fun i => gz_le (0 + i))).getD i 0 = gz_le i := by simp [List.getD, h]
        have e2 : ((List.range 9).map (fun i => gz_tx.getD (0 + i) [])).getD i [] = gz_tx.getD i [] := by simp [List.getD, h]
        obtain ⟨q1, q2, q3, q4⟩ := hS1.1 i h
        rw [e1, e2] at q4
        show va_O _ (if i < 9 then K1 i else _) _ _ _ ∧ va_OF _ _ _ _ (if i < 9 then K1 i else _) _ _ _ ∧ va_OF _ _ _ (.ref (if 18 + i < 9 then _ else if 18 + i < 18 then _ else if 18 + i < 27 then V1 (18 + i - 18) else _)) (if i < 9 then K1 i else _) _ _ _ ∧ va_T _ (if 18 + i < 9 then _ else if 18 + i < 18 then _ else if 18 + i < 27 then V1 (18 + i - 18) else _) _ _ _ _ _
        rw [if_pos h, if_neg (by omega), if_neg (by omega), if_pos (by omega), Nat.add_sub_cancel_left]
        exact ⟨q1, q2, q3, q4⟩
      · have h2 : i - 9 < 9 := by omega
        have e1 : ((List.range 9).map (fun i => gz_le (9 + i))).getD (i - 9) 0 = gz_le i := by
          have : 9 + (i - 9) = i := by omega
          simp [List.getD, h2, this]
        have e2 : ((List.range 9).map (fun i => gz_tx.getD (9 + i) [])).getD (i - 9) [] = gz_tx.getD i [] := by
          have : 9 + (i - 9) = i := by omega
          simp [List.getD, h2, this]
        obtain ⟨q1, q2, q3, q4⟩ := hS2.1 (i - 9) h2
        rw [e1, e2] at q4
        show va_O _ (if i < 9 then _ else if i < 18 then K2 (i - 9) else _) _ _ _ ∧ va_OF _ _ _ _ (if i < 9 then _ else if i < 18 then K2 (i - 9) else _) _ _ _ ∧ va_OF _ _ _ (.ref (if 18 + i < 9 then _ else if 18 + i < 18 then _ else if 18 + i < 27 then _ else V2 (18 + i - 27))) (if i < 9 then _ else if i < 18 then K2 (i - 9) else _) _ _ _ ∧ va_T _ (if 18 + i < 9 then _ else if 18 + i < 18 then _ else if 18 + i < 27 then _ else V2 (18 + i - 27)) _ _ _ _ _
        rw [if_neg h, if_pos hi, if_neg (by omega), if_neg (by omega), if_neg (by omega), show 18 + i - 27 = i - 9 by omega]
        exact ⟨q1, q2, q3, q4⟩
    · have hlt : i < 18 := by
        have := (List.getElem?_eq_some_iff.mp hq).1
        exact this
      have hw := hts _ (gz_wst q (List.mem_of_getElem? hq))
      refine vk_R.of hw ?_
      by_cases h : i < 9
      · have h3 := hT1 i h
        have e : gz_tm 0 i = .string q.1 q.2.1 := by unfold gz_tm; simp [List.getD, hq]
        rw [e] at h3
        show _ = some (Value.ref (if i < 9 then K1 i else _))
        rw [if_pos h]
        exact h3
      · have h3 := hT2 (i - 9) (by omega)
        have e : gz_tm 9 (i - 9) = .string q.1 q.2.1 := by
          have : 9 + (i - 9) = i := by omega
          unfold gz_tm; simp [List.getD, this, hq]
        rw [e] at h3
        show _ = some (Value.ref (if i < 9 then _ else if i < 18 then K2 (i - 9) else _))
        rw [if_neg h, if_pos hlt]
        exact h3
  · refine ⟨fun ci q hq => hdd ci q hq, fun k q hq => ?_⟩
    have hk6 : k < 6 := (List.getElem?_eq_some_iff.mp hq).1
    match k, hq with
    | 0, hq => cases hq; exact ⟨arr a2 a3, a1⟩
    | 1, hq => cases hq; exact ⟨arr b2 b3, b1⟩
    | 2, hq => cases hq; exact ⟨arr d2 d3, k2, m2, d2, d3, d0, d1⟩
    | 3, hq => cases hq; exact ⟨arr e2 e3, k3, m3, e2, e3, e0, e1⟩
    | 4, hq => cases hq; exact ⟨arr f2 f3, f1⟩
    | 5, hq => cases hq; exact ⟨arr g2 g3, g1⟩
    | k + 6, hq => omega

