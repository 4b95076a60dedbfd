theorem dJ0_length_8abf5_0 : decode cJ0_length_8abf5 0 = .ok (.aload_n 0, 1) := by decide +kernel
theorem dJ0_length_8abf5_1 : decode cJ0_length_8abf5 1 = .ok (.getfield 9, 3) := by decide +kernel
theorem dJ0_length_8abf5_4 : decode cJ0_length_8abf5 4 = .ok (.arraylength, 1) := by decide +kernel
theorem dJ0_length_8abf5_5 : decode cJ0_length_8abf5 5 = .ok (.aload_n 0, 1) := by decide +kernel
theorem dJ0_length_8abf5_6 : decode cJ0_length_8abf5 6 = .ok (.invokevirtual 335, 3) := by decide +kernel
theorem dJ0_length_8abf5_9 : decode cJ0_length_8abf5 9 = .ok (.ishr, 1) := by decide +kernel
theorem dJ0_length_8abf5_10 : decode cJ0_length_8abf5 10 = .ok (.ireturn, 1) := by decide +kernel
theorem yl_J0_length_8abf5 : gz_yl yJ0_length_8abf5 cJ0_length_8abf5 1 (some .int) 0 := ⟨List.mem_of_getElem? (i := 606) (by decide +kernel), List.mem_of_getElem? (i := 83) (by decide +kernel), by decide +kernel, by decide +kernel⟩
theorem yv_J0_length_8abf5 : Cond.instanceMethod yJ0_length_8abf5 ∈ lw_tbl ∧ Cond.selects yJ0_length_8abf5.cls yJ0_length_8abf5 yJ0_length_8abf5 ∈ lw_tbl := ⟨List.mem_of_getElem? (i := 604) (by decide +kernel), List.mem_of_getElem? (i := 605) (by decide +kernel)⟩
theorem dJ0_charAt_5068e_0 : decode cJ0_charAt_5068e 0 = .ok (.aload_n 0, 1) := by decide +kernel
theorem dJ0_charAt_5068e_1 : decode cJ0_charAt_5068e 1 = .ok (.invokevirtual 492, 3) := by decide +kernel
theorem dJ0_charAt_5068e_4 : decode cJ0_charAt_5068e 4 = .ok (.ifCond .eq 12, 3) := by decide +kernel
theorem dJ0_charAt_5068e_7 : decode cJ0_charAt_5068e 7 = .ok (.aload_n 0, 1) := by decide +kernel
theorem dJ0_charAt_5068e_8 : decode cJ0_charAt_5068e 8 = .ok (.getfield 9, 3) := by decide +kernel
theorem dJ0_charAt_5068e_11 : decode cJ0_charAt_5068e 11 = .ok (.iload_n 1, 1) := by decide +kernel
theorem dJ0_charAt_5068e_12 : decode cJ0_charAt_5068e 12 = .ok (.invokestatic 495, 3) := by decide +kernel
theorem dJ0_charAt_5068e_15 : decode cJ0_charAt_5068e 15 = .ok (.ireturn, 1) := by decide +kernel
theorem dJ0_charAt_5068e_16 : decode cJ0_charAt_5068e 16 = .ok (.aload_n 0, 1) := by decide +kernel
theorem dJ0_charAt_5068e_17 : decode cJ0_charAt_5068e 17 = .ok (.getfield 9, 3) := by decide +kernel
theorem dJ0_charAt_5068e_20 : decode cJ0_charAt_5068e 20 = .ok (.iload_n 1, 1) := by decide +kernel
theorem dJ0_charAt_5068e_21 : decode cJ0_charAt_5068e 21 = .ok (.invokestatic 498, 3) := by decide +kernel
theorem dJ0_charAt_5068e_24 : decode cJ0_charAt_5068e 24 = .ok (.ireturn, 1) := by decide +kernel
theorem yl_J0_charAt_5068e : gz_yl yJ0_charAt_5068e cJ0_charAt_5068e 2 (some .char) 1 := ⟨List.mem_of_getElem? (i := 616) (by decide +kernel), List.mem_of_getElem? (i := 83) (by decide +kernel), by decide +kernel, by decide +kernel⟩
theorem yv_J0_charAt_5068e : Cond.instanceMethod yJ0_charAt_5068e ∈ lw_tbl ∧ Cond.selects yJ0_charAt_5068e.cls yJ0_charAt_5068e yJ0_charAt_5068e ∈ lw_tbl := ⟨List.mem_of_getElem? (i := 614) (by decide +kernel), List.mem_of_getElem? (i := 615) (by decide +kernel)⟩
theorem dJ0_coder_7d493_0 : decode cJ0_coder_7d493 0 = .ok (.getstatic 38, 3) := by decide +kernel
theorem dJ0_coder_7d493_3 : decode cJ0_coder_7d493 3 = .ok (.ifCond .eq 10, 3) := by decide +kernel
theorem dJ0_coder_7d493_6 : decode cJ0_coder_7d493 6 = .ok (.aload_n 0, 1) := by decide +kernel
theorem dJ0_coder_7d493_7 : decode cJ0_coder_7d493 7 = .ok (.getfield 15, 3) := by decide +kernel
theorem dJ0_coder_7d493_10 : decode cJ0_coder_7d493 10 = .ok (.goto 4, 3) := by decide +kernel
theorem dJ0_coder_7d493_13 : decode cJ0_coder_7d493 13 = .ok (.iconst 1, 1) := by decide +kernel
theorem dJ0_coder_7d493_14 : decode cJ0_coder_7d493 14 = .ok (.ireturn, 1) := by decide +kernel
theorem yl_J0_coder_7d493 : gz_yl yJ0_coder_7d493 cJ0_coder_7d493 1 (some .byte) 0 := ⟨List.mem_of_getElem? (i := 610) (by decide +kernel), List.mem_of_getElem? (i := 83) (by decide +kernel), by decide +kernel, by decide +kernel⟩
theorem yv_J0_coder_7d493 : Cond.instanceMethod yJ0_coder_7d493 ∈ lw_tbl ∧ Cond.selects yJ0_coder_7d493.cls yJ0_coder_7d493 yJ0_coder_7d493 ∈ lw_tbl := ⟨List.mem_of_getElem? (i := 608) (by decide +kernel), List.mem_of_getElem? (i := 609) (by decide +kernel)⟩
theorem dJ0_isLatin1_aae02_0 : decode cJ0_isLatin1_aae02 0 = .ok (.getstatic 38, 3) := by decide +kernel
theorem dJ0_isLatin1_aae02_3 : decode cJ0_isLatin1_aae02 3 = .ok (.ifCond .eq 14, 3) := by decide +kernel
theorem dJ0_isLatin1_aae02_6 : decode cJ0_isLatin1_aae02 6 = .ok (.aload_n 0, 1) := by decide +kernel
theorem dJ0_isLatin1_aae02_7 : decode cJ0_isLatin1_aae02 7 = .ok (.getfield 15, 3) := by decide +kernel
theorem dJ0_isLatin1_aae02_10 : decode cJ0_isLatin1_aae02 10 = .ok (.ifCond .ne 7, 3) := by decide +kernel
theorem dJ0_isLatin1_aae02_13 : decode cJ0_isLatin1_aae02 13 = .ok (.iconst 1, 1) := by decide +kernel
theorem dJ0_isLatin1_aae02_14 : decode cJ0_isLatin1_aae02 14 = .ok (.goto 4, 3) := by decide +kernel
theorem dJ0_isLatin1_aae02_17 : decode cJ0_isLatin1_aae02 17 = .ok (.iconst 0, 1) := by decide +kernel
theorem dJ0_isLatin1_aae02_18 : decode cJ0_isLatin1_aae02 18 = .ok (.ireturn, 1) := by decide +kernel
theorem yl_J0_isLatin1_aae02 : gz_yl yJ0_isLatin1_aae02 cJ0_isLatin1_aae02 1 (some .boolean) 0 := ⟨List.mem_of_getElem? (i := 620) (by decide +kernel), List.mem_of_getElem? (i := 83) (by decide +kernel), by decide +kernel, by decide +kernel⟩
theorem yv_J0_isLatin1_aae02 : Cond.instanceMethod yJ0_isLatin1_aae02 ∈ lw_tbl ∧ Cond.selects yJ0_isLatin1_aae02.cls yJ0_isLatin1_aae02 yJ0_isLatin1_aae02 ∈ lw_tbl := ⟨List.mem_of_getElem? (i := 618) (by decide +kernel), List.mem_of_getElem? (i := 619) (by decide +kernel)⟩
theorem dJ1_charAt_3b067_0 : decode cJ1_charAt_3b067 0 = .ok (.iload_n 1, 1) := by decide +kernel
theorem dJ1_charAt_3b067_1 : decode cJ1_charAt_3b067 1 = .ok (.aload_n 0, 1) := by decide +kernel
theorem dJ1_charAt_3b067_2 : decode cJ1_charAt_3b067 2 = .ok (.arraylength, 1) := by decide +kernel
theorem dJ1_charAt_3b067_3 : decode cJ1_charAt_3b067 3 = .ok (.invokestatic 9, 3) := by decide +kernel
theorem dJ1_charAt_3b067_6 : decode cJ1_charAt_3b067 6 = .ok (.aload_n 0, 1) := by decide +kernel
theorem dJ1_charAt_3b067_7 : decode cJ1_charAt_3b067 7 = .ok (.iload_n 1, 1) := by decide +kernel
theorem dJ1_charAt_3b067_8 : decode cJ1_charAt_3b067 8 = .ok (.baload, 1) := by decide +kernel
theorem dJ1_charAt_3b067_9 : decode cJ1_charAt_3b067 9 = .ok (.sipush 255, 3) := by decide +kernel
theorem dJ1_charAt_3b067_12 : decode cJ1_charAt_3b067 12 = .ok (.iand, 1) := by decide +kernel
theorem dJ1_charAt_3b067_13 : decode cJ1_charAt_3b067 13 = .ok (.i2c, 1) := by decide +kernel
theorem dJ1_charAt_3b067_14 : decode cJ1_charAt_3b067 14 = .ok (.ireturn, 1) := by decide +kernel
theorem yl_J1_charAt_3b067 : gz_yl yJ1_charAt_3b067 cJ1_charAt_3b067 2 (some .char) 2 := ⟨List.mem_of_getElem? (i := 623) (by decide +kernel), List.mem_of_getElem? (i := 84) (by decide +kernel), by decide +kernel, by decide +kernel⟩
theorem yv_J1_charAt_3b067 : Cond.static yJ1_charAt_3b067 ∈ lw_tbl := List.mem_of_getElem? (i := 622) (by decide +kernel)
theorem dJ0_checkIndex_df160_0 : decode cJ0_checkIndex_df160 0 = .ok (.iload_n 0, 1) := by decide +kernel
theorem dJ0_checkIndex_df160_1 : decode cJ0_checkIndex_df160 1 = .ok (.iload_n 1, 1) := by decide +kernel
theorem dJ0_checkIndex_df160_2 : decode cJ0_checkIndex_df160 2 = .ok (.getstatic 1053, 3) := by decide +kernel
theorem dJ0_checkIndex_df160_5 : decode cJ0_checkIndex_df160 5 = .ok (.invokestatic 1059, 3) := by decide +kernel
theorem dJ0_checkIndex_df160_8 : decode cJ0_checkIndex_df160 8 = .ok (.pop, 1) := by decide +kernel
theorem dJ0_checkIndex_df160_9 : decode cJ0_checkIndex_df160 9 = .ok (.return_, 1) := by decide +kernel
theorem yl_J0_checkIndex_df160 : gz_yl yJ0_checkIndex_df160 cJ0_checkIndex_df160 2 none 2 := ⟨List.mem_of_getElem? (i := 626) (by decide +kernel), List.mem_of_getElem? (i := 83) (by decide +kernel), by decide +kernel, by decide +kernel⟩
theorem yv_J0_checkIndex_df160 : Cond.static yJ0_checkIndex_df160 ∈ lw_tbl := List.mem_of_getElem? (i := 625) (by decide +kernel)
theorem dJ3_checkIndex_8e157_0 : decode cJ3_checkIndex_8e157 0 = .ok (.iload_n 0, 1) := by decide +kernel
theorem dJ3_checkIndex_8e157_1 : decode cJ3_checkIndex_8e157 1 = .ok (.ifCond .lt 8, 3) := by decide +kernel
theorem dJ3_checkIndex_8e157_4 : decode cJ3_checkIndex_8e157 4 = .ok (.iload_n 0, 1) := by decide +kernel
theorem dJ3_checkIndex_8e157_5 : decode cJ3_checkIndex_8e157 5 = .ok (.iload_n 1, 1) := by decide +kernel
theorem dJ3_checkIndex_8e157_6 : decode cJ3_checkIndex_8e157 6 = .ok (.if_icmp .lt 10, 3) := by decide +kernel
theorem dJ3_checkIndex_8e157_9 : decode cJ3_checkIndex_8e157 9 = .ok (.aload_n 2, 1) := by decide +kernel
theorem dJ3_checkIndex_8e157_10 : decode cJ3_checkIndex_8e157 10 = .ok (.iload_n 0, 1) := by decide +kernel
theorem dJ3_checkIndex_8e157_11 : decode cJ3_checkIndex_8e157 11 = .ok (.iload_n 1, 1) := by decide +kernel
theorem dJ3_checkIndex_8e157_12 : decode cJ3_checkIndex_8e157 12 = .ok (.invokestatic 95, 3) := by decide +kernel
theorem dJ3_checkIndex_8e157_15 : decode cJ3_checkIndex_8e157 15 = .ok (.athrow, 1) := by decide +kernel
theorem dJ3_checkIndex_8e157_16 : decode cJ3_checkIndex_8e157 16 = .ok (.iload_n 0, 1) := by decide +kernel
theorem dJ3_checkIndex_8e157_17 : decode cJ3_checkIndex_8e157 17 = .ok (.ireturn, 1) := by decide +kernel
theorem yl_J3_checkIndex_8e157 : gz_yl yJ3_checkIndex_8e157 cJ3_checkIndex_8e157 3 (some .int) 3 := ⟨List.mem_of_getElem? (i := 631) (by decide +kernel), List.mem_of_getElem? (i := 85) (by decide +kernel), by decide +kernel, by decide +kernel⟩
theorem yv_J3_checkIndex_8e157 : Cond.static yJ3_checkIndex_8e157 ∈ lw_tbl := List.mem_of_getElem? (i := 630) (by decide +kernel)
theorem q_1553 : Cond.fieldLink RJ0 9 "java/lang/String" "value" "[B" ∈ lw_tbl := List.mem_of_getElem? (i := 1553) (by decide +kernel)
theorem q_1554 : Cond.fieldLink RJ0 15 "java/lang/String" "coder" "B" ∈ lw_tbl := List.mem_of_getElem? (i := 1554) (by decide +kernel)
theorem q_611 : Cond.fieldLink RJ0 38 "java/lang/String" "COMPACT_STRINGS" "Z" ∈ lw_tbl := List.mem_of_getElem? (i := 611) (by decide +kernel)
theorem q_627 : Cond.fieldLink RJ0 1053 "jdk/internal/util/Preconditions" "SIOOBE_FORMATTER" "Ljava/util/function/BiFunction;" ∈ lw_tbl := List.mem_of_getElem? (i := 627) (by decide +kernel)
theorem q_607 : Cond.methodLink RJ0 335 yJ0_coder_7d493 ∈ lw_tbl := List.mem_of_getElem? (i := 607) (by decide +kernel)
theorem q_617 : Cond.methodLink RJ0 492 yJ0_isLatin1_aae02 ∈ lw_tbl := List.mem_of_getElem? (i := 617) (by decide +kernel)
theorem q_621 : Cond.methodLink RJ0 495 yJ1_charAt_3b067 ∈ lw_tbl := List.mem_of_getElem? (i := 621) (by decide +kernel)
theorem q_624 : Cond.methodLink RJ1 9 yJ0_checkIndex_df160 ∈ lw_tbl := List.mem_of_getElem? (i := 624) (by decide +kernel)
theorem q_629 : Cond.methodLink RJ0 1059 yJ3_checkIndex_8e157 ∈ lw_tbl := List.mem_of_getElem? (i := 629) (by decide +kernel)

def gz_sl (i : Nat) : Option Int32 := if i < 18 then some (Int32.ofNat (gz_le i)) else none
def gz_sc (i : Nat) (x : Int32) : Option Int32 := if i < 18 ∧ ¬ (x < 0 ∨ gz_le i ≤ x.toNatClampNeg) then some (gz_by i x.toNatClampNeg) else none
theorem gz_le_5 : ∀ i, i < 18 → gz_le i < 6 ∧ Int32.ofNat (gz_le i) >>> ((0 : Int32) &&& 31) = Int32.ofNat (gz_le i) := by decide
theorem gz_by_ok : ∀ i, i < 18 → ∀ j, j < 6 → ((gz_by i j &&& 255).toUInt32 % 65536).toInt32 = gz_by i j ∧ narrow .char (.int (gz_by i j)) = .int (gz_by i j) := by decide
section SR
variable {C : gz_C} {cc : ByteArray} {own : String} {nL cs sl : Nat} {M : gz_M} {lv : List (Nat × Value)} {st : List Value} {α ρ : Type} {y : α}
variable {fr lo mc0 ms0 : Nat} {ret0 : Option FieldType} {v0 : Option Value} {M0 : gz_M} {nm : String} {ym : MethodName} {bytes : ByteArray} {maxL n fr' lo' idx i : Nat} {ret : Option FieldType} {stk : List Value}
theorem gz_i2c (pc : Nat) (hC : gz_ok C cc own nL) {x : Int32} (hd : decode cc pc = .ok (.i2c, 1)) (k : gz_go C cs sl M lv (pc + 1) (.int (x.toUInt32 % 65536).toInt32 :: st)) : gz_go C cs sl M lv pc (.int x :: st) := fun H locs ls hM hS hl => lv_i2c hC.1 hC.2.1 hd rfl (k H locs ls hM hS hl)
theorem gz_ldcw (pc : Nat) (hC : gz_ok C cc own nL) {i : Nat} {v : Int32} (hd : decode cc pc = .ok (.ldc_w i, 3)) (hw : Cond.constant own i v ∈ lw_tbl) (k : gz_go C cs sl M lv (pc + 3) (.int v :: st)) : gz_go C cs sl M lv pc st := fun H locs ls hM hS hl => lv_ldcw hC.1 hC.2.1 hC.2.2.2.1 (gz_wd hC hw rfl) hd (k H locs ls hM hS hl)
theorem gz_ldcs (pc : Nat) (hC : gz_ok C cc own nL) {tx : String} (i : Nat) (hq : gz_sw[i]? = some (own, idx, tx)) (hd : decode cc pc = .ok (.ldc idx, 2)) (k : gz_go C cs sl M lv (pc + 2) (.ref (C.2.2.2.2.2.2.2 i) :: st)) : gz_go C cs sl M lv pc st := fun H locs ls hM hS hl => va_ldcS hC.1 hC.2.1 hC.2.2.2.1 (hC.2.2.2.2.1.1.2.2.2.2 i _ hq) hd (k H locs ls hM hS hl)
theorem gz_svl (pc : Nat) (hC : gz_ok C cc own nL) (hi : i < 18) (hw : Cond.fieldLink own idx "java/lang/String" "value" "[B" ∈ lw_tbl) (hd : decode cc pc = .ok (.getfield idx, 3)) (k : gz_go C cs sl M lv (pc + 3) (.ref (C.2.2.2.2.2.2.2 (18 + i)) :: st)) : gz_go C cs sl M lv pc (.ref (C.2.2.2.2.2.2.2 i) :: st) := fun H locs ls hM hS hl => vk_getf hC.1 hC.2.1 (hC.2.2.2.2.1.1.2.1 i hi).2.2.1 hS hC.2.2.2.1 (gz_wd hC hw rfl) (fun _ h => h) hd (k H locs ls hM hS hl)
theorem gz_sco (pc : Nat) (hC : gz_ok C cc own nL) (hi : i < 18) (hw : Cond.fieldLink own idx "java/lang/String" "coder" "B" ∈ lw_tbl) (hd : decode cc pc = .ok (.getfield idx, 3)) (k : gz_go C cs sl M lv (pc + 3) (.int 0 :: st)) : gz_go C cs sl M lv pc (.ref (C.2.2.2.2.2.2.2 i) :: st) := fun H locs ls hM hS hl => vk_getf hC.1 hC.2.1 (hC.2.2.2.2.1.1.2.1 i hi).2.1 hS hC.2.2.2.1 (gz_wd hC hw rfl) (fun _ h => h) hd (k H locs ls hM hS hl)
theorem gz_scs (pc : Nat) (hC : gz_ok C cc own nL) (hw : Cond.fieldLink own idx "java/lang/String" "COMPACT_STRINGS" "Z" ∈ lw_tbl) (hd : decode cc pc = .ok (.getstatic idx, 3)) (k : gz_go C cs sl M lv (pc + 3) (.int 1 :: st)) : gz_go C cs sl M lv pc st := fun H locs ls hM hS hl => va_gets hC.1 hC.2.1 hC.2.2.2.2.1.1.2.2.1 hS hC.2.2.2.1 (gz_wd hC hw rfl) (fun _ h => h) hd (k H locs ls hM hS hl)
theorem gz_sfm (pc : Nat) (hC : gz_ok C cc own nL) (hw : Cond.fieldLink own idx "jdk/internal/util/Preconditions" "SIOOBE_FORMATTER" "Ljava/util/function/BiFunction;" ∈ lw_tbl) (hd : decode cc pc = .ok (.getstatic idx, 3)) (k : ∀ v : Value, v.category = 1 → gz_go C cs sl M lv (pc + 3) (v :: st)) : gz_go C cs sl M lv pc st := fun H locs ls hM hS hl => by
  rcases hC.2.2.2.2.1.1.2.2.2.1 with h | ⟨t, h⟩
  · exact va_gets hC.1 hC.2.1 h hS hC.2.2.2.1 (gz_wd hC hw rfl) (fun _ h => h) hd (k .null rfl H locs ls hM hS hl)
  · exact va_gets hC.1 hC.2.1 h hS hC.2.2.2.1 (gz_wd hC hw rfl) (fun _ h => h) hd (k (.ref t) rfl H locs ls hM hS hl)
theorem gz_sal (pc : Nat) (hC : gz_ok C cc own nL) (hi : i < 18) (hd : decode cc pc = .ok (.arraylength, 1)) (k : gz_go C cs sl M lv (pc + 1) (.int (Int32.ofNat (gz_le i)) :: st)) : gz_go C cs sl M lv pc (.ref (C.2.2.2.2.2.2.2 (18 + i)) :: st) := fun H locs ls hM hS hl => va_tlen hC.1 hC.2.1 (hC.2.2.2.2.1.1.2.1 i hi).2.2.2 hS rfl hd (k H locs ls hM hS hl)
theorem gz_sbl (pc : Nat) (hC : gz_ok C cc own nL) (hi : i < 18) {x : Int32} (hx : vp_in x (gz_le i)) (hd : decode cc pc = .ok (.baload, 1)) (k : gz_go C cs sl M lv (pc + 1) (.int (gz_by i x.toNatClampNeg) :: st)) : gz_go C cs sl M lv pc (.int x :: .ref (C.2.2.2.2.2.2.2 (18 + i)) :: st) := fun H locs ls hM hS hl => va_tb hC.1 hC.2.1 (hC.2.2.2.2.1.1.2.1 i hi).2.2.2 hS hx rfl hd (k H locs ls hM hS hl)
theorem gz_nret0 (pc : Nat) (hC : gz_ok C cc own nL) {ty : FieldType} {r : Int32} {mc ms : Nat} (hz : narrow ty (.int r) = .int r) (hX : gz_cx C fr lo mc ms (some ty) (some (.int r)) M nm) (hd : decode cc pc = .ok (.ireturn, 1)) : gz_go C mc ms M lv pc [.int r] := by
  intro H locs ls hM hS hl
  rw [hX.2.1]
  exact W.zret hC.1 hC.2.1 hX.2.2.1 hz (fun t ht hW => ⟨rfl, by rw [ht]; exact hM, hS.F ht⟩) hS.2.2 hd hC.2.2.2.2.2
theorem gz_cvT (pc : Nat) (hC : gz_ok C cc own nL) (hX : gz_cx C fr lo mc0 ms0 ret0 v0 M0 nm) {v : Option Value} (av : List Value) (hy : gz_yl ym bytes maxL ret n) (hyv : Cond.instanceMethod ym ∈ lw_tbl ∧ Cond.selects ym.cls ym ym ∈ lw_tbl) (hcn : ym.cls = "java/lang/String") (hw : Cond.methodLink own idx ym ∈ lw_tbl) (hR : fr' + 1 ≤ fr ∧ 8 + (maxL + 11) + lo' ≤ lo) (hi : i < 18)
    (hct : gz_ct C.1.2.1 ym bytes maxL ret fr' lo' 0 0 C.2.2.2 (.ref (C.2.2.2.2.2.2.2 i) :: av) M v M) (hn : av.length = n) (hs : stk = av.reverse ++ .ref (C.2.2.2.2.2.2.2 i) :: st) (hst : (st.map fun v => v.category).sum ≤ 8) (hd : decode cc pc = .ok (.invokevirtual idx, 3)) (hf : cs ≤ mc0 ∧ sl ≤ ms0) (k : gz_go C cs sl M lv (pc + 3) (v.toList ++ st)) : gz_go C cs sl M lv pc stk := by
  intro H locs ls hM hS hl
  subst hs
  obtain ⟨cell, h1, h2, h3, -⟩ := (hC.2.2.2.2.1.1.2.1 i hi).1.kept hS.2.1
  exact gz_back (mc := 0) (ms := 0) (va_runV (As := av) (rest := st) (g := F0 C.2.1.1 pc ls (av.reverse ++ .ref (C.2.2.2.2.2.2.2 i) :: st)) (Ts := []) ⟨hC.1, hC.2.1, hC.2.2.1, hC.2.2.2.1, fun w h => by cases h⟩ hct ⟨gz_cb hC hX hy hw hR, gz_wd hC hyv.1 rfl, gz_wd hC hyv.2 rfl⟩ ⟨gz_blind, ⟨cell, h1, h2, by rw [hcn]; exact h3⟩, fun U hU hW => ⟨rfl, hC.2.2.2.2.1.warm hW (fun a h1 h2 => by rw [hU]; exact hS.2.1 a h1 h2), by rw [hU]; exact hM⟩⟩ rfl hn (hl.1.trans hC.2.2.1) rfl (lv_room hst) hd (by rw [hX.1]; exact hf)) hS hl k
end SR
theorem gz_ct.ofG {l : Launch} {ym : MethodName} {bytes : ByteArray} {maxL : Nat} {ret : Option FieldType} {fr lo mc ms : Nat} {G : gz_G} {av : List Value} {M : gz_M} {v : Option Value} {M' : gz_M} (hy : plainName ym.cls = true) (hmax : (lg_sl av).length ≤ maxL)
    (body : ∀ C : gz_C, C.2.2.2 = G → gz_ok C bytes ym.cls maxL → gz_cx C fr lo mc ms ret v M' ym.name → gz_go C 0 0 M (lv_args 0 av) 0 []) : gz_ct l ym bytes maxL ret fr lo mc ms G av M v M' := by
  refine Met.ofW (cc := bytes) (maxL := maxL) (ret := ret) hy rfl ?_
  intro p e s m args below meth c s₁ B hml hv
  obtain ⟨rfl, hE, hM⟩ := hv
  have hown : s.vm.findClass ym.cls = some m.cls := findClass_of_methodNamed B.named
  have hl := lv_entry av (n := maxL) hmax
  rw [lg_entry_eq]
  exact body ((p, l, e, { frames := fr, cells := mc, slots := ms, locals := lo }, s), (m, av.toArray, below, meth, c), MQ below (gz_Q G v M') av.toArray s mc ms (gz_A G), G) rfl ⟨B.exec, B.bytes, hml, hown, hE, B.notSynchronized⟩ ⟨rfl, rfl, B.returns, (name_of_methodNamed B.named B.method).1⟩ s.heap [] _ hM va_S.rf (by rw [hml]; exact hl)
theorem gz_00 : 0 ≤ 0 ∧ 0 ≤ 0 := ⟨Nat.le_refl 0, Nat.le_refl 0⟩
theorem ct_coder (l : Launch) (G : gz_G) (M : gz_M) (i : Nat) (hi : i < 18) : gz_ct l yJ0_coder_7d493 cJ0_coder_7d493 1 (some .byte) 0 0 0 0 G [.ref (G.2.2.2.2 i)] M (some (.int 0)) M := by
  refine gz_ct.ofG (by decide) (Nat.le_of_ble_eq_true rfl) (fun C hG hC hX => ?_)
  subst hG
  show gz_go C 0 0 M [(0, .ref (C.2.2.2.2.2.2.2 i))] 0 []
  refine gz_scs 0 hC q_611 dJ0_coder_7d493_0 ?_
  refine gz_if_eq 3 13 hC (A := none) (B := some ()) (y := ()) dJ0_coder_7d493_3 (by decide) (by decide) (fun hF => nomatch hF) (fun _ => ?_)
  refine gz_aload_n 6 hC 0 dJ0_coder_7d493_6 rfl rfl ?_
  refine gz_sco 7 hC hi q_1554 dJ0_coder_7d493_7 ?_
  refine gz_goto 10 14 hC dJ0_coder_7d493_10 (by decide) ?_
  exact gz_nret0 14 hC rfl hX dJ0_coder_7d493_14
theorem ct_isLatin1 (l : Launch) (G : gz_G) (M : gz_M) (i : Nat) (hi : i < 18) : gz_ct l yJ0_isLatin1_aae02 cJ0_isLatin1_aae02 1 (some .boolean) 0 0 0 0 G [.ref (G.2.2.2.2 i)] M (some (.int 1)) M := by
  refine gz_ct.ofG (by decide) (Nat.le_of_ble_eq_true rfl) (fun C hG hC hX => ?_)
  subst hG
  show gz_go C 0 0 M [(0, .ref (C.2.2.2.2.2.2.2 i))] 0 []
  refine gz_scs 0 hC q_611 dJ0_isLatin1_aae02_0 ?_
  refine gz_if_eq 3 17 hC (A := none) (B := some ()) (y := ()) dJ0_isLatin1_aae02_3 (by decide) (by decide) (fun hF => nomatch hF) (fun _ => ?_)
  refine gz_aload_n 6 hC 0 dJ0_isLatin1_aae02_6 rfl rfl ?_
  refine gz_sco 7 hC hi q_1554 dJ0_isLatin1_aae02_7 ?_
  refine gz_if_ne 10 17 hC (A := some ()) (B := none) (y := ()) dJ0_isLatin1_aae02_10 (by decide) (by decide) (fun hF => nomatch hF) (fun _ => ?_)
  refine gz_iconst 13 hC 1 dJ0_isLatin1_aae02_13 (by decide) ?_
  refine gz_goto 14 18 hC dJ0_isLatin1_aae02_14 (by decide) ?_
  exact gz_nret0 18 hC rfl hX dJ0_isLatin1_aae02_18
theorem ct_length (l : Launch) (G : gz_G) (M : gz_M) (i : Nat) (hi : i < 18) : gz_ct l yJ0_length_8abf5 cJ0_length_8abf5 1 (some .int) 1 20 0 0 G [.ref (G.2.2.2.2 i)] M (some (.int (Int32.ofNat (gz_le i)))) M := by
  refine gz_ct.ofG (by decide) (Nat.le_of_ble_eq_true rfl) (fun C hG hC hX => ?_)
  subst hG
  show gz_go C 0 0 M [(0, .ref (C.2.2.2.2.2.2.2 i))] 0 []
  refine gz_aload_n 0 hC 0 dJ0_length_8abf5_0 rfl rfl ?_
  refine gz_svl 1 hC hi q_1553 dJ0_length_8abf5_1 ?_
  refine gz_sal 4 hC hi dJ0_length_8abf5_4 ?_
  refine gz_aload_n 5 hC 0 dJ0_length_8abf5_5 rfl rfl ?_
  refine gz_cvT 6 (st := [.int (Int32.ofNat (gz_le i))]) hC hX [] yl_J0_coder_7d493 yv_J0_coder_7d493 rfl q_607 ⟨Nat.le_of_ble_eq_true rfl, Nat.le_of_ble_eq_true rfl⟩ hi (ct_coder _ _ M i hi) rfl rfl (Nat.le_of_ble_eq_true rfl) dJ0_length_8abf5_6 gz_00 ?_
  refine gz_ishr 9 hC dJ0_length_8abf5_9 ?_
  rw [(gz_le_5 i hi).2]
  exact gz_iret0 10 hC hX dJ0_length_8abf5_10
theorem ct_pchk (l : Launch) (G : gz_G) (M : gz_M) (x n : Int32) (v : Value) (hv : v.category = 1) (h1 : ¬ x < 0) (h2 : x < n) : gz_ct l yJ3_checkIndex_8e157 cJ3_checkIndex_8e157 3 (some .int) 0 0 0 0 G [.int x, .int n, v] M (some (.int x)) M := by
  refine gz_ct.of (by decide) (by cases v <;> first | exact Nat.le_of_ble_eq_true rfl | cases hv) (fun C hC hX => ?_)
  show gz_go C 0 0 M [(0, .int x), (1, .int n), (2, v)] 0 []
  refine gz_iload_n 0 hC 0 dJ3_checkIndex_8e157_0 rfl rfl ?_
  refine gz_if_lt 1 9 hC (A := none) (B := some ()) (y := ()) dJ3_checkIndex_8e157_1 (by decide) (if_neg h1) (fun hF => nomatch hF) (fun _ => ?_)
  refine gz_iload_n 4 hC 0 dJ3_checkIndex_8e157_4 rfl rfl ?_
  refine gz_iload_n 5 hC 1 dJ3_checkIndex_8e157_5 rfl rfl ?_
  refine gz_icmp_lt 6 16 hC (A := some ()) (B := none) (y := ()) dJ3_checkIndex_8e157_6 (by decide) (if_pos h2) (fun _ => ?_) (fun hF => nomatch hF)
  refine gz_iload_n 16 hC 0 dJ3_checkIndex_8e157_16 rfl rfl ?_
  exact gz_iret0 17 hC hX dJ3_checkIndex_8e157_17
theorem ct_schk (l : Launch) (G : gz_G) (M : gz_M) (x n : Int32) (h1 : ¬ x < 0) (h2 : x < n) : gz_ct l yJ0_checkIndex_df160 cJ0_checkIndex_df160 2 none 1 22 0 0 G [.int x, .int n] M none M := by
  refine gz_ct.of (by decide) (Nat.le_of_ble_eq_true rfl) (fun C hC hX => ?_)
  show gz_go C 0 0 M [(0, .int x), (1, .int n)] 0 []
  refine gz_iload_n 0 hC 0 dJ0_checkIndex_df160_0 rfl rfl ?_
  refine gz_iload_n 1 hC 1 dJ0_checkIndex_df160_1 rfl rfl ?_
  refine gz_sfm 2 hC q_627 dJ0_checkIndex_df160_2 (fun v hv => ?_)
  refine gz_cs 5 (st := []) hC hX [.int x, .int n, v] yl_J3_checkIndex_8e157 yv_J3_checkIndex_8e157 q_629 ⟨Nat.le_of_ble_eq_true rfl, Nat.le_of_ble_eq_true rfl⟩ (ct_pchk _ _ M x n v hv h1 h2) rfl rfl (Nat.le_of_ble_eq_true rfl) dJ0_checkIndex_df160_5 gz_00 ?_
  refine gz_pop 8 hC dJ0_checkIndex_df160_8 rfl ?_
  exact gz_vret0 9 hC hX dJ0_checkIndex_df160_9
theorem gz_lt_of {i : Nat} {x : Int32} (hi : i < 18) (hx : vp_in x (gz_le i)) : x < Int32.ofNat (gz_le i) ∧ ¬ x < 0 ∧ x.toNatClampNeg < 6 := by
  have h5 := (gz_le_5 i hi).1
  have h0 : ¬ x < 0 := fun q => hx (Or.inl q)
  have h1 : x.toNatClampNeg < gz_le i := Nat.not_le.mp fun q => hx (Or.inr q)
  refine ⟨?_, h0, by omega⟩
  rw [Int32.lt_iff_toInt_lt, gz_nn0 x h0]
  have : (Int32.ofNat (gz_le i)).toInt = (gz_le i : Int) := Int32.toInt_ofNat_of_lt (by omega)
  rw [this]
  omega
theorem ct_latin (l : Launch) (G : gz_G) (M : gz_M) (i : Nat) (hi : i < 18) (x : Int32) (hx : vp_in x (gz_le i)) : gz_ct l yJ1_charAt_3b067 cJ1_charAt_3b067 2 (some .char) 2 43 0 0 G [.ref (G.2.2.2.2 (18 + i)), .int x] M (some (.int (gz_by i x.toNatClampNeg))) M := by
  obtain ⟨g1, g2, g3⟩ := gz_lt_of hi hx
  refine gz_ct.ofG (by decide) (Nat.le_of_ble_eq_true rfl) (fun C hG hC hX => ?_)
  subst hG
  show gz_go C 0 0 M [(0, .ref (C.2.2.2.2.2.2.2 (18 + i))), (1, .int x)] 0 []
  refine gz_iload_n 0 hC 1 dJ1_charAt_3b067_0 rfl rfl ?_
  refine gz_aload_n 1 hC 0 dJ1_charAt_3b067_1 rfl rfl ?_
  refine gz_sal 2 hC hi dJ1_charAt_3b067_2 ?_
  refine gz_cs 3 (st := []) hC hX [.int x, .int (Int32.ofNat (gz_le i))] yl_J0_checkIndex_df160 yv_J0_checkIndex_df160 q_624 ⟨Nat.le_of_ble_eq_true rfl, Nat.le_of_ble_eq_true rfl⟩ (ct_schk _ _ M x _ g2 g1) rfl rfl (Nat.le_of_ble_eq_true rfl) dJ1_charAt_3b067_3 gz_00 ?_
  refine gz_aload_n 6 hC 0 dJ1_charAt_3b067_6 rfl rfl ?_
  refine gz_iload_n 7 hC 1 dJ1_charAt_3b067_7 rfl rfl ?_
  refine gz_sbl 8 hC hi hx dJ1_charAt_3b067_8 ?_
  refine gz_sipush 9 hC 255 dJ1_charAt_3b067_9 (by decide) ?_
  refine gz_iand 12 hC dJ1_charAt_3b067_12 ?_
  refine gz_i2c 13 hC dJ1_charAt_3b067_13 ?_
  obtain ⟨b1, b2⟩ := gz_by_ok i hi _ g3
  rw [b1]
  exact gz_nret0 14 hC b2 hX dJ1_charAt_3b067_14
theorem ct_charAt (l : Launch) (G : gz_G) (M : gz_M) (i : Nat) (hi : i < 18) (x : Int32) (hx : vp_in x (gz_le i)) : gz_ct l yJ0_charAt_5068e cJ0_charAt_5068e 2 (some .char) 3 64 0 0 G [.ref (G.2.2.2.2 i), .int x] M (some (.int (gz_by i x.toNatClampNeg))) M := by
  obtain ⟨g1, g2, g3⟩ := gz_lt_of hi hx
  refine gz_ct.ofG (by decide) (Nat.le_of_ble_eq_true rfl) (fun C hG hC hX => ?_)
  subst hG
  show gz_go C 0 0 M [(0, .ref (C.2.2.2.2.2.2.2 i)), (1, .int x)] 0 []
  refine gz_aload_n 0 hC 0 dJ0_charAt_5068e_0 rfl rfl ?_
  refine gz_cvT 1 (st := []) hC hX [] yl_J0_isLatin1_aae02 yv_J0_isLatin1_aae02 rfl q_617 ⟨Nat.le_of_ble_eq_true rfl, Nat.le_of_ble_eq_true rfl⟩ hi (ct_isLatin1 _ _ M i hi) rfl rfl (Nat.le_of_ble_eq_true rfl) dJ0_charAt_5068e_1 gz_00 ?_
  refine gz_if_eq 4 16 hC (A := none) (B := some ()) (y := ()) dJ0_charAt_5068e_4 (by decide) (by decide) (fun hF => nomatch hF) (fun _ => ?_)
  refine gz_aload_n 7 hC 0 dJ0_charAt_5068e_7 rfl rfl ?_
  refine gz_svl 8 hC hi q_1553 dJ0_charAt_5068e_8 ?_
  refine gz_iload_n 11 hC 1 dJ0_charAt_5068e_11 rfl rfl ?_
  refine gz_cs 12 (st := []) hC hX [.ref (C.2.2.2.2.2.2.2 (18 + i)), .int x] yl_J1_charAt_3b067 yv_J1_charAt_3b067 q_621 ⟨Nat.le_of_ble_eq_true rfl, Nat.le_of_ble_eq_true rfl⟩ (ct_latin _ _ M i hi x hx) rfl rfl (Nat.le_of_ble_eq_true rfl) dJ0_charAt_5068e_12 gz_00 ?_
  exact gz_nret0 15 hC (gz_by_ok i hi _ g3).2 hX dJ0_charAt_5068e_15
section SQ
variable {C : gz_C} {cc : ByteArray} {own : String} {nL cs sl : Nat} {M : gz_M} {lv : List (Nat × Value)} {st : List Value} {α : Type} {y : α}
variable {fr lo mc0 ms0 : Nat} {ret0 : Option FieldType} {v0 : Option Value} {M0 : gz_M} {nm : String} {idx i : Nat}
theorem gz_sl_row (pc : Nat) (hC : gz_ok C cc own nL) (hX : gz_cx C fr lo mc0 ms0 ret0 v0 M0 nm) {f : Int32 → Option α} (hw : Cond.methodLink own idx yJ0_length_8abf5 ∈ lw_tbl) (hR : 2 ≤ fr ∧ 40 ≤ lo) (hst : (st.map fun v => v.category).sum ≤ 8) (hd : decode cc pc = .ok (.invokevirtual idx, 3)) (hf : cs ≤ mc0 ∧ sl ≤ ms0) (hF : (gz_sl i).bind f = some y) (k : ∀ x, f x = some y → gz_go C cs sl M lv (pc + 3) (.int x :: st)) : gz_go C cs sl M lv pc (.ref (C.2.2.2.2.2.2.2 i) :: st) := by
  obtain ⟨x, hx, hf1⟩ := gz_b_some hF
  obtain ⟨hi, h2⟩ := gz_if_some hx
  cases h2
  exact gz_cvT pc (st := st) hC hX [] yl_J0_length_8abf5 yv_J0_length_8abf5 rfl hw hR hi (ct_length _ _ M i hi) rfl rfl hst hd hf (k _ hf1)
theorem gz_sc_row (pc : Nat) (hC : gz_ok C cc own nL) (hX : gz_cx C fr lo mc0 ms0 ret0 v0 M0 nm) {f : Int32 → Option α} {x : Int32} (hw : Cond.methodLink own idx yJ0_charAt_5068e ∈ lw_tbl) (hR : 4 ≤ fr ∧ 85 ≤ lo) (hst : (st.map fun v => v.category).sum ≤ 8) (hd : decode cc pc = .ok (.invokevirtual idx, 3)) (hf : cs ≤ mc0 ∧ sl ≤ ms0) (hF : (gz_sc i x).bind f = some y) (k : ∀ x, f x = some y → gz_go C cs sl M lv (pc + 3) (.int x :: st)) : gz_go C cs sl M lv pc (.int x :: .ref (C.2.2.2.2.2.2.2 i) :: st) := by
  obtain ⟨z, hx, hf1⟩ := gz_b_some hF
  obtain ⟨⟨hi, h3⟩, h2⟩ := gz_if_some hx
  cases h2
  exact gz_cvT pc (st := st) hC hX [.int x] yl_J0_charAt_5068e yv_J0_charAt_5068e rfl hw hR hi (ct_charAt _ _ M i hi x h3) rfl rfl hst hd hf (k _ hf1)
end SQ

