theorem gz_lk_x : Cond.classLink RL 7 RX9 ∈ lw_tbl := List.mem_of_getElem? (i := 89) (by decide +kernel)
theorem gz_ln_x : Cond.initialized RX9 ∈ lw_tbl := List.mem_of_getElem? (i := 70) (by decide +kernel)
theorem gz_lk_m : Cond.classLink RL 10 RX10 ∈ lw_tbl := List.mem_of_getElem? (i := 1066) (by decide +kernel)
theorem gz_ln_m : Cond.initialized RX10 ∈ lw_tbl := List.mem_of_getElem? (i := 80) (by decide +kernel)
theorem gz_lm_x : Cond.methodLink RL 9 yX9_init ∈ lw_tbl := List.mem_of_getElem? (i := 91) (by decide +kernel)
theorem gz_lm_m : Cond.methodLink RL 12 yX10_init ∈ lw_tbl := List.mem_of_getElem? (i := 1068) (by decide +kernel)
theorem gz_yx : gz_yl yX9_init cX9_init 2 none 0 := ⟨List.mem_of_getElem? (i := 93) (by decide +kernel), List.mem_of_getElem? (i := 70) (by decide +kernel), by decide +kernel, by decide +kernel⟩
theorem gz_yxi : yX9_init.name = "<init>" ∧ Cond.instanceMethod yX9_init ∈ lw_tbl := ⟨rfl, List.mem_of_getElem? (i := 92) (by decide +kernel)⟩
theorem law_begin (IVb : Nat → gz_M → Prop) (fu : Nat) (hinit : ∀ b0 : Nat, ∃ M2 M4, f_X9_init fu (gz_nw (gz_m0 b0) 9) b0 = some M2 ∧ M2.1 = b0 + 110 ∧ f_X10_init fu (gz_nw M2 10) (b0 + 110) = some M4 ∧ IVb b0 M4) (hops : ∀ b0 : Nat, gz_OPS (IVb b0) fu b0 (b0 + 110))
    {p : Program} {e : Env} {s : State} {m : MethodId} {below : List Frame} {meth : Method} {c : Code} (l : Launch) {b L : Nat} {xs : Nat → Int32} (hL : L ≤ 384) (C0 : lw_At p s m meth c b L xs) : W p l e room_1 s m #[Value.ref b] below meth c s.heap [] 0 0 (lw_Z below #[Value.ref b] s) (entryFrame m ([Value.ref b] : List Value).toArray 4) := by
  obtain ⟨G, hG1, hG2, hE⟩ := gz_E0 C0
  obtain ⟨hx, hb, hr, hml, hown, hts, hXs, hbl, hlocks, hgv⟩ := C0
  obtain ⟨M2, M4, i1, i2, i3, hI⟩ := hinit s.heap.size
  obtain ⟨C, hCe⟩ : ∃ C : gz_C, C = ((p, l, e, room_1, s), (m, #[Value.ref b], below, meth, c), lw_Z below #[Value.ref b] s, G) := ⟨_, rfl⟩
  have hC : gz_ok C code RL 4 := by subst hCe; exact ⟨hx, hb, hml, hown, hE, hlocks⟩
  have hR0 : gz_cy C 12 440 600000 7302250 := by subst hCe; exact ⟨rfl, trivial⟩
  have hXs' : va_X b L xs C.1.2.2.2.2 C.1.2.2.2.2.heap := by subst hCe; exact hXs
  have hbl' : b < C.1.2.2.2.2.heap.size := by subst hCe; exact hbl
  have hbA : ¬ gz_A C.2.2.2 b := by subst hCe; show ¬ G.2.2.1 ≤ b; rw [hG1]; omega
  have hend : ∀ (cs sl : Nat) (M : gz_M) (lv : List (Nat × Value)), cs ≤ 600000 → sl ≤ 7302250 → gz_go C cs sl M lv 1867 [] := by
    intro cs sl M lv h1 h2
    refine gz_iconst 1867 hC (1 : Int32) dL_law_1867 (by decide) ?_
    subst hCe
    intro H locs ls hM hS hl
    refine va_forget (fun q hq => by have := hS.2.2 q hq; have : G.2.2.1 ≤ q.base := this; rw [hG1] at this; exact this) ?_
    exact W.widen h1 h2 (lw_ret hx hb hr hlocks dL_law_1868)
  have hgo : gz_go C 0 0 (gz_m0 s.heap.size) [(0, .ref b)] 0 [] := by
    refine gz_newR 0 hC hR0 1 10 (ci := 9) (f := fun _ => some ()) (y := ()) rfl gz_lk_x gz_in9 gz_ln_x rfl rfl ⟨Nat.le_of_ble_eq_true rfl, Nat.le_of_ble_eq_true rfl⟩ dL_law_0 rfl (fun M1 e1 _ => ?_)
    subst e1
    refine gz_dup 3 hC dL_law_3 rfl ?_
    refine gz_ciR (st := [.ref s.heap.size]) 4 hC hR0 110 6584 [] (F1 := some M2) (f := fun M => some M) (y := M2) gz_yx gz_yxi gz_lm_x ⟨Nat.le_of_ble_eq_true rfl, Nat.le_of_ble_eq_true rfl⟩ (fun r h => ct_X9_init _ _ fu _ _ r (i1.trans h)) rfl rfl (Nat.le_of_ble_eq_true rfl) dL_law_4 rfl rfl ⟨Nat.le_of_ble_eq_true rfl, Nat.le_of_ble_eq_true rfl⟩ rfl (fun M' hM' => ?_)
    cases hM'
    refine gz_astore_n 7 hC [(1, .ref s.heap.size), (0, .ref b)] dL_law_7 rfl (by decide) rfl ?_
    refine gz_newR 8 hC hR0 111 6614 (ci := 10) (f := fun _ => some ()) (y := ()) rfl gz_lk_m gz_in10 gz_ln_m rfl rfl ⟨Nat.le_of_ble_eq_true rfl, Nat.le_of_ble_eq_true rfl⟩ dL_law_8 rfl (fun M3 e3 _ => ?_)
    subst e3
    rw [i2]
    refine gz_dup 11 hC dL_law_11 rfl ?_
    refine gz_ciR (st := [.ref (s.heap.size + 110)]) 12 hC hR0 153 7916 [] (F1 := some M4) (f := fun M => some M) (y := M4) yl_X10_init yi_X10_init gz_lm_m ⟨Nat.le_of_ble_eq_true rfl, Nat.le_of_ble_eq_true rfl⟩ (fun r h => ct_X10_init _ _ fu _ _ r (i3.trans h)) rfl rfl (Nat.le_of_ble_eq_true rfl) dL_law_12 rfl rfl ⟨Nat.le_of_ble_eq_true rfl, Nat.le_of_ble_eq_true rfl⟩ rfl (fun M' hM' => ?_)
    cases hM'
    refine gz_astore_n 15 hC [(2, .ref (s.heap.size + 110)), (1, .ref s.heap.size), (0, .ref b)] dL_law_15 rfl (by decide) rfl ?_
    refine gz_iconst 16 hC (0 : Int32) dL_law_16 (by decide) ?_
    refine gz_istore_n 17 hC [(3, .int (0 : Int32)), (2, .ref (s.heap.size + 110)), (1, .ref s.heap.size), (0, .ref b)] dL_law_17 rfl (by decide) rfl ?_
    refine gz_sub [3, 2, 1, 0] [(0, .ref b), (1, .ref s.heap.size), (2, .ref (s.heap.size + 110)), (3, .int (0 : Int32))] rfl ?_
    refine gz_wid (k := 200 + 43 * 0) (n := 9000 + 1332 * 0) (Nat.le_of_ble_eq_true rfl) (Nat.le_of_ble_eq_true rfl) ?_
    exact law_loop (hops s.heap.size) hC hR0 hXs' hbl' hbA hL hend 64 0 M4 (Nat.le_refl 64) (Nat.zero_le 64) hI
  have hl := lv_entry ([.ref b]) (n := 4) (Nat.le_of_ble_eq_true rfl)
  rw [lg_entry_eq]
  subst hCe
  exact hgo s.heap [] _ ⟨rfl, by rw [hG1]; exact Nat.le_refl _, fun a h => absurd rfl h, fun q _ => by rw [hG2]⟩ va_S.rf (by rw [hml]; exact hl)

