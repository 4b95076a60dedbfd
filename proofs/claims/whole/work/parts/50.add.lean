/-! rows of ints written from a place on -/
def pIo (c off : Nat) (g : Nat → Int32) (M : gz_M) (n : Nat) (M' : gz_M) : Prop := M'.1 = M.1 ∧ M'.2.1 = M.2.1 ∧ M'.2.2.2.1 = M.2.2.2.1 ∧ M'.2.2.2.2 = M.2.2.2.2 ∧ (∀ d, d ≠ c → M'.2.2.1 d = M.2.2.1 d) ∧ ∀ j, M'.2.2.1 c j = if off ≤ j ∧ j < off + n then g (j - off) else M.2.2.1 c j
theorem pIo.zero {c off : Nat} {g : Nat → Int32} {M : gz_M} : pIo c off g M 0 M := ⟨rfl, rfl, rfl, rfl, fun _ _ => rfl, fun j => (if_neg (by omega)).symm⟩
theorem pIo.step {c off n : Nat} {g : Nat → Int32} {M M' : gz_M} (h : pIo c off g M n M') : pIo c off g M (n + 1) (gz_sI M' c (off + n) (g n)) := by
  obtain ⟨h1, h2, h3, h4, h5, h6⟩ := h
  refine ⟨h1, h2, h3, h4, fun d hd => (pv_I1 hd).trans (h5 d hd), fun j => ?_⟩
  rw [pu_sI_at]
  by_cases e : j = off + n
  · subst e
    rw [if_pos ⟨rfl, rfl⟩, if_pos (by omega), show off + n - off = n by omega]
  · rw [if_neg (fun q => e q.2), h6 j]
    by_cases q : off ≤ j ∧ j < off + n
    · rw [if_pos q, if_pos (by omega)]
    · rw [if_neg q, if_neg (by omega)]
theorem pIo.f {c off n : Nat} {g : Nat → Int32} {M M' : gz_M} {P : Nat → Prop} (h : pIo c off g M n M') (hp : P c) : pf_f P M M' := ⟨h.1, h.2.1, h.2.2.1, h.2.2.2.1, fun d hd => h.2.2.2.2.1 d (fun e => hd (by rw [e]; exact hp))⟩
/-! one more last, one more foot -/
def pv_dL (V : pv_V) (w : Nat → Nat) : pv_V := (V.1, V.2.1 + 1, V.2.2.1, V.2.2.2.1, V.2.2.2.2.1, V.2.2.2.2.2.1, V.2.2.2.2.2.2.1, (fun i => if 4 * V.2.1 ≤ i ∧ i < 4 * V.2.1 + 4 then w (i - 4 * V.2.1) else V.2.2.2.2.2.2.2 i))
def pv_dF (V : pv_V) (w : Nat → Nat) : pv_V := (V.1 + 1, V.2.1, V.2.2.1, V.2.2.2.1, V.2.2.2.2.1, V.2.2.2.2.2.1, (fun i => if 5 * V.1 ≤ i ∧ i < 5 * V.1 + 5 then w (i - 5 * V.1) else V.2.2.2.2.2.2.1 i), V.2.2.2.2.2.2.2)
theorem pvc_aL {a : Nat} {V : pv_V} {w : Nat → Nat} {M M' : gz_M} (h : pv_c a V M) (hI : ∀ c j, M'.2.2.1 c j = if c = a ∧ j = 5 then nI (pv_nl V + 1) else if c = a + 2 ∧ 4 * pv_nl V ≤ j ∧ j < 4 * pv_nl V + 4 then nI (w (j - 4 * pv_nl V)) else M.2.2.1 c j) : pv_c a (pv_dL V w) M' := by
  obtain ⟨h1, h2, h3, h4, h5, h6, h7, h8⟩ := h
  refine ⟨?_, ?_, ?_, ?_, fun m hm => ?_, fun m hm => ?_, fun i hi => ?_, fun i hi => ?_⟩
  all_goals rw [hI]
  · rw [if_neg (by omega), if_neg (by omega)]; exact h1
  · rw [if_pos ⟨rfl, rfl⟩]; rfl
  · rw [if_neg (by omega), if_neg (by omega)]; exact h3
  · rw [if_neg (by omega), if_neg (by omega)]; exact h4
  · rw [if_neg (by omega), if_neg (by omega)]; exact h5 m hm
  · rw [if_neg (by omega), if_neg (by omega)]; exact h6 m hm
  · rw [if_neg (by omega), if_neg (by omega)]; exact h7 i hi
  · rw [if_neg (by omega)]
    show _ = nI (if 4 * pv_nl V ≤ i ∧ i < 4 * pv_nl V + 4 then w (i - 4 * pv_nl V) else pv_L V i)
    by_cases e : 4 * pv_nl V ≤ i ∧ i < 4 * pv_nl V + 4
    · rw [if_pos ⟨rfl, e⟩, if_pos e]
    · rw [if_neg (fun q => e q.2), if_neg e]
      have : i < 4 * (pv_nl V + 1) := hi
      exact h8 i (by omega)
theorem pvm_aL {mo k : Nat} {V : pv_V} {w : Nat → Nat} {M M' : gz_M} (hk : k < 5) (h : pv_m mo k V M) (hI : ∀ c j, M'.2.2.1 c j = if c = mo + 20 + k ∧ j = 1 then nI (pv_nl V + 1) else if c = mo + 32 + k ∧ 4 * pv_nl V ≤ j ∧ j < 4 * pv_nl V + 4 then nI (w (j - 4 * pv_nl V)) else M.2.2.1 c j) : pv_m mo k (pv_dL V w) M' := by
  obtain ⟨h1, h2, h3, h4, h5, h6, h7, h8⟩ := h
  refine ⟨?_, ?_, ?_, ?_, fun m hm => ?_, fun m hm => ?_, fun i hi => ?_, fun i hi => ?_⟩
  all_goals rw [hI]
  · rw [if_neg (by omega), if_neg (by omega)]; exact h1
  · rw [if_pos ⟨rfl, rfl⟩]; rfl
  · rw [if_neg (by omega), if_neg (by omega)]; exact h3
  · rw [if_neg (by omega), if_neg (by omega)]; exact h4
  · rw [if_neg (by omega), if_neg (by omega)]; exact h5 m hm
  · rw [if_neg (by omega), if_neg (by omega)]; exact h6 m hm
  · rw [if_neg (by omega), if_neg (by omega)]; exact h7 i hi
  · rw [if_neg (by omega)]
    show _ = nI (if 4 * pv_nl V ≤ i ∧ i < 4 * pv_nl V + 4 then w (i - 4 * pv_nl V) else pv_L V i)
    by_cases e : 4 * pv_nl V ≤ i ∧ i < 4 * pv_nl V + 4
    · rw [if_pos ⟨rfl, e⟩, if_pos e]
    · rw [if_neg (fun q => e q.2), if_neg e]
      have : i < 4 * (pv_nl V + 1) := hi
      exact h8 i (by omega)
theorem pvc_aF {a : Nat} {V : pv_V} {w : Nat → Nat} {M M' : gz_M} (h : pv_c a V M) (hI : ∀ c j, M'.2.2.1 c j = if c = a ∧ j = 4 then nI (pv_nf V + 1) else if c = a + 1 ∧ 5 * pv_nf V ≤ j ∧ j < 5 * pv_nf V + 5 then nI (w (j - 5 * pv_nf V)) else M.2.2.1 c j) : pv_c a (pv_dF V w) M' := by
  obtain ⟨h1, h2, h3, h4, h5, h6, h7, h8⟩ := h
  refine ⟨?_, ?_, ?_, ?_, fun m hm => ?_, fun m hm => ?_, fun i hi => ?_, fun i hi => ?_⟩
  all_goals rw [hI]
  · rw [if_pos ⟨rfl, rfl⟩]; rfl
  · rw [if_neg (by omega), if_neg (by omega)]; exact h2
  · rw [if_neg (by omega), if_neg (by omega)]; exact h3
  · rw [if_neg (by omega), if_neg (by omega)]; exact h4
  · rw [if_neg (by omega), if_neg (by omega)]; exact h5 m hm
  · rw [if_neg (by omega), if_neg (by omega)]; exact h6 m hm
  · rw [if_neg (by omega)]
    show _ = nI (if 5 * pv_nf V ≤ i ∧ i < 5 * pv_nf V + 5 then w (i - 5 * pv_nf V) else pv_F V i)
    by_cases e : 5 * pv_nf V ≤ i ∧ i < 5 * pv_nf V + 5
    · rw [if_pos ⟨rfl, e⟩, if_pos e]
    · rw [if_neg (fun q => e q.2), if_neg e]
      have : i < 5 * (pv_nf V + 1) := hi
      exact h7 i (by omega)
  · rw [if_neg (by omega), if_neg (by omega)]; exact h8 i hi
theorem pvm_aF {mo k : Nat} {V : pv_V} {w : Nat → Nat} {M M' : gz_M} (hk : k < 5) (h : pv_m mo k V M) (hI : ∀ c j, M'.2.2.1 c j = if c = mo + 20 + k ∧ j = 0 then nI (pv_nf V + 1) else if c = mo + 26 + k ∧ 5 * pv_nf V ≤ j ∧ j < 5 * pv_nf V + 5 then nI (w (j - 5 * pv_nf V)) else M.2.2.1 c j) : pv_m mo k (pv_dF V w) M' := by
  obtain ⟨h1, h2, h3, h4, h5, h6, h7, h8⟩ := h
  refine ⟨?_, ?_, ?_, ?_, fun m hm => ?_, fun m hm => ?_, fun i hi => ?_, fun i hi => ?_⟩
  all_goals rw [hI]
  · rw [if_pos ⟨rfl, rfl⟩]; rfl
  · rw [if_neg (by omega), if_neg (by omega)]; exact h2
  · rw [if_neg (by omega), if_neg (by omega)]; exact h3
  · rw [if_neg (by omega), if_neg (by omega)]; exact h4
  · rw [if_neg (by omega), if_neg (by omega)]; exact h5 m hm
  · rw [if_neg (by omega), if_neg (by omega)]; exact h6 m hm
  · rw [if_neg (by omega)]
    show _ = nI (if 5 * pv_nf V ≤ i ∧ i < 5 * pv_nf V + 5 then w (i - 5 * pv_nf V) else pv_F V i)
    by_cases e : 5 * pv_nf V ≤ i ∧ i < 5 * pv_nf V + 5
    · rw [if_pos ⟨rfl, e⟩, if_pos e]
    · rw [if_neg (fun q => e q.2), if_neg e]
      have : i < 5 * (pv_nf V + 1) := hi
      exact h7 i (by omega)
  · rw [if_neg (by omega), if_neg (by omega)]; exact h8 i hi
theorem pv_dL_ok {V : pv_V} {w : Nat → Nat} (h : pv_ok V) (hn : pv_nl V < 10) (hw : (∀ m, m < 3 → w m ≤ 40) ∧ w 3 ≤ 99) : pv_ok (pv_dL V w) := by
  obtain ⟨h1, h2, h3, h4, h5, h6, h7⟩ := h
  refine ⟨h1, by show pv_nl V + 1 ≤ 10; omega, h3, h4, h5, h6, fun l hl => ?_⟩
  have hl' : l < pv_nl V + 1 := hl
  refine ⟨fun m hm => ?_, ?_⟩
  · show (if 4 * pv_nl V ≤ 4 * l + m ∧ 4 * l + m < 4 * pv_nl V + 4 then w (4 * l + m - 4 * pv_nl V) else pv_L V (4 * l + m)) ≤ 40
    split
    · rw [show 4 * l + m - 4 * pv_nl V = m by omega]; exact hw.1 m hm
    · exact (h7 l (by omega)).1 m hm
  · show (if 4 * pv_nl V ≤ 4 * l + 3 ∧ 4 * l + 3 < 4 * pv_nl V + 4 then w (4 * l + 3 - 4 * pv_nl V) else pv_L V (4 * l + 3)) ≤ 99
    split
    · rw [show 4 * l + 3 - 4 * pv_nl V = 3 by omega]; exact hw.2
    · exact (h7 l (by omega)).2
theorem pv_dF_ok {V : pv_V} {w : Nat → Nat} (h : pv_ok V) (hn : pv_nf V < 12) (hw : (∀ m, m < 3 → w m ≤ 30) ∧ 1 ≤ w 3 ∧ w 3 ≤ 99 ∧ w 4 ≤ 9) : pv_ok (pv_dF V w) := by
  obtain ⟨h1, h2, h3, h4, h5, h6, h7⟩ := h
  refine ⟨by show pv_nf V + 1 ≤ 12; omega, h2, h3, h4, h5, fun l hl => ?_, h7⟩
  have hl' : l < pv_nf V + 1 := hl
  have key : ∀ m, m < 5 → (if 5 * pv_nf V ≤ 5 * l + m ∧ 5 * l + m < 5 * pv_nf V + 5 then w (5 * l + m - 5 * pv_nf V) else pv_F V (5 * l + m)) = if l = pv_nf V then w m else pv_F V (5 * l + m) := fun m hm => by
    by_cases e : l = pv_nf V
    · rw [if_pos (by omega), if_pos e, show 5 * l + m - 5 * pv_nf V = m by omega]
    · rw [if_neg (by omega), if_neg e]
  have fin : ∀ m, m < 5 → pv_F (pv_dF V w) (5 * l + m) = if l = pv_nf V then w m else pv_F V (5 * l + m) := key
  by_cases e : l = pv_nf V
  · refine ⟨fun m hm => ?_, ?_, ?_, ?_⟩
    · rw [fin m (by omega), if_pos e]; exact hw.1 m hm
    · rw [fin 3 (by omega), if_pos e]; exact hw.2.1
    · rw [fin 3 (by omega), if_pos e]; exact hw.2.2.1
    · rw [fin 4 (by omega), if_pos e]; exact hw.2.2.2
  · obtain ⟨q1, q2, q3, q4⟩ := h6 l (by omega)
    refine ⟨fun m hm => ?_, ?_, ?_, ?_⟩
    · rw [fin m (by omega), if_neg e]; exact q1 m hm
    · rw [fin 3 (by omega), if_neg e]; exact q2
    · rw [fin 3 (by omega), if_neg e]; exact q3
    · rw [fin 4 (by omega), if_neg e]; exact q4
/-- parts as a function -/
def pt (x0 x1 x2 x3 x4 : Nat) : Nat → Nat := fun m => if m = 0 then x0 else if m = 1 then x1 else if m = 2 then x2 else if m = 3 then x3 else x4
/-- addLast; addFoot -/
theorem vl_al (fu : Nat) {a : Nat} {V : pv_V} {M : gz_M} (h : vl_c a M) (hc : pv_c a V M) (hn : pv_nl V < 10) (x0 x1 x2 : Nat) : ∃ M', f_X7_addLast fu M a (nI x0) (nI x1) (nI x2) = some M' ∧ pf_f (fun c => a ≤ c ∧ c < a + 5) M M' ∧ pv_c a (pv_dL V (pt x0 x1 x2 0 0)) M' ∧ ∀ c j, M'.2.2.1 c j = if c = a ∧ j = 5 then nI (pv_nl V + 1) else if c = a + 2 ∧ 4 * pv_nl V ≤ j ∧ j < 4 * pv_nl V + 4 then nI (pt x0 x1 x2 0 0 (j - 4 * pv_nl V)) else M.2.2.1 c j := by
  have hI : ∀ c j, (gz_sI (gz_sI (gz_sI (gz_sI (gz_sI M a 5 (nI (pv_nl V + 1))) (a + 2) (4 * pv_nl V + 0) (nI x0)) (a + 2) (4 * pv_nl V + 1) (nI x1)) (a + 2) (4 * pv_nl V + 2) (nI x2)) (a + 2) (4 * pv_nl V + 3) (nI 0)).2.2.1 c j = if c = a ∧ j = 5 then nI (pv_nl V + 1) else if c = a + 2 ∧ 4 * pv_nl V ≤ j ∧ j < 4 * pv_nl V + 4 then nI (pt x0 x1 x2 0 0 (j - 4 * pv_nl V)) else M.2.2.1 c j := by
    intro c j
    rw [pu_sI_at, pu_sI_at, pu_sI_at, pu_sI_at, pu_sI_at]
    by_cases e : c = a + 2 ∧ 4 * pv_nl V ≤ j ∧ j < 4 * pv_nl V + 4
    · obtain ⟨rfl, e1, e2⟩ := e
      have : j = 4 * pv_nl V ∨ j = 4 * pv_nl V + 1 ∨ j = 4 * pv_nl V + 2 ∨ j = 4 * pv_nl V + 3 := by omega
      rcases this with rfl | rfl | rfl | rfl
      · rw [if_neg (by omega), if_neg (by omega), if_neg (by omega), if_pos (by omega), if_neg (by omega), if_pos (by omega), Nat.sub_self]; rfl
      · rw [if_neg (by omega), if_neg (by omega), if_pos (by omega), if_neg (by omega), if_pos (by omega), Nat.add_sub_cancel_left]; rfl
      · rw [if_neg (by omega), if_pos (by omega), if_neg (by omega), if_pos (by omega), Nat.add_sub_cancel_left]; rfl
      · rw [if_pos (by omega), if_neg (by omega), if_pos (by omega), Nat.add_sub_cancel_left]; rfl
    · rw [if_neg (by omega), if_neg (by omega), if_neg (by omega), if_neg (by omega), if_neg e]
  refine ⟨_, ?_, ?_, pvc_aL hc hI, hI⟩
  · have e : gz_gI M 7 5 a = some (nI (pv_nl V)) := by rw [pu_gI (ci := 7) 5 h.1, hc.2.1]
    have p0 := vl_pl fu (M := gz_sI M a 5 (nI (pv_nl V + 1))) (l := pv_nl V) (m := 0) (h.same rfl rfl) (by omega) (nI x0)
    have p1 := vl_pl fu (M := gz_sI (gz_sI M a 5 (nI (pv_nl V + 1))) (a + 2) (4 * pv_nl V + 0) (nI x0)) (l := pv_nl V) (m := 1) (h.same rfl rfl) (by omega) (nI x1)
    have p2 := vl_pl fu (M := gz_sI (gz_sI (gz_sI M a 5 (nI (pv_nl V + 1))) (a + 2) (4 * pv_nl V + 0) (nI x0)) (a + 2) (4 * pv_nl V + 1) (nI x1)) (l := pv_nl V) (m := 2) (h.same rfl rfl) (by omega) (nI x2)
    have p3 := vl_pl fu (M := gz_sI (gz_sI (gz_sI (gz_sI M a 5 (nI (pv_nl V + 1))) (a + 2) (4 * pv_nl V + 0) (nI x0)) (a + 2) (4 * pv_nl V + 1) (nI x1)) (a + 2) (4 * pv_nl V + 2) (nI x2)) (l := pv_nl V) (m := 3) (h.same rfl rfl) (by omega) (nI 0)
    unfold f_X7_addLast
    rw [h.gd, e, Option.bind_some, Option.bind_some, pn_1, pu_pI (ci := 7) 5 _ h.1, Option.bind_some, show (0 : Int32) = nI 0 from rfl, show (1 : Int32) = nI 1 from rfl, show (2 : Int32) = nI 2 from rfl, show (3 : Int32) = nI 3 from rfl, p0, Option.bind_some, p1, Option.bind_some, p2, Option.bind_some, p3, Option.bind_some]
  · exact ((((pf_f.one (by omega)).two (by omega)).two (by omega)).two (by omega)).two (by omega)
theorem vl_af (fu : Nat) {a : Nat} {V : pv_V} {M : gz_M} (h : vl_c a M) (hc : pv_c a V M) (hn : pv_nf V < 12) (x0 x1 x2 : Nat) : ∃ M', f_X7_addFoot fu M a (nI x0) (nI x1) (nI x2) = some M' ∧ pf_f (fun c => a ≤ c ∧ c < a + 5) M M' ∧ pv_c a (pv_dF V (pt x0 x1 x2 1 0)) M' ∧ ∀ c j, M'.2.2.1 c j = if c = a ∧ j = 4 then nI (pv_nf V + 1) else if c = a + 1 ∧ 5 * pv_nf V ≤ j ∧ j < 5 * pv_nf V + 5 then nI (pt x0 x1 x2 1 0 (j - 5 * pv_nf V)) else M.2.2.1 c j := by
  have hI : ∀ c j, (gz_sI (gz_sI (gz_sI (gz_sI (gz_sI (gz_sI M a 4 (nI (pv_nf V + 1))) (a + 1) (5 * pv_nf V + 0) (nI x0)) (a + 1) (5 * pv_nf V + 1) (nI x1)) (a + 1) (5 * pv_nf V + 2) (nI x2)) (a + 1) (5 * pv_nf V + 3) (nI 1)) (a + 1) (5 * pv_nf V + 4) (nI 0)).2.2.1 c j = if c = a ∧ j = 4 then nI (pv_nf V + 1) else if c = a + 1 ∧ 5 * pv_nf V ≤ j ∧ j < 5 * pv_nf V + 5 then nI (pt x0 x1 x2 1 0 (j - 5 * pv_nf V)) else M.2.2.1 c j := by
    intro c j
    rw [pu_sI_at, pu_sI_at, pu_sI_at, pu_sI_at, pu_sI_at, pu_sI_at]
    by_cases e : c = a + 1 ∧ 5 * pv_nf V ≤ j ∧ j < 5 * pv_nf V + 5
    · obtain ⟨rfl, e1, e2⟩ := e
      have : j = 5 * pv_nf V ∨ j = 5 * pv_nf V + 1 ∨ j = 5 * pv_nf V + 2 ∨ j = 5 * pv_nf V + 3 ∨ j = 5 * pv_nf V + 4 := by omega
      rcases this with rfl | rfl | rfl | rfl | rfl
      · rw [if_neg (by omega), if_neg (by omega), if_neg (by omega), if_neg (by omega), if_pos (by omega), if_neg (by omega), if_pos (by omega), Nat.sub_self]; rfl
      · rw [if_neg (by omega), if_neg (by omega), if_neg (by omega), if_pos (by omega), if_neg (by omega), if_pos (by omega), Nat.add_sub_cancel_left]; rfl
      · rw [if_neg (by omega), if_neg (by omega), if_pos (by omega), if_neg (by omega), if_pos (by omega), Nat.add_sub_cancel_left]; rfl
      · rw [if_neg (by omega), if_pos (by omega), if_neg (by omega), if_pos (by omega), Nat.add_sub_cancel_left]; rfl
      · rw [if_pos (by omega), if_neg (by omega), if_pos (by omega), Nat.add_sub_cancel_left]; rfl
    · rw [if_neg (by omega), if_neg (by omega), if_neg (by omega), if_neg (by omega), if_neg (by omega), if_neg e]
  refine ⟨_, ?_, ?_, pvc_aF hc hI, hI⟩
  · have e : gz_gI M 7 4 a = some (nI (pv_nf V)) := by rw [pu_gI (ci := 7) 4 h.1, hc.1]
    have p0 := vl_pf fu (M := gz_sI M a 4 (nI (pv_nf V + 1))) (f := pv_nf V) (m := 0) (h.same rfl rfl) (by omega) (nI x0)
    have p1 := vl_pf fu (M := gz_sI (gz_sI M a 4 (nI (pv_nf V + 1))) (a + 1) (5 * pv_nf V + 0) (nI x0)) (f := pv_nf V) (m := 1) (h.same rfl rfl) (by omega) (nI x1)
    have p2 := vl_pf fu (M := gz_sI (gz_sI (gz_sI M a 4 (nI (pv_nf V + 1))) (a + 1) (5 * pv_nf V + 0) (nI x0)) (a + 1) (5 * pv_nf V + 1) (nI x1)) (f := pv_nf V) (m := 2) (h.same rfl rfl) (by omega) (nI x2)
    have p3 := vl_pf fu (M := gz_sI (gz_sI (gz_sI (gz_sI M a 4 (nI (pv_nf V + 1))) (a + 1) (5 * pv_nf V + 0) (nI x0)) (a + 1) (5 * pv_nf V + 1) (nI x1)) (a + 1) (5 * pv_nf V + 2) (nI x2)) (f := pv_nf V) (m := 3) (h.same rfl rfl) (by omega) (nI 1)
    have p4 := vl_pf fu (M := gz_sI (gz_sI (gz_sI (gz_sI (gz_sI M a 4 (nI (pv_nf V + 1))) (a + 1) (5 * pv_nf V + 0) (nI x0)) (a + 1) (5 * pv_nf V + 1) (nI x1)) (a + 1) (5 * pv_nf V + 2) (nI x2)) (a + 1) (5 * pv_nf V + 3) (nI 1)) (f := pv_nf V) (m := 4) (h.same rfl rfl) (by omega) (nI 0)
    unfold f_X7_addFoot
    rw [h.gd, e, Option.bind_some, Option.bind_some, pn_1, pu_pI (ci := 7) 4 _ h.1, Option.bind_some, show (0 : Int32) = nI 0 from rfl, show (1 : Int32) = nI 1 from rfl, show (2 : Int32) = nI 2 from rfl, show (3 : Int32) = nI 3 from rfl, show (4 : Int32) = nI 4 from rfl, p0, Option.bind_some, p1, Option.bind_some, p2, Option.bind_some, p3, Option.bind_some, p4, Option.bind_some]
  · exact (((((pf_f.one (by omega)).two (by omega)).two (by omega)).two (by omega)).two (by omega)).two (by omega)
