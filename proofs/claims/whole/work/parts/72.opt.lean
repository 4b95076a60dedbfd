/-! a part that may be there; what is told of a valley -/
section OPT
variable {fu b n : Nat} {T : Nat → Nat} {C D : gz_M} {t : tok}
theorem rc_pF (hfu : 5000 ≤ fu) (hL : iv_L b C) (hC : tC b T n C) (ht : tk T n t) (hr : rC b t C) (h4 : C.2.2.1 (b + 3) 4 = -1) {a g m w lo hi d : Nat} {m' lo' hi' : Int32} (em : m' = nI m) (el : lo' = nI lo) (eh : hi' = nI hi) (hv : vl_c a C) (ha : b + 4 ≤ a) (hgm : 5 * g + m < 60) (hw : w < 18) (hlo : lo ≤ 1) (hlh : lo ≤ hi) (hhi : hi ≤ 99) (hd : C.2.2.1 (a + 1) (5 * g + m) = nI d) : ∃ C', (∀ J : gz_M → Option gz_M, ((f_X2_isWord fu C (b + 3) w).bind fun x => if x = 0 then J C else (f_X2_next fu C (b + 3)).bind fun M21 => gz_b2 (f_X2_number fu M21 (b + 3) lo' hi') fun x22 M23 => (f_X7_putFootPart fu M23 a (nI g) m' x22).bind fun M24 => J M24) = J C') ∧ pf_f (fun c => c = b + 3 ∨ c = a + 1) C C' ∧ (∀ j, j ≠ 5 * g + m → C'.2.2.1 (a + 1) j = C.2.2.1 (a + 1) j) ∧ (∀ f, po T n w lo hi d t = .inl f → C'.2.2.1 (b + 3) 4 = nI f) ∧ ∀ x t', po T n w lo hi d t = .inr (x, t') → C'.2.2.1 (a + 1) (5 * g + m) = nI x ∧ rC b t' C' ∧ C'.2.2.1 (b + 3) 4 = -1 := by
  subst em el eh
  have hT := hC.2.1
  unfold po
  by_cases c : wd T t w
  · have e0 := (rc_wd hfu hL hC ht hr hw).1 c
    obtain ⟨C1, n1, n2, n3, n4⟩ := rc_next hfu hL hC ht.2.1 hr.2.2
    obtain ⟨L1, K1⟩ := rc_ns hL hC n2
    obtain ⟨k1, -⟩ := nx_ok (T := T) (n := n) (e := t.2.2) ht.2.1 hT
    obtain ⟨x, C2, a1, a2, a2', a3, a4, a5⟩ := rc_n hfu L1 K1 k1 n3 (n4.trans h4) hlo hlh hhi
    have w2 : pf_f (fun c => c = b + 3) C C2 := n2.trans a3 (fun _ q => q) (fun _ q => q)
    have v2 : vl_c a C2 := hv.same w2.2.1 w2.2.2.2.1
    have p := vl_pf fu v2 hgm (nI x)
    have s3 : (gz_sI C2 (a + 1) (5 * g + m) (nI x)).2.2.1 (b + 3) = C2.2.2.1 (b + 3) := pv_I1 (by omega)
    rw [if_pos c]
    refine ⟨gz_sI C2 (a + 1) (5 * g + m) (nI x), fun J => ?_, (w2.trans pf_f.refl (S := fun c => c = b + 3 ∨ c = a + 1) (fun _ q => Or.inl q) (fun _ (q : False) => q.elim)).two (Or.inr rfl), fun j hj => ?_, fun f e => ?_, fun x' t' e => ?_⟩
    · rw [e0, Option.bind_some, pu_10, n1, Option.bind_some, a1]
      simp only [gz_b2, Option.bind_some, p]
    · rw [pv_I0 hj, w2.2.2.2.2 _ (by omega)]
    · rw [s3]
      cases h : pn T n lo hi (nx T n t.2.2) with
      | none => rw [h] at e; cases e; exact a4 h
      | some q => rw [h] at e; cases e
    · cases h : pn T n lo hi (nx T n t.2.2) with
      | none => rw [h] at e; cases e
      | some q =>
        rw [h] at e
        cases e
        obtain ⟨rfl, g2, g3⟩ := a5 _ _ h
        refine ⟨pv_I9, ?_, ?_⟩
        · unfold rC; rw [s3]; exact g2
        · rw [s3]; exact g3
  · have e0 := (rc_wd hfu hL hC ht hr hw).2 c
    rw [if_neg c]
    refine ⟨C, fun J => ?_, pf_f.refl, fun _ _ => rfl, fun f e => (by cases e), fun x' t' e => ?_⟩
    · rw [e0, Option.bind_some, if_pos rfl]
    · cases e
      exact ⟨hd, hr, h4⟩
theorem rc_pL (hfu : 5000 ≤ fu) (hL : iv_L b C) (hC : tC b T n C) (ht : tk T n t) (hr : rC b t C) (h4 : C.2.2.1 (b + 3) 4 = -1) {a g w hi d : Nat} {hi' : Int32} (eh : hi' = nI hi) (hv : vl_c a C) (ha : b + 4 ≤ a) (hg : g < 10) (hn : C.2.2.1 a 5 = nI (g + 1)) (hw : w < 18) (hhi : hi ≤ 99) (hd : C.2.2.1 (a + 2) (4 * g + 3) = nI d) : ∃ C', (∀ J : gz_M → Option gz_M, ((f_X2_isWord fu C (b + 3) w).bind fun x => if x = 0 then J C else (f_X2_next fu C (b + 3)).bind fun M13 => (gz_gI M13 7 5 a).bind fun x14 => gz_b2 (f_X2_number fu M13 (b + 3) (0 : Int32) hi') fun x15 M16 => (f_X7_putLastPart fu M16 a (x14 - (1 : Int32)) (3 : Int32) x15).bind fun M17 => J M17) = J C') ∧ pf_f (fun c => c = b + 3 ∨ c = a + 2) C C' ∧ (∀ j, j ≠ 4 * g + 3 → C'.2.2.1 (a + 2) j = C.2.2.1 (a + 2) j) ∧ (∀ f, po T n w 0 hi d t = .inl f → C'.2.2.1 (b + 3) 4 = nI f) ∧ ∀ x t', po T n w 0 hi d t = .inr (x, t') → C'.2.2.1 (a + 2) (4 * g + 3) = nI x ∧ rC b t' C' ∧ C'.2.2.1 (b + 3) 4 = -1 := by
  subst eh
  have hT := hC.2.1
  unfold po
  by_cases c : wd T t w
  · have e0 := (rc_wd hfu hL hC ht hr hw).1 c
    obtain ⟨C1, n1, n2, n3, n4⟩ := rc_next hfu hL hC ht.2.1 hr.2.2
    obtain ⟨L1, K1⟩ := rc_ns hL hC n2
    obtain ⟨k1, -⟩ := nx_ok (T := T) (n := n) (e := t.2.2) ht.2.1 hT
    obtain ⟨x, C2, a1, a2, a2', a3, a4, a5⟩ := rc_n hfu L1 K1 k1 n3 (n4.trans h4) (lo := 0) (hi := hi) (by omega) (by omega) hhi
    have a1' : f_X2_number fu C1 (b + 3) (0 : Int32) (nI hi) = some (nI x, C2) := a1
    have w2 : pf_f (fun c => c = b + 3) C C2 := n2.trans a3 (fun _ q => q) (fun _ q => q)
    have v2 : vl_c a C2 := hv.same w2.2.1 w2.2.2.2.1
    have v1 : vl_c a C1 := hv.same n2.2.1 n2.2.2.2.1
    have g5 : gz_gI C1 7 5 a = some (nI (g + 1)) := by rw [pu_gI (ci := 7) 5 v1.1, n2.2.2.2.2 _ (by omega), hn]
    have p : f_X7_putLastPart fu C2 a (nI g) (3 : Int32) (nI x) = _ := vl_pl fu v2 (l := g) (m := 3) (by omega) (nI x)
    have s3 : (gz_sI C2 (a + 2) (4 * g + 3) (nI x)).2.2.1 (b + 3) = C2.2.2.1 (b + 3) := pv_I1 (by omega)
    rw [if_pos c]
    refine ⟨gz_sI C2 (a + 2) (4 * g + 3) (nI x), fun J => ?_, (w2.trans pf_f.refl (S := fun c => c = b + 3 ∨ c = a + 2) (fun _ q => Or.inl q) (fun _ (q : False) => q.elim)).two (Or.inr rfl), fun j hj => ?_, fun f e => ?_, fun x' t' e => ?_⟩
    · rw [e0, Option.bind_some, pu_10, n1, Option.bind_some, g5, Option.bind_some, a1', nI_pred]
      simp only [gz_b2, Option.bind_some, p]
    · rw [pv_I0 hj, w2.2.2.2.2 _ (by omega)]
    · rw [s3]
      cases h : pn T n 0 hi (nx T n t.2.2) with
      | none => rw [h] at e; cases e; exact a4 h
      | some q => rw [h] at e; cases e
    · cases h : pn T n 0 hi (nx T n t.2.2) with
      | none => rw [h] at e; cases e
      | some q =>
        rw [h] at e
        cases e
        obtain ⟨rfl, g2, g3⟩ := a5 _ _ h
        refine ⟨pv_I9, ?_, ?_⟩
        · unfold rC; rw [s3]; exact g2
        · rw [s3]; exact g3
  · have e0 := (rc_wd hfu hL hC ht hr hw).2 c
    rw [if_neg c]
    refine ⟨C, fun J => ?_, pf_f.refl, fun _ _ => rfl, fun f e => (by cases e), fun x' t' e => ?_⟩
    · rw [e0, Option.bind_some, if_pos rfl]
    · cases e
      exact ⟨hd, hr, h4⟩
theorem rm_po (hfu : 5000 ≤ fu) (hO : iv_O (b + 110) D) (hD : tM b T n D) (ht : tk T n t) (hr : rM b T t D) {k S rr r i len w W lo hi d : Nat} {i' lo' hi' : Int32} (ei : i' = nI i) (el : lo' = nI lo) (eh : hi' = nI hi) (eW : W = w + 9) (hrow : D.2.1 r = (20, len)) (hi2 : i < len) (hlen : len ≤ 1024) (hrb : r ≠ b + 110) (hrt : r ≠ b + 127) (hw : w < 9) (hlo : lo ≤ 1) (hhi : hi ≤ 99) (hd : D.2.2.1 r i = nI d) (hacc : ∀ D' : gz_M, D'.2.1 = D.2.1 → D'.2.2.2.2 = D.2.2.2.2 → gz_gR D' 10 S (b + 110) = some rr ∧ gz_aR D' rr (nI k) = some r) : (∀ f, po T n w lo hi d t = .inl f → ∃ D', (∀ J : gz_M → Option (Int32 × gz_M), ((f_X10_isWord fu D (b + 110) W).bind fun x => if x = 0 then J D else (f_X10_look fu D (b + 110)).bind fun M16 => (gz_gR M16 10 S (b + 110)).bind fun x17 => (gz_aR M16 x17 (nI k)).bind fun x18 => gz_b2 (f_X10_number fu M16 (b + 110) x18 i' lo' hi') fun x19 M20 => if x19 = 0 then gz_z (0 : Int32) (some ((0 : Int32), M20)) else J M20) = some (0, D')) ∧ qM b (fun c => c = r) D D' ∧ D'.2.2.1 (b + 110) 25 = nI f) ∧ ∀ x t', po T n w lo hi d t = .inr (x, t') → ∃ D', (∀ J : gz_M → Option (Int32 × gz_M), ((f_X10_isWord fu D (b + 110) W).bind fun x => if x = 0 then J D else (f_X10_look fu D (b + 110)).bind fun M16 => (gz_gR M16 10 S (b + 110)).bind fun x17 => (gz_aR M16 x17 (nI k)).bind fun x18 => gz_b2 (f_X10_number fu M16 (b + 110) x18 i' lo' hi') fun x19 M20 => if x19 = 0 then gz_z (0 : Int32) (some ((0 : Int32), M20)) else J M20) = J D') ∧ qM b (fun c => c = r) D D' ∧ rM b T t' D' ∧ D'.2.2.1 r i = nI x ∧ ∀ j, j ≠ i → D'.2.2.1 r j = D.2.2.1 r j := by
  subst ei el eh eW
  have hT := hD.2.1
  unfold po
  by_cases c : wd T t w
  · have e0 := (rm_wd hfu hO hD ht hr (a := w + 9) (by omega)).1 ((wd_9 hw).mpr c)
    obtain ⟨D1, n1, n2, n3⟩ := rm_look hfu hO hD ht.2.1 hr.2.2.1
    obtain ⟨O1, K1⟩ := rm_ns hO hD n2 (fun q => q)
    obtain ⟨k1, -⟩ := nx_ok (T := T) (n := n) (e := t.2.2) ht.2.1 hT
    obtain ⟨a1, a2⟩ := hacc D1 n2.2.1 n2.2.2.1
    have q1 : D1.2.1 r = (20, len) := by rw [n2.2.1]; exact hrow
    have qr : D1.2.2.1 r = D.2.2.1 r := n2.2.2.2.2.1 r hrb (fun q => q)
    obtain ⟨g1, g2⟩ := rm_n hfu O1 K1 k1 n3 q1 hi2 hlen hrb hrt hlo hhi
    rw [if_pos c]
    refine ⟨fun f e => ?_, fun x t' e => ?_⟩
    · cases h : pn T n lo hi (nx T n t.2.2) with
      | none =>
        rw [h] at e
        cases e
        obtain ⟨D2, s1, s2, s3⟩ := g1 h
        refine ⟨D2, fun J => ?_, n2.trans s2 (fun _ q => q.elim) (fun _ q => q.elim), s3⟩
        rw [e0, Option.bind_some, pu_10, n1, Option.bind_some, a1, Option.bind_some, a2, Option.bind_some, s1]
        rfl
      | some q => rw [h] at e; cases e
    · cases h : pn T n lo hi (nx T n t.2.2) with
      | none => rw [h] at e; cases e
      | some q =>
        rw [h] at e
        cases e
        obtain ⟨D2, s1, s2, s3, s4, s5⟩ := g2 _ _ h
        refine ⟨D2, fun J => ?_, n2.trans s2 (fun _ q => q.elim) (fun _ q => q), s3, s4, fun j hj => by rw [s5 j hj, qr]⟩
        rw [e0, Option.bind_some, pu_10, n1, Option.bind_some, a1, Option.bind_some, a2, Option.bind_some, s1]
        simp only [gz_b2, Option.bind_some, pu_10]
  · have e0 := (rm_wd hfu hO hD ht hr (a := w + 9) (by omega)).2 (fun q => c ((wd_9 hw).mp q))
    rw [if_neg c]
    refine ⟨fun f e => (by cases e), fun x t' e => ?_⟩
    cases e
    refine ⟨D, fun J => ?_, qM.refl, hr, hd, fun _ _ => rfl⟩
    rw [e0, Option.bind_some, if_pos rfl]
end OPT
/-! a valley told: one more foot, one more last, waste, over, out, grow -/
theorem pvc_fF {a : Nat} {V : pv_V} {w : Nat → Nat} {C C' : gz_M} (h : pv_c a V C) (e0 : C'.2.2.1 a 4 = nI (pv_nf V + 1)) (e1 : ∀ j, j ≠ 4 → C'.2.2.1 a j = C.2.2.1 a j) (e2 : ∀ j, j < 5 * pv_nf V → C'.2.2.1 (a + 1) j = C.2.2.1 (a + 1) j) (e3 : ∀ m, m < 5 → C'.2.2.1 (a + 1) (5 * pv_nf V + m) = nI (w m)) (e4 : ∀ c, c = a + 2 ∨ c = a + 3 ∨ c = a + 4 → C'.2.2.1 c = C.2.2.1 c) : pv_c a (pv_dF V w) C' := by
  obtain ⟨h1, h2, h3, h4, h5, h6, h7, h8⟩ := h
  refine ⟨e0, ?_, ?_, ?_, fun m hm => ?_, fun m hm => ?_, fun i hi => ?_, fun i hi => ?_⟩
  · rw [e1 _ (by omega)]; exact h2
  · rw [e1 _ (by omega)]; exact h3
  · rw [e1 _ (by omega)]; exact h4
  · rw [e4 _ (by omega)]; exact h5 m hm
  · rw [e4 _ (by omega)]; exact h6 m hm
  · have hi' : i < 5 * (pv_nf V + 1) := hi
    show _ = nI (if 5 * pv_nf V ≤ i ∧ i < 5 * pv_nf V + 5 then w (i - 5 * pv_nf V) else pv_F V i)
    by_cases c : 5 * pv_nf V ≤ i
    · rw [if_pos (by omega)]
      have := e3 (i - 5 * pv_nf V) (by omega)
      rw [show 5 * pv_nf V + (i - 5 * pv_nf V) = i by omega] at this
      exact this
    · rw [if_neg (by omega), e2 i (by omega)]; exact h7 i (by omega)
  · rw [e4 _ (by omega)]; exact h8 i hi
theorem pvc_fL {a : Nat} {V : pv_V} {w : Nat → Nat} {C C' : gz_M} (h : pv_c a V C) (e0 : C'.2.2.1 a 5 = nI (pv_nl V + 1)) (e1 : ∀ j, j ≠ 5 → C'.2.2.1 a j = C.2.2.1 a j) (e2 : ∀ j, j < 4 * pv_nl V → C'.2.2.1 (a + 2) j = C.2.2.1 (a + 2) j) (e3 : ∀ m, m < 4 → C'.2.2.1 (a + 2) (4 * pv_nl V + m) = nI (w m)) (e4 : ∀ c, c = a + 1 ∨ c = a + 3 ∨ c = a + 4 → C'.2.2.1 c = C.2.2.1 c) : pv_c a (pv_dL V w) C' := by
  obtain ⟨h1, h2, h3, h4, h5, h6, h7, h8⟩ := h
  refine ⟨?_, e0, ?_, ?_, fun m hm => ?_, fun m hm => ?_, fun i hi => ?_, fun i hi => ?_⟩
  · rw [e1 _ (by omega)]; exact h1
  · rw [e1 _ (by omega)]; exact h3
  · rw [e1 _ (by omega)]; exact h4
  · rw [e4 _ (by omega)]; exact h5 m hm
  · rw [e4 _ (by omega)]; exact h6 m hm
  · rw [e4 _ (by omega)]; exact h7 i hi
  · have hi' : i < 4 * (pv_nl V + 1) := hi
    show _ = nI (if 4 * pv_nl V ≤ i ∧ i < 4 * pv_nl V + 4 then w (i - 4 * pv_nl V) else pv_L V i)
    by_cases c : 4 * pv_nl V ≤ i
    · rw [if_pos (by omega)]
      have := e3 (i - 4 * pv_nl V) (by omega)
      rw [show 4 * pv_nl V + (i - 4 * pv_nl V) = i by omega] at this
      exact this
    · rw [if_neg (by omega), e2 i (by omega)]; exact h8 i (by omega)
theorem pvm_fF {mo k : Nat} {V : pv_V} {w : Nat → Nat} {C C' : gz_M} (h : pv_m mo k V C) (e0 : C'.2.2.1 (mo + 20 + k) 0 = nI (pv_nf V + 1)) (e1 : ∀ j, j ≠ 0 → C'.2.2.1 (mo + 20 + k) j = C.2.2.1 (mo + 20 + k) j) (e2 : ∀ j, j < 5 * pv_nf V → C'.2.2.1 (mo + 26 + k) j = C.2.2.1 (mo + 26 + k) j) (e3 : ∀ m, m < 5 → C'.2.2.1 (mo + 26 + k) (5 * pv_nf V + m) = nI (w m)) (e4 : C'.2.2.1 (mo + 32 + k) = C.2.2.1 (mo + 32 + k)) : pv_m mo k (pv_dF V w) C' := by
  obtain ⟨h1, h2, h3, h4, h5, h6, h7, h8⟩ := h
  refine ⟨e0, ?_, ?_, ?_, fun m hm => ?_, fun m hm => ?_, fun i hi => ?_, fun i hi => ?_⟩
  · rw [e1 _ (by omega)]; exact h2
  · rw [e1 _ (by omega)]; exact h3
  · rw [e1 _ (by omega)]; exact h4
  · rw [e1 _ (by omega)]; exact h5 m hm
  · rw [e1 _ (by omega)]; exact h6 m hm
  · have hi' : i < 5 * (pv_nf V + 1) := hi
    show _ = nI (if 5 * pv_nf V ≤ i ∧ i < 5 * pv_nf V + 5 then w (i - 5 * pv_nf V) else pv_F V i)
    by_cases c : 5 * pv_nf V ≤ i
    · rw [if_pos (by omega)]
      have := e3 (i - 5 * pv_nf V) (by omega)
      rw [show 5 * pv_nf V + (i - 5 * pv_nf V) = i by omega] at this
      exact this
    · rw [if_neg (by omega), e2 i (by omega)]; exact h7 i (by omega)
  · rw [e4]; exact h8 i hi
theorem pvm_fL {mo k : Nat} {V : pv_V} {w : Nat → Nat} {C C' : gz_M} (h : pv_m mo k V C) (e0 : C'.2.2.1 (mo + 20 + k) 1 = nI (pv_nl V + 1)) (e1 : ∀ j, j ≠ 1 → C'.2.2.1 (mo + 20 + k) j = C.2.2.1 (mo + 20 + k) j) (e2 : ∀ j, j < 4 * pv_nl V → C'.2.2.1 (mo + 32 + k) j = C.2.2.1 (mo + 32 + k) j) (e3 : ∀ m, m < 4 → C'.2.2.1 (mo + 32 + k) (4 * pv_nl V + m) = nI (w m)) (e4 : C'.2.2.1 (mo + 26 + k) = C.2.2.1 (mo + 26 + k)) : pv_m mo k (pv_dL V w) C' := by
  obtain ⟨h1, h2, h3, h4, h5, h6, h7, h8⟩ := h
  refine ⟨?_, e0, ?_, ?_, fun m hm => ?_, fun m hm => ?_, fun i hi => ?_, fun i hi => ?_⟩
  · rw [e1 _ (by omega)]; exact h1
  · rw [e1 _ (by omega)]; exact h3
  · rw [e1 _ (by omega)]; exact h4
  · rw [e1 _ (by omega)]; exact h5 m hm
  · rw [e1 _ (by omega)]; exact h6 m hm
  · rw [e4]; exact h7 i hi
  · have hi' : i < 4 * (pv_nl V + 1) := hi
    show _ = nI (if 4 * pv_nl V ≤ i ∧ i < 4 * pv_nl V + 4 then w (i - 4 * pv_nl V) else pv_L V i)
    by_cases c : 4 * pv_nl V ≤ i
    · rw [if_pos (by omega)]
      have := e3 (i - 4 * pv_nl V) (by omega)
      rw [show 4 * pv_nl V + (i - 4 * pv_nl V) = i by omega] at this
      exact this
    · rw [if_neg (by omega), e2 i (by omega)]; exact h8 i (by omega)
def pv_sW (V : pv_V) (w : Nat → Nat) : pv_V := (V.1, V.2.1, V.2.2.1, V.2.2.2.1, w, V.2.2.2.2.2.1, V.2.2.2.2.2.2.1, V.2.2.2.2.2.2.2)
def pv_sO (V : pv_V) (w : Nat → Nat) : pv_V := (V.1, V.2.1, V.2.2.1, V.2.2.2.1, V.2.2.2.2.1, w, V.2.2.2.2.2.2.1, V.2.2.2.2.2.2.2)
def pv_sX (V : pv_V) (x : Nat) : pv_V := (V.1, V.2.1, x, V.2.2.2.1, V.2.2.2.2.1, V.2.2.2.2.2.1, V.2.2.2.2.2.2.1, V.2.2.2.2.2.2.2)
def pv_sG (V : pv_V) (x : Nat) : pv_V := (V.1, V.2.1, V.2.2.1, x, V.2.2.2.2.1, V.2.2.2.2.2.1, V.2.2.2.2.2.2.1, V.2.2.2.2.2.2.2)
theorem pt_3 (x0 x1 x2 x3 x4 : Nat) : pt x0 x1 x2 x3 x4 0 = x0 ∧ pt x0 x1 x2 x3 x4 1 = x1 ∧ pt x0 x1 x2 x3 x4 2 = x2 ∧ pt x0 x1 x2 x3 x4 3 = x3 ∧ pt x0 x1 x2 x3 x4 4 = x4 := ⟨rfl, rfl, rfl, rfl, rfl⟩
theorem l3 {P : Nat → Prop} (h0 : P 0) (h1 : P 1) (h2 : P 2) : ∀ m, m < 3 → P m := fun m hm => by
  have : m = 0 ∨ m = 1 ∨ m = 2 := by omega
  rcases this with rfl | rfl | rfl
  · exact h0
  · exact h1
  · exact h2
theorem l4 {P : Nat → Prop} (h0 : P 0) (h1 : P 1) (h2 : P 2) (h3 : P 3) : ∀ m, m < 4 → P m := fun m hm => by
  have : m = 0 ∨ m = 1 ∨ m = 2 ∨ m = 3 := by omega
  rcases this with rfl | rfl | rfl | rfl
  · exact h0
  · exact h1
  · exact h2
  · exact h3
theorem l5 {P : Nat → Prop} (h0 : P 0) (h1 : P 1) (h2 : P 2) (h3 : P 3) (h4 : P 4) : ∀ m, m < 5 → P m := fun m hm => by
  have : m = 0 ∨ m = 1 ∨ m = 2 ∨ m = 3 ∨ m = 4 := by omega
  rcases this with rfl | rfl | rfl | rfl | rfl
  · exact h0
  · exact h1
  · exact h2
  · exact h3
  · exact h4
/-- what a statement makes: a fault, or a valley and what comes next -/
noncomputable def pF (T : Nat → Nat) (n : Nat) (V : pv_V) (t : tok) : Nat ⊕ (pv_V × tok) := match p3 T n 30 (nx T n t.2.2) with
  | .inl f => .inl f
  | .inr (x0, x1, x2, t2) => match po T n 1 1 99 1 t2 with
    | .inl f => .inl f
    | .inr (x3, t4) => match po T n 2 0 9 0 t4 with
      | .inl f => .inl f
      | .inr (x4, t6) => .inr (pv_dF V (pt x0 x1 x2 x3 x4), t6)
noncomputable def pLa (T : Nat → Nat) (n : Nat) (V : pv_V) (t : tok) : Nat ⊕ (pv_V × tok) := match p3 T n 40 (nx T n t.2.2) with
  | .inl f => .inl f
  | .inr (x0, x1, x2, t2) => match po T n 4 0 99 0 t2 with
    | .inl f => .inl f
    | .inr (x3, t4) => .inr (pv_dL V (pt x0 x1 x2 x3 0), t4)
def pWa (T : Nat → Nat) (n : Nat) (V : pv_V) (t : tok) : Nat ⊕ (pv_V × tok) := match p3 T n 9 (nx T n t.2.2) with
  | .inl f => .inl f
  | .inr (x0, x1, x2, t2) => .inr (pv_sW V (pt x0 x1 x2 0 0), t2)
def pOv (T : Nat → Nat) (n : Nat) (V : pv_V) (t : tok) : Nat ⊕ (pv_V × tok) := match p3 T n 30 (nx T n t.2.2) with
  | .inl f => .inl f
  | .inr (x0, x1, x2, t2) => .inr (pv_sO V (pt x0 x1 x2 0 0), t2)
def pX (T : Nat → Nat) (n : Nat) (V : pv_V) (t : tok) : Nat ⊕ (pv_V × tok) := match pn T n 0 99 (nx T n t.2.2) with
  | none => .inl (nx T n t.2.2).2.1
  | some (x, t2) => .inr (pv_sX V x, t2)
def pG (T : Nat → Nat) (n : Nat) (V : pv_V) (t : tok) : Nat ⊕ (pv_V × tok) := match pn T n 0 9 (nx T n t.2.2) with
  | none => .inl (nx T n t.2.2).2.1
  | some (x, t2) => .inr (pv_sG V x, t2)
noncomputable def ps (T : Nat → Nat) (n : Nat) (V : pv_V) (t : tok) : Nat ⊕ (pv_V × tok) := @ite _ (wd T t 0 ∧ pv_nf V < 12) (Classical.propDecidable _) (pF T n V t) (@ite _ (wd T t 3 ∧ pv_nl V < 10) (Classical.propDecidable _) (pLa T n V t) (@ite _ (wd T t 5) (Classical.propDecidable _) (pWa T n V t) (@ite _ (wd T t 6) (Classical.propDecidable _) (pOv T n V t) (@ite _ (wd T t 7) (Classical.propDecidable _) (pX T n V t) (@ite _ (wd T t 8) (Classical.propDecidable _) (pG T n V t) (.inl t.2.1))))))
def oC (b k : Nat) (o : Nat ⊕ (pv_V × tok)) (C C' : gz_M) : Prop := pf_f (fun c => c = b + 3 ∨ pc_C b k c) C C' ∧ (∀ f, o = .inl f → C'.2.2.1 (b + 3) 4 = nI f) ∧ ∀ V' t', o = .inr (V', t') → rC b t' C' ∧ C'.2.2.1 (b + 3) 4 = -1 ∧ pv_c (b + 13 + 5 * k) V' C'
def oM (b k : Nat) (T : Nat → Nat) (o : Nat ⊕ (pv_V × tok)) (D : gz_M) (r : Int32) (D' : gz_M) : Prop := qM b (pc_M b k) D D' ∧ (∀ f, o = .inl f → r = 0 ∧ D'.2.2.1 (b + 110) 25 = nI f) ∧ ∀ V' t', o = .inr (V', t') → r = 1 ∧ rM b T t' D' ∧ pv_m (b + 110) k V' D'
def oP (T : Nat → Nat) (n : Nat) (t : tok) (o : Nat ⊕ (pv_V × tok)) : Prop := (∀ f, o = .inl f → f ≤ n) ∧ ∀ V' t', o = .inr (V', t') → pv_ok V' ∧ tk T n t' ∧ t.2.2 ≤ t'.2.1
theorem ps_ok {T : Nat → Nat} {n : Nat} {V : pv_V} {t : tok} (hV : pv_ok V) (ht : tk T n t) (hT : ∀ j, j < n → T j < 256) : oP T n t (ps T n V t) := by
  obtain ⟨k1, k2⟩ := nx_ok (T := T) (n := n) (e := t.2.2) ht.2.1 hT
  have t1 := ht.1
  have t2 := ht.2.1
  have u1 := k1.1
  have u2 := k1.2.1
  obtain ⟨o1, o2, o3, o4, o5, o6, o7⟩ := id hV
  have pt0 : ∀ {hi : Nat} {x0 x1 x2 x3 x4 : Nat}, x0 ≤ hi → x1 ≤ hi → x2 ≤ hi → ∀ m, m < 3 → pt x0 x1 x2 x3 x4 m ≤ hi := fun h0 h1 h2 => l3 h0 h1 h2
  have hF : pv_nf V < 12 → oP T n t (pF T n V t) := by
    intro hn
    obtain ⟨a1, a2⟩ := p3_ok (hi := 30) k1 hT
    unfold pF
    cases h0 : p3 T n 30 (nx T n t.2.2) with
    | inl f => exact ⟨fun f' e => (by cases e; exact a1 f h0), fun _ _ e => by cases e⟩
    | inr q =>
      obtain ⟨x0, x1, x2, t2'⟩ := q
      obtain ⟨b1, b2, b3, b4, b5⟩ := a2 _ _ _ _ h0
      obtain ⟨c1, c2⟩ := po_ok (w := 1) (lo := 1) (hi := 99) (d := 1) b4 hT ⟨by omega, by omega⟩
      have v1 := b4.1
      cases h1 : po T n 1 1 99 1 t2' with
      | inl f => exact ⟨fun f' e => (by simp only [h1] at e; cases e; exact c1 f h1), fun _ _ e => by simp only [h1] at e; cases e⟩
      | inr q =>
        obtain ⟨x3, t4⟩ := q
        obtain ⟨d1, d2, d3, d4⟩ := c2 _ _ h1
        obtain ⟨g1, g2⟩ := po_ok (w := 2) (lo := 0) (hi := 9) (d := 0) d3 hT ⟨by omega, by omega⟩
        have v2 := d3.1
        cases h2 : po T n 2 0 9 0 t4 with
        | inl f => exact ⟨fun f' e => (by simp only [h1, h2] at e; cases e; exact g1 f h2), fun _ _ e => by simp only [h1, h2] at e; cases e⟩
        | inr q =>
          obtain ⟨x4, t6⟩ := q
          obtain ⟨s1, s2, s3, s4⟩ := g2 _ _ h2
          refine ⟨fun f' e => (by simp only [h1, h2] at e; cases e), fun _ _ e => ?_⟩
          simp only [h1, h2] at e
          cases e
          exact ⟨pv_dF_ok hV hn ⟨pt0 b1 b2 b3, d1, d2, s2⟩, s3, by omega⟩
  have hLa : pv_nl V < 10 → oP T n t (pLa T n V t) := by
    intro hn
    obtain ⟨a1, a2⟩ := p3_ok (hi := 40) k1 hT
    unfold pLa
    cases h0 : p3 T n 40 (nx T n t.2.2) with
    | inl f => exact ⟨fun f' e => (by cases e; exact a1 f h0), fun _ _ e => by cases e⟩
    | inr q =>
      obtain ⟨x0, x1, x2, t2'⟩ := q
      obtain ⟨b1, b2, b3, b4, b5⟩ := a2 _ _ _ _ h0
      obtain ⟨c1, c2⟩ := po_ok (w := 4) (lo := 0) (hi := 99) (d := 0) b4 hT ⟨by omega, by omega⟩
      have v1 := b4.1
      cases h1 : po T n 4 0 99 0 t2' with
      | inl f => exact ⟨fun f' e => (by simp only [h1] at e; cases e; exact c1 f h1), fun _ _ e => by simp only [h1] at e; cases e⟩
      | inr q =>
        obtain ⟨x3, t4⟩ := q
        obtain ⟨d1, d2, d3, d4⟩ := c2 _ _ h1
        refine ⟨fun f' e => (by simp only [h1] at e; cases e), fun _ _ e => ?_⟩
        simp only [h1] at e
        cases e
        exact ⟨pv_dL_ok hV hn ⟨pt0 b1 b2 b3, d2⟩, d3, by omega⟩
  have hWa : oP T n t (pWa T n V t) := by
    obtain ⟨a1, a2⟩ := p3_ok (hi := 9) k1 hT
    unfold pWa
    cases h0 : p3 T n 9 (nx T n t.2.2) with
    | inl f => exact ⟨fun f' e => (by cases e; exact a1 f h0), fun _ _ e => by cases e⟩
    | inr q =>
      obtain ⟨x0, x1, x2, t2'⟩ := q
      obtain ⟨b1, b2, b3, b4, b5⟩ := a2 _ _ _ _ h0
      exact ⟨fun f' e => (by cases e), fun _ _ e => by cases e; exact ⟨⟨o1, o2, o3, o4, fun m hm => ⟨pt0 b1 b2 b3 m hm, (o5 m hm).2⟩, o6, o7⟩, b4, by omega⟩⟩
  have hOv : oP T n t (pOv T n V t) := by
    obtain ⟨a1, a2⟩ := p3_ok (hi := 30) k1 hT
    unfold pOv
    cases h0 : p3 T n 30 (nx T n t.2.2) with
    | inl f => exact ⟨fun f' e => (by cases e; exact a1 f h0), fun _ _ e => by cases e⟩
    | inr q =>
      obtain ⟨x0, x1, x2, t2'⟩ := q
      obtain ⟨b1, b2, b3, b4, b5⟩ := a2 _ _ _ _ h0
      exact ⟨fun f' e => (by cases e), fun _ _ e => by cases e; exact ⟨⟨o1, o2, o3, o4, fun m hm => ⟨(o5 m hm).1, pt0 b1 b2 b3 m hm⟩, o6, o7⟩, b4, by omega⟩⟩
  have hX : oP T n t (pX T n V t) := by
    unfold pX
    cases h0 : pn T n 0 99 (nx T n t.2.2) with
    | none => exact ⟨fun f' e => (by cases e; omega), fun _ _ e => by cases e⟩
    | some q =>
      obtain ⟨x, t2'⟩ := q
      obtain ⟨b1, b2, b3, b4⟩ := pn_ok k1 hT h0
      exact ⟨fun f' e => (by cases e), fun _ _ e => by cases e; exact ⟨⟨o1, o2, b2, o4, o5, o6, o7⟩, b3, by omega⟩⟩
  have hG : oP T n t (pG T n V t) := by
    unfold pG
    cases h0 : pn T n 0 9 (nx T n t.2.2) with
    | none => exact ⟨fun f' e => (by cases e; omega), fun _ _ e => by cases e⟩
    | some q =>
      obtain ⟨x, t2'⟩ := q
      obtain ⟨b1, b2, b3, b4⟩ := pn_ok k1 hT h0
      exact ⟨fun f' e => (by cases e), fun _ _ e => by cases e; exact ⟨⟨o1, o2, o3, b2, o5, o6, o7⟩, b3, by omega⟩⟩
  unfold ps
  by_cases c1 : wd T t 0 ∧ pv_nf V < 12
  · rw [if_pos c1]; exact hF c1.2
  · rw [if_neg c1]
    by_cases c2 : wd T t 3 ∧ pv_nl V < 10
    · rw [if_pos c2]; exact hLa c2.2
    · rw [if_neg c2]
      by_cases c3 : wd T t 5
      · rw [if_pos c3]; exact hWa
      · rw [if_neg c3]
        by_cases c4 : wd T t 6
        · rw [if_pos c4]; exact hOv
        · rw [if_neg c4]
          by_cases c5 : wd T t 7
          · rw [if_pos c5]; exact hX
          · rw [if_neg c5]
            by_cases c6 : wd T t 8
            · rw [if_pos c6]; exact hG
            · rw [if_neg c6]
              exact ⟨fun f' e => (by cases e; omega), fun _ _ e => by cases e⟩
