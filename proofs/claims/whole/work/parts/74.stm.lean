/-! statements: the reference -/
theorem rM.row {b c j : Nat} {T : Nat → Nat} {t : tok} {D : gz_M} {v : Int32} (h : rM b T t D) (hc : c ≠ b + 110) : rM b T t (gz_sI D c j v) := by
  unfold rM
  rw [pv_I1 (fun e => hc e.symm)]
  exact h
section STM
variable {fu b n k : Nat} {T : Nat → Nat} {D : gz_M} {t : tok} {V : pv_V}
theorem rm_foot (hfu : 5000 ≤ fu) (hO : iv_O (b + 110) D) (hD : tM b T n D) (ht : tk T n t) (hr : rM b T t D) (hk : k < 4) (hV : pv_ok V) (hm : pv_m (b + 110) k V D) (hn : pv_nf V < 12) : ∃ r D', ((f_X10_feetOf fu D (b + 110) (nI k)).bind fun x3 => (f_X10_look fu D (b + 110)).bind fun M4 => (gz_gR M4 10 13 (b + 110)).bind fun x5 => (gz_aR M4 x5 (nI k)).bind fun x6 => (gz_tI M4 x6 (((5 : Int32) * x3) + (3 : Int32)) (1 : Int32)).bind fun M7 => (gz_gR M7 10 13 (b + 110)).bind fun x8 => (gz_aR M7 x8 (nI k)).bind fun x9 => (gz_tI M7 x9 (((5 : Int32) * x3) + (4 : Int32)) (0 : Int32)).bind fun M10 => (gz_gR M10 10 13 (b + 110)).bind fun x11 => (gz_aR M10 x11 (nI k)).bind fun x12 => gz_b2 (f_X10_three fu M10 (b + 110) x12 ((5 : Int32) * x3) (30 : Int32)) fun x13 M14 => if x13 = 0 then gz_z (0 : Int32) (some ((0 : Int32), M14)) else (f_X10_isWord fu M14 (b + 110) 10).bind fun x15 => gz_jn (fun (M21 : gz_M) => (f_X10_isWord fu M21 (b + 110) 11).bind fun x22 => gz_jn (fun (M28 : gz_M) => (gz_gR M28 10 12 (b + 110)).bind fun x29 => (gz_aR M28 x29 (nI k)).bind fun x30 => (gz_aI M28 x30 (0 : Int32)).bind fun x31 => (gz_tI M28 x30 (0 : Int32) (x31 + (1 : Int32))).bind fun M32 => gz_z (1 : Int32) (some ((1 : Int32), M32))) fun j139 => if x22 = 0 then j139 M21 else (f_X10_look fu M21 (b + 110)).bind fun M23 => (gz_gR M23 10 13 (b + 110)).bind fun x24 => (gz_aR M23 x24 (nI k)).bind fun x25 => gz_b2 (f_X10_number fu M23 (b + 110) x25 (((5 : Int32) * x3) + (4 : Int32)) (0 : Int32) (9 : Int32)) fun x26 M27 => if x26 = 0 then gz_z (0 : Int32) (some ((0 : Int32), M27)) else j139 M27) fun j105 => if x15 = 0 then j105 M14 else (f_X10_look fu M14 (b + 110)).bind fun M16 => (gz_gR M16 10 13 (b + 110)).bind fun x17 => (gz_aR M16 x17 (nI k)).bind fun x18 => gz_b2 (f_X10_number fu M16 (b + 110) x18 (((5 : Int32) * x3) + (3 : Int32)) (1 : Int32) (99 : Int32)) fun x19 M20 => if x19 = 0 then gz_z (0 : Int32) (some ((0 : Int32), M20)) else j105 M20) = some (r, D') ∧ oM b k T (pF T n V t) D r D' := by
  have hT := hD.2.1
  have l0 := vl_mk hO (show k < 5 by omega)
  obtain ⟨D1, n1, n2, n3⟩ := rm_look hfu hO hD ht.2.1 hr.2.2.1
  obtain ⟨O1, K1⟩ := rm_ns hO hD n2 (fun q => q)
  obtain ⟨kk1, -⟩ := nx_ok (T := T) (n := n) (e := t.2.2) ht.2.1 hT
  have l1 := vl_mk O1 (show k < 5 by omega)
  have l7 : vl_m (b + 110) k (gz_sI D1 (b + 110 + 26 + k) (5 * pv_nf V + 3) 1) := l1.same rfl rfl
  have l10 : vl_m (b + 110) k (gz_sI (gz_sI D1 (b + 110 + 26 + k) (5 * pv_nf V + 3) 1) (b + 110 + 26 + k) (5 * pv_nf V + 4) 0) := l1.same rfl rfl
  have w10 : qM b (pc_M b k) D (gz_sI (gz_sI D1 (b + 110 + 26 + k) (5 * pv_nf V + 3) 1) (b + 110 + 26 + k) (5 * pv_nf V + 4) 0) := ((n2.trans (qM.refl (P := pc_M b k)) (S := pc_M b k) (fun _ q => q.elim) (fun _ q => q)).row _ _ (by omega) (by unfold pc_M; omega)).row _ _ (by omega) (by unfold pc_M; omega)
  have r10 : rM b T (nx T n t.2.2) (gz_sI (gz_sI D1 (b + 110 + 26 + k) (5 * pv_nf V + 3) 1) (b + 110 + 26 + k) (5 * pv_nf V + 4) 0) := (n3.row (by omega)).row (by omega)
  have i3 : (gz_sI (gz_sI D1 (b + 110 + 26 + k) (5 * pv_nf V + 3) 1) (b + 110 + 26 + k) (5 * pv_nf V + 4) 0).2.2.1 (b + 110 + 26 + k) (5 * pv_nf V + 3) = nI 1 := (pv_I0 (by omega)).trans pv_I9
  have i4 : (gz_sI (gz_sI D1 (b + 110 + 26 + k) (5 * pv_nf V + 3) 1) (b + 110 + 26 + k) (5 * pv_nf V + 4) 0).2.2.1 (b + 110 + 26 + k) (5 * pv_nf V + 4) = nI 0 := pv_I9
  have j10 : ∀ j, j < 5 * pv_nf V → (gz_sI (gz_sI D1 (b + 110 + 26 + k) (5 * pv_nf V + 3) 1) (b + 110 + 26 + k) (5 * pv_nf V + 4) 0).2.2.1 (b + 110 + 26 + k) j = D.2.2.1 (b + 110 + 26 + k) j := fun j hj => by
    rw [pv_I0 (by omega), pv_I0 (by omega), n2.2.2.2.2.1 _ (by omega) (fun q => q)]
  have c10 : ∀ c, c = b + 110 + 20 + k ∨ c = b + 110 + 32 + k → (gz_sI (gz_sI D1 (b + 110 + 26 + k) (5 * pv_nf V + 3) 1) (b + 110 + 26 + k) (5 * pv_nf V + 4) 0).2.2.1 c = D.2.2.1 c := fun c q => by
    rw [pv_I1 (by omega), pv_I1 (by omega), n2.2.2.2.2.1 _ (by omega) (fun q => q)]
  have e5 : (5 : Int32) * nI (pv_nf V) = nI (5 * pv_nf V) := pk_mul 5 _
  have e53 : nI (5 * pv_nf V) + (3 : Int32) = nI (5 * pv_nf V + 3) := nI_add _ 3
  have e54 : nI (5 * pv_nf V) + (4 : Int32) = nI (5 * pv_nf V + 4) := nI_add _ 4
  have t7 := pu_tI (1 : Int32) (vl_f l1).2.2 (show 5 * pv_nf V + 3 < 60 by omega) (by decide)
  have t10 := pu_tI (0 : Int32) (vl_f l7).2.2 (show 5 * pv_nf V + 4 < 60 by omega) (by decide)
  generalize hM10 : gz_sI (gz_sI D1 (b + 110 + 26 + k) (5 * pv_nf V + 3) 1) (b + 110 + 26 + k) (5 * pv_nf V + 4) 0 = M10 at *
  have pre : ∀ R, (gz_b2 (f_X10_three fu M10 (b + 110) (b + 110 + 26 + k) (nI (5 * pv_nf V)) (30 : Int32)) fun x13 M14 => if x13 = 0 then gz_z (0 : Int32) (some ((0 : Int32), M14)) else (f_X10_isWord fu M14 (b + 110) 10).bind fun x15 => if x15 = 0 then (fun M21 => (f_X10_isWord fu M21 (b + 110) 11).bind fun x22 => if x22 = 0 then (fun M28 => (gz_gR M28 10 12 (b + 110)).bind fun x29 => (gz_aR M28 x29 (nI k)).bind fun x30 => (gz_aI M28 x30 (0 : Int32)).bind fun x31 => (gz_tI M28 x30 (0 : Int32) (x31 + (1 : Int32))).bind fun M32 => gz_z (1 : Int32) (some ((1 : Int32), M32))) M21 else (f_X10_look fu M21 (b + 110)).bind fun M23 => (gz_gR M23 10 13 (b + 110)).bind fun x24 => (gz_aR M23 x24 (nI k)).bind fun x25 => gz_b2 (f_X10_number fu M23 (b + 110) x25 (nI (5 * pv_nf V + 4)) (0 : Int32) (9 : Int32)) fun x26 M27 => if x26 = 0 then gz_z (0 : Int32) (some ((0 : Int32), M27)) else (fun M28 => (gz_gR M28 10 12 (b + 110)).bind fun x29 => (gz_aR M28 x29 (nI k)).bind fun x30 => (gz_aI M28 x30 (0 : Int32)).bind fun x31 => (gz_tI M28 x30 (0 : Int32) (x31 + (1 : Int32))).bind fun M32 => gz_z (1 : Int32) (some ((1 : Int32), M32))) M27) M14 else (f_X10_look fu M14 (b + 110)).bind fun M16 => (gz_gR M16 10 13 (b + 110)).bind fun x17 => (gz_aR M16 x17 (nI k)).bind fun x18 => gz_b2 (f_X10_number fu M16 (b + 110) x18 (nI (5 * pv_nf V + 3)) (1 : Int32) (99 : Int32)) fun x19 M20 => if x19 = 0 then gz_z (0 : Int32) (some ((0 : Int32), M20)) else (fun M21 => (f_X10_isWord fu M21 (b + 110) 11).bind fun x22 => if x22 = 0 then (fun M28 => (gz_gR M28 10 12 (b + 110)).bind fun x29 => (gz_aR M28 x29 (nI k)).bind fun x30 => (gz_aI M28 x30 (0 : Int32)).bind fun x31 => (gz_tI M28 x30 (0 : Int32) (x31 + (1 : Int32))).bind fun M32 => gz_z (1 : Int32) (some ((1 : Int32), M32))) M21 else (f_X10_look fu M21 (b + 110)).bind fun M23 => (gz_gR M23 10 13 (b + 110)).bind fun x24 => (gz_aR M23 x24 (nI k)).bind fun x25 => gz_b2 (f_X10_number fu M23 (b + 110) x25 (nI (5 * pv_nf V + 4)) (0 : Int32) (9 : Int32)) fun x26 M27 => if x26 = 0 then gz_z (0 : Int32) (some ((0 : Int32), M27)) else (fun M28 => (gz_gR M28 10 12 (b + 110)).bind fun x29 => (gz_aR M28 x29 (nI k)).bind fun x30 => (gz_aI M28 x30 (0 : Int32)).bind fun x31 => (gz_tI M28 x30 (0 : Int32) (x31 + (1 : Int32))).bind fun M32 => gz_z (1 : Int32) (some ((1 : Int32), M32))) M27) M20) = R → ((f_X10_feetOf fu D (b + 110) (nI k)).bind fun x3 => (f_X10_look fu D (b + 110)).bind fun M4 => (gz_gR M4 10 13 (b + 110)).bind fun x5 => (gz_aR M4 x5 (nI k)).bind fun x6 => (gz_tI M4 x6 (((5 : Int32) * x3) + (3 : Int32)) (1 : Int32)).bind fun M7 => (gz_gR M7 10 13 (b + 110)).bind fun x8 => (gz_aR M7 x8 (nI k)).bind fun x9 => (gz_tI M7 x9 (((5 : Int32) * x3) + (4 : Int32)) (0 : Int32)).bind fun M10 => (gz_gR M10 10 13 (b + 110)).bind fun x11 => (gz_aR M10 x11 (nI k)).bind fun x12 => gz_b2 (f_X10_three fu M10 (b + 110) x12 ((5 : Int32) * x3) (30 : Int32)) fun x13 M14 => if x13 = 0 then gz_z (0 : Int32) (some ((0 : Int32), M14)) else (f_X10_isWord fu M14 (b + 110) 10).bind fun x15 => gz_jn (fun (M21 : gz_M) => (f_X10_isWord fu M21 (b + 110) 11).bind fun x22 => gz_jn (fun (M28 : gz_M) => (gz_gR M28 10 12 (b + 110)).bind fun x29 => (gz_aR M28 x29 (nI k)).bind fun x30 => (gz_aI M28 x30 (0 : Int32)).bind fun x31 => (gz_tI M28 x30 (0 : Int32) (x31 + (1 : Int32))).bind fun M32 => gz_z (1 : Int32) (some ((1 : Int32), M32))) fun j139 => if x22 = 0 then j139 M21 else (f_X10_look fu M21 (b + 110)).bind fun M23 => (gz_gR M23 10 13 (b + 110)).bind fun x24 => (gz_aR M23 x24 (nI k)).bind fun x25 => gz_b2 (f_X10_number fu M23 (b + 110) x25 (((5 : Int32) * x3) + (4 : Int32)) (0 : Int32) (9 : Int32)) fun x26 M27 => if x26 = 0 then gz_z (0 : Int32) (some ((0 : Int32), M27)) else j139 M27) fun j105 => if x15 = 0 then j105 M14 else (f_X10_look fu M14 (b + 110)).bind fun M16 => (gz_gR M16 10 13 (b + 110)).bind fun x17 => (gz_aR M16 x17 (nI k)).bind fun x18 => gz_b2 (f_X10_number fu M16 (b + 110) x18 (((5 : Int32) * x3) + (3 : Int32)) (1 : Int32) (99 : Int32)) fun x19 M20 => if x19 = 0 then gz_z (0 : Int32) (some ((0 : Int32), M20)) else j105 M20) = R := by
    intro R hR
    rw [← hR, vl_nf fu l0 hm.1, Option.bind_some, n1, Option.bind_some, (vl_f l1).1, Option.bind_some, (vl_f l1).2.1, Option.bind_some, e5, e53, t7, Option.bind_some, (vl_f l7).1, Option.bind_some, (vl_f l7).2.1, Option.bind_some, e54, t10, Option.bind_some, (vl_f l10).1, Option.bind_some, (vl_f l10).2.1, Option.bind_some]
    rfl
  obtain ⟨O10, K10⟩ := rm_ns hO hD w10 (by unfold pc_M; omega)
  have row10 := (vl_f l10).2.2
  obtain ⟨a3l, a3r⟩ := rm_3 hfu O10 K10 kk1 r10 (r := b + 110 + 26 + k) (i := 5 * pv_nf V) (len := 60) (hi := 30) row10 (by omega) (by omega) (by omega) (by omega) (by omega)
  obtain ⟨o3l, o3r⟩ := p3_ok (hi := 30) kk1 hT
  have W : ∀ {D'}, qM b (fun c => c = b + 110 + 26 + k) M10 D' → qM b (pc_M b k) D D' := fun q => w10.trans q (fun _ q => q) (fun c q => by unfold pc_M; omega)
  unfold pF
  cases h0 : p3 T n 30 (nx T n t.2.2) with
  | inl f =>
    obtain ⟨D', s1, s2, s3⟩ := a3l f h0
    have s1' : f_X10_three fu M10 (b + 110) (b + 110 + 26 + k) (nI (5 * pv_nf V)) (30 : Int32) = some (0, D') := s1
    refine ⟨0, D', pre _ ?_, W s2, fun f' e => (by cases e; exact ⟨rfl, s3⟩), fun V' t' e => (by cases e)⟩
    rw [s1', pu_b2, if_pos rfl, pu_z0]
  | inr q =>
    obtain ⟨x0, x1, x2, t2⟩ := q
    obtain ⟨D4, s1, s2, s3, s4, s5, s6, s7⟩ := a3r _ _ _ _ h0
    have s1' : f_X10_three fu M10 (b + 110) (b + 110 + 26 + k) (nI (5 * pv_nf V)) (30 : Int32) = some (1, D4) := s1
    obtain ⟨-, -, -, kk2, -⟩ := o3r _ _ _ _ h0
    obtain ⟨O4, K4⟩ := rm_ns O10 K10 s2 (by omega)
    have l4' := vl_mk O4 (show k < 5 by omega)
    obtain ⟨b1, b2⟩ := rm_po (i' := nI (5 * pv_nf V + 3)) (lo' := 1) (hi' := 99) (k := k) (S := 13) (rr := b + 110 + 25) (r := b + 110 + 26 + k) (i := 5 * pv_nf V + 3) (len := 60) (w := 1) (W := 10) (lo := 1) (hi := 99) (d := 1) hfu O4 K4 kk2 s3 rfl rfl rfl rfl (vl_f l4').2.2 (by omega) (by omega) (by omega) (by omega) (by omega) (by omega) (by omega) (by rw [s7 _ (by omega)]; exact i3) (fun D' q1 q2 => ⟨(vl_f (l4'.same q1 q2)).1, (vl_f (l4'.same q1 q2)).2.1⟩)
    obtain ⟨po1, po1'⟩ := po_ok (w := 1) (lo := 1) (hi := 99) (d := 1) kk2 hT ⟨by omega, by omega⟩
    cases h1 : po T n 1 1 99 1 t2 with
    | inl f =>
      obtain ⟨D5, g1, g2, g3⟩ := b1 f h1
      refine ⟨0, D5, pre _ ?_, W (s2.trans g2 (fun _ q => q) (fun _ q => q)), fun f' e => (by simp only [h1] at e; cases e; exact ⟨rfl, g3⟩), fun V' t' e => (by simp only [h1] at e; cases e)⟩
      rw [s1', pu_b2, pu_10]
      exact g1 (fun M21 => (f_X10_isWord fu M21 (b + 110) 11).bind fun x22 => if x22 = 0 then (fun M28 => (gz_gR M28 10 12 (b + 110)).bind fun x29 => (gz_aR M28 x29 (nI k)).bind fun x30 => (gz_aI M28 x30 (0 : Int32)).bind fun x31 => (gz_tI M28 x30 (0 : Int32) (x31 + (1 : Int32))).bind fun M32 => gz_z (1 : Int32) (some ((1 : Int32), M32))) M21 else (f_X10_look fu M21 (b + 110)).bind fun M23 => (gz_gR M23 10 13 (b + 110)).bind fun x24 => (gz_aR M23 x24 (nI k)).bind fun x25 => gz_b2 (f_X10_number fu M23 (b + 110) x25 (nI (5 * pv_nf V + 4)) (0 : Int32) (9 : Int32)) fun x26 M27 => if x26 = 0 then gz_z (0 : Int32) (some ((0 : Int32), M27)) else (fun M28 => (gz_gR M28 10 12 (b + 110)).bind fun x29 => (gz_aR M28 x29 (nI k)).bind fun x30 => (gz_aI M28 x30 (0 : Int32)).bind fun x31 => (gz_tI M28 x30 (0 : Int32) (x31 + (1 : Int32))).bind fun M32 => gz_z (1 : Int32) (some ((1 : Int32), M32))) M27)
    | inr q =>
      obtain ⟨x3, t4⟩ := q
      obtain ⟨D5, g1, g2, g3, g4, g5⟩ := b2 _ _ h1
      obtain ⟨-, -, kk4, -⟩ := po1' _ _ h1
      obtain ⟨O5, K5⟩ := rm_ns O4 K4 g2 (by omega)
      have l5' := vl_mk O5 (show k < 5 by omega)
      obtain ⟨c1, c2⟩ := rm_po (i' := nI (5 * pv_nf V + 4)) (lo' := 0) (hi' := 9) (k := k) (S := 13) (rr := b + 110 + 25) (r := b + 110 + 26 + k) (i := 5 * pv_nf V + 4) (len := 60) (w := 2) (W := 11) (lo := 0) (hi := 9) (d := 0) hfu O5 K5 kk4 g3 rfl rfl rfl rfl (vl_f l5').2.2 (by omega) (by omega) (by omega) (by omega) (by omega) (by omega) (by omega) (by rw [g5 _ (by omega), s7 _ (by omega)]; exact i4) (fun D' q1 q2 => ⟨(vl_f (l5'.same q1 q2)).1, (vl_f (l5'.same q1 q2)).2.1⟩)
      have w5 : qM b (fun c => c = b + 110 + 26 + k) M10 D5 := s2.trans g2 (fun _ q => q) (fun _ q => q)
      cases h2 : po T n 2 0 9 0 t4 with
      | inl f =>
        obtain ⟨D6, y1, y2, y3⟩ := c1 f h2
        refine ⟨0, D6, pre _ ?_, W (w5.trans y2 (fun _ q => q) (fun _ q => q)), fun f' e => (by simp only [h1, h2] at e; cases e; exact ⟨rfl, y3⟩), fun V' t' e => (by simp only [h1, h2] at e; cases e)⟩
        rw [s1', pu_b2, pu_10]
        refine (g1 (fun M21 => (f_X10_isWord fu M21 (b + 110) 11).bind fun x22 => if x22 = 0 then (fun M28 => (gz_gR M28 10 12 (b + 110)).bind fun x29 => (gz_aR M28 x29 (nI k)).bind fun x30 => (gz_aI M28 x30 (0 : Int32)).bind fun x31 => (gz_tI M28 x30 (0 : Int32) (x31 + (1 : Int32))).bind fun M32 => gz_z (1 : Int32) (some ((1 : Int32), M32))) M21 else (f_X10_look fu M21 (b + 110)).bind fun M23 => (gz_gR M23 10 13 (b + 110)).bind fun x24 => (gz_aR M23 x24 (nI k)).bind fun x25 => gz_b2 (f_X10_number fu M23 (b + 110) x25 (nI (5 * pv_nf V + 4)) (0 : Int32) (9 : Int32)) fun x26 M27 => if x26 = 0 then gz_z (0 : Int32) (some ((0 : Int32), M27)) else (fun M28 => (gz_gR M28 10 12 (b + 110)).bind fun x29 => (gz_aR M28 x29 (nI k)).bind fun x30 => (gz_aI M28 x30 (0 : Int32)).bind fun x31 => (gz_tI M28 x30 (0 : Int32) (x31 + (1 : Int32))).bind fun M32 => gz_z (1 : Int32) (some ((1 : Int32), M32))) M27)).trans ?_
        exact y1 (fun M28 => (gz_gR M28 10 12 (b + 110)).bind fun x29 => (gz_aR M28 x29 (nI k)).bind fun x30 => (gz_aI M28 x30 (0 : Int32)).bind fun x31 => (gz_tI M28 x30 (0 : Int32) (x31 + (1 : Int32))).bind fun M32 => gz_z (1 : Int32) (some ((1 : Int32), M32)))
      | inr q =>
        obtain ⟨x4, t6⟩ := q
        obtain ⟨D6, y1, y2, y3, y4, y5⟩ := c2 _ _ h2
        have w6 : qM b (fun c => c = b + 110 + 26 + k) M10 D6 := w5.trans y2 (fun _ q => q) (fun _ q => q)
        obtain ⟨O6, K6⟩ := rm_ns O10 K10 w6 (by omega)
        have l6' := vl_mk O6 (show k < 5 by omega)
        have v6 : D6.2.2.1 (b + 110 + 20 + k) = D.2.2.1 (b + 110 + 20 + k) := by rw [w6.2.2.2.2.1 _ (by omega) (by omega)]; exact c10 _ (Or.inl rfl)
        have x31 : gz_aI D6 (b + 110 + 20 + k) (0 : Int32) = some (nI (pv_nf V)) := (pu_aI (i := 0) (vl_v l6').2.2 (by omega) (by omega)).trans (by rw [v6, hm.1])
        have x32 : gz_tI D6 (b + 110 + 20 + k) (0 : Int32) (nI (pv_nf V + 1)) = some (gz_sI D6 (b + 110 + 20 + k) 0 (nI (pv_nf V + 1))) := pu_tI (i := 0) _ (vl_v l6').2.2 (by omega) (by omega)
        refine ⟨1, gz_sI D6 (b + 110 + 20 + k) 0 (nI (pv_nf V + 1)), pre _ ?_, (W w6).row _ _ (by omega) (by unfold pc_M; omega), fun f' e => (by simp only [h1, h2] at e; cases e), fun V' t' e => ?_⟩
        · rw [s1', pu_b2, pu_10]
          refine (g1 (fun M21 => (f_X10_isWord fu M21 (b + 110) 11).bind fun x22 => if x22 = 0 then (fun M28 => (gz_gR M28 10 12 (b + 110)).bind fun x29 => (gz_aR M28 x29 (nI k)).bind fun x30 => (gz_aI M28 x30 (0 : Int32)).bind fun x31 => (gz_tI M28 x30 (0 : Int32) (x31 + (1 : Int32))).bind fun M32 => gz_z (1 : Int32) (some ((1 : Int32), M32))) M21 else (f_X10_look fu M21 (b + 110)).bind fun M23 => (gz_gR M23 10 13 (b + 110)).bind fun x24 => (gz_aR M23 x24 (nI k)).bind fun x25 => gz_b2 (f_X10_number fu M23 (b + 110) x25 (nI (5 * pv_nf V + 4)) (0 : Int32) (9 : Int32)) fun x26 M27 => if x26 = 0 then gz_z (0 : Int32) (some ((0 : Int32), M27)) else (fun M28 => (gz_gR M28 10 12 (b + 110)).bind fun x29 => (gz_aR M28 x29 (nI k)).bind fun x30 => (gz_aI M28 x30 (0 : Int32)).bind fun x31 => (gz_tI M28 x30 (0 : Int32) (x31 + (1 : Int32))).bind fun M32 => gz_z (1 : Int32) (some ((1 : Int32), M32))) M27)).trans ?_
          refine (y1 (fun M28 => (gz_gR M28 10 12 (b + 110)).bind fun x29 => (gz_aR M28 x29 (nI k)).bind fun x30 => (gz_aI M28 x30 (0 : Int32)).bind fun x31 => (gz_tI M28 x30 (0 : Int32) (x31 + (1 : Int32))).bind fun M32 => gz_z (1 : Int32) (some ((1 : Int32), M32)))).trans ?_
          try dsimp only
          rw [(vl_v l6').1, Option.bind_some, (vl_v l6').2.1, Option.bind_some, x31, Option.bind_some, pn_1, x32, Option.bind_some, pu_z1]
        · simp only [h1, h2] at e
          cases e
          refine ⟨rfl, y3.row (by omega), pvm_fF hm pv_I9 (fun j hj => ?_) (fun j hj => ?_) (l5 ?_ ?_ ?_ ?_ ?_) ?_⟩
          · rw [pv_I0 hj, v6]
          · rw [pv_I1 (by omega), y5 _ (by omega), g5 _ (by omega), s7 _ (by omega)]; exact j10 j hj
          · rw [pv_I1 (by omega), y5 _ (by omega), g5 _ (by omega)]; exact s4
          · rw [pv_I1 (by omega), y5 _ (by omega), g5 _ (by omega)]; exact s5
          · rw [pv_I1 (by omega), y5 _ (by omega), g5 _ (by omega)]; exact s6
          · rw [pv_I1 (by omega), y5 _ (by omega)]; exact g4
          · rw [pv_I1 (by omega)]; exact y4
          · rw [pv_I1 (by omega), w6.2.2.2.2.1 _ (by omega) (by omega)]; exact c10 _ (Or.inr rfl)
theorem vl_nl' (fu : Nat) {mo k n : Nat} {M : gz_M} (h : vl_m mo k M) (e : M.2.2.1 (mo + 20 + k) 1 = nI n) : f_X10_lastsOf fu M mo (nI k) = some (nI n) := by
  unfold f_X10_lastsOf
  rw [pu_gd (ci := 10) h.1.1, (vl_v h).1, Option.bind_some, (vl_v h).2.1, Option.bind_some, show (1 : Int32) = nI 1 from rfl, pu_aI (vl_v h).2.2 (by omega) (by decide), e]
  rfl
theorem rm_last (hfu : 5000 ≤ fu) (hO : iv_O (b + 110) D) (hD : tM b T n D) (ht : tk T n t) (hr : rM b T t D) (hk : k < 4) (hV : pv_ok V) (hm : pv_m (b + 110) k V D) (hn : pv_nl V < 10) : ∃ r D', ((f_X10_lastsOf fu D (b + 110) (nI k)).bind fun x35 => (f_X10_look fu D (b + 110)).bind fun M36 => (gz_gR M36 10 14 (b + 110)).bind fun x37 => (gz_aR M36 x37 (nI k)).bind fun x38 => (gz_tI M36 x38 (((4 : Int32) * x35) + (3 : Int32)) (0 : Int32)).bind fun M39 => (gz_gR M39 10 14 (b + 110)).bind fun x40 => (gz_aR M39 x40 (nI k)).bind fun x41 => gz_b2 (f_X10_three fu M39 (b + 110) x41 ((4 : Int32) * x35) (40 : Int32)) fun x42 M43 => if x42 = 0 then gz_z (0 : Int32) (some ((0 : Int32), M43)) else (f_X10_isWord fu M43 (b + 110) 13).bind fun x44 => gz_jn (fun (M50 : gz_M) => (gz_gR M50 10 12 (b + 110)).bind fun x51 => (gz_aR M50 x51 (nI k)).bind fun x52 => (gz_aI M50 x52 (1 : Int32)).bind fun x53 => (gz_tI M50 x52 (1 : Int32) (x53 + (1 : Int32))).bind fun M54 => gz_z (1 : Int32) (some ((1 : Int32), M54))) fun j247 => if x44 = 0 then j247 M43 else (f_X10_look fu M43 (b + 110)).bind fun M45 => (gz_gR M45 10 14 (b + 110)).bind fun x46 => (gz_aR M45 x46 (nI k)).bind fun x47 => gz_b2 (f_X10_number fu M45 (b + 110) x47 (((4 : Int32) * x35) + (3 : Int32)) (0 : Int32) (99 : Int32)) fun x48 M49 => if x48 = 0 then gz_z (0 : Int32) (some ((0 : Int32), M49)) else j247 M49) = some (r, D') ∧ oM b k T (pLa T n V t) D r D' := by
  have hT := hD.2.1
  have l0 := vl_mk hO (show k < 5 by omega)
  obtain ⟨D1, n1, n2, n3⟩ := rm_look hfu hO hD ht.2.1 hr.2.2.1
  obtain ⟨O1, K1⟩ := rm_ns hO hD n2 (fun q => q)
  obtain ⟨kk1, -⟩ := nx_ok (T := T) (n := n) (e := t.2.2) ht.2.1 hT
  have l1 := vl_mk O1 (show k < 5 by omega)
  have l10 : vl_m (b + 110) k (gz_sI D1 (b + 110 + 32 + k) (4 * pv_nl V + 3) 0) := l1.same rfl rfl
  have w10 : qM b (pc_M b k) D (gz_sI D1 (b + 110 + 32 + k) (4 * pv_nl V + 3) 0) := (n2.trans (qM.refl (P := pc_M b k)) (S := pc_M b k) (fun _ q => q.elim) (fun _ q => q)).row _ _ (by omega) (by unfold pc_M; omega)
  have r10 : rM b T (nx T n t.2.2) (gz_sI D1 (b + 110 + 32 + k) (4 * pv_nl V + 3) 0) := n3.row (by omega)
  have i3 : (gz_sI D1 (b + 110 + 32 + k) (4 * pv_nl V + 3) 0).2.2.1 (b + 110 + 32 + k) (4 * pv_nl V + 3) = nI 0 := pv_I9
  have j10 : ∀ j, j < 4 * pv_nl V → (gz_sI D1 (b + 110 + 32 + k) (4 * pv_nl V + 3) 0).2.2.1 (b + 110 + 32 + k) j = D.2.2.1 (b + 110 + 32 + k) j := fun j hj => by
    rw [pv_I0 (by omega), n2.2.2.2.2.1 _ (by omega) (fun q => q)]
  have c10 : ∀ c, c = b + 110 + 20 + k ∨ c = b + 110 + 26 + k → (gz_sI D1 (b + 110 + 32 + k) (4 * pv_nl V + 3) 0).2.2.1 c = D.2.2.1 c := fun c q => by
    rw [pv_I1 (by omega), n2.2.2.2.2.1 _ (by omega) (fun q => q)]
  have e4 : (4 : Int32) * nI (pv_nl V) = nI (4 * pv_nl V) := pk_mul 4 _
  have e43 : nI (4 * pv_nl V) + (3 : Int32) = nI (4 * pv_nl V + 3) := nI_add _ 3
  have t10 := pu_tI (0 : Int32) (vl_l l1).2.2 (show 4 * pv_nl V + 3 < 40 by omega) (by decide)
  generalize hM10 : gz_sI D1 (b + 110 + 32 + k) (4 * pv_nl V + 3) 0 = M10 at *
  have pre : ∀ R, (gz_b2 (f_X10_three fu M10 (b + 110) (b + 110 + 32 + k) (nI (4 * pv_nl V)) (40 : Int32)) fun x42 M43 => if x42 = 0 then gz_z (0 : Int32) (some ((0 : Int32), M43)) else (f_X10_isWord fu M43 (b + 110) 13).bind fun x44 => if x44 = 0 then (fun M50 => (gz_gR M50 10 12 (b + 110)).bind fun x51 => (gz_aR M50 x51 (nI k)).bind fun x52 => (gz_aI M50 x52 (1 : Int32)).bind fun x53 => (gz_tI M50 x52 (1 : Int32) (x53 + (1 : Int32))).bind fun M54 => gz_z (1 : Int32) (some ((1 : Int32), M54))) M43 else (f_X10_look fu M43 (b + 110)).bind fun M45 => (gz_gR M45 10 14 (b + 110)).bind fun x46 => (gz_aR M45 x46 (nI k)).bind fun x47 => gz_b2 (f_X10_number fu M45 (b + 110) x47 (nI (4 * pv_nl V + 3)) (0 : Int32) (99 : Int32)) fun x48 M49 => if x48 = 0 then gz_z (0 : Int32) (some ((0 : Int32), M49)) else (fun M50 => (gz_gR M50 10 12 (b + 110)).bind fun x51 => (gz_aR M50 x51 (nI k)).bind fun x52 => (gz_aI M50 x52 (1 : Int32)).bind fun x53 => (gz_tI M50 x52 (1 : Int32) (x53 + (1 : Int32))).bind fun M54 => gz_z (1 : Int32) (some ((1 : Int32), M54))) M49) = R → ((f_X10_lastsOf fu D (b + 110) (nI k)).bind fun x35 => (f_X10_look fu D (b + 110)).bind fun M36 => (gz_gR M36 10 14 (b + 110)).bind fun x37 => (gz_aR M36 x37 (nI k)).bind fun x38 => (gz_tI M36 x38 (((4 : Int32) * x35) + (3 : Int32)) (0 : Int32)).bind fun M39 => (gz_gR M39 10 14 (b + 110)).bind fun x40 => (gz_aR M39 x40 (nI k)).bind fun x41 => gz_b2 (f_X10_three fu M39 (b + 110) x41 ((4 : Int32) * x35) (40 : Int32)) fun x42 M43 => if x42 = 0 then gz_z (0 : Int32) (some ((0 : Int32), M43)) else (f_X10_isWord fu M43 (b + 110) 13).bind fun x44 => gz_jn (fun (M50 : gz_M) => (gz_gR M50 10 12 (b + 110)).bind fun x51 => (gz_aR M50 x51 (nI k)).bind fun x52 => (gz_aI M50 x52 (1 : Int32)).bind fun x53 => (gz_tI M50 x52 (1 : Int32) (x53 + (1 : Int32))).bind fun M54 => gz_z (1 : Int32) (some ((1 : Int32), M54))) fun j247 => if x44 = 0 then j247 M43 else (f_X10_look fu M43 (b + 110)).bind fun M45 => (gz_gR M45 10 14 (b + 110)).bind fun x46 => (gz_aR M45 x46 (nI k)).bind fun x47 => gz_b2 (f_X10_number fu M45 (b + 110) x47 (((4 : Int32) * x35) + (3 : Int32)) (0 : Int32) (99 : Int32)) fun x48 M49 => if x48 = 0 then gz_z (0 : Int32) (some ((0 : Int32), M49)) else j247 M49) = R := by
    intro R hR
    rw [← hR, vl_nl' fu l0 hm.2.1, Option.bind_some, n1, Option.bind_some, (vl_l l1).1, Option.bind_some, (vl_l l1).2.1, Option.bind_some, e4, e43, t10, Option.bind_some, (vl_l l10).1, Option.bind_some, (vl_l l10).2.1, Option.bind_some]
    rfl
  obtain ⟨O10, K10⟩ := rm_ns hO hD w10 (by unfold pc_M; omega)
  have row10 := (vl_l l10).2.2
  obtain ⟨a3l, a3r⟩ := rm_3 hfu O10 K10 kk1 r10 (r := b + 110 + 32 + k) (i := 4 * pv_nl V) (len := 40) (hi := 40) row10 (by omega) (by omega) (by omega) (by omega) (by omega)
  obtain ⟨o3l, o3r⟩ := p3_ok (hi := 40) kk1 hT
  have W : ∀ {D'}, qM b (fun c => c = b + 110 + 32 + k) M10 D' → qM b (pc_M b k) D D' := fun q => w10.trans q (fun _ q => q) (fun c q => by unfold pc_M; omega)
  unfold pLa
  cases h0 : p3 T n 40 (nx T n t.2.2) with
  | inl f =>
    obtain ⟨D', s1, s2, s3⟩ := a3l f h0
    have s1' : f_X10_three fu M10 (b + 110) (b + 110 + 32 + k) (nI (4 * pv_nl V)) (40 : Int32) = some (0, D') := s1
    refine ⟨0, D', pre _ ?_, W s2, fun f' e => (by cases e; exact ⟨rfl, s3⟩), fun V' t' e => (by cases e)⟩
    rw [s1', pu_b2, if_pos rfl, pu_z0]
  | inr q =>
    obtain ⟨x0, x1, x2, t2⟩ := q
    obtain ⟨D4, s1, s2, s3, s4, s5, s6, s7⟩ := a3r _ _ _ _ h0
    have s1' : f_X10_three fu M10 (b + 110) (b + 110 + 32 + k) (nI (4 * pv_nl V)) (40 : Int32) = some (1, D4) := s1
    obtain ⟨-, -, -, kk2, -⟩ := o3r _ _ _ _ h0
    obtain ⟨O4, K4⟩ := rm_ns O10 K10 s2 (by omega)
    have l4' := vl_mk O4 (show k < 5 by omega)
    obtain ⟨b1, b2⟩ := rm_po (i' := nI (4 * pv_nl V + 3)) (lo' := 0) (hi' := 99) (k := k) (S := 14) (rr := b + 110 + 31) (r := b + 110 + 32 + k) (i := 4 * pv_nl V + 3) (len := 40) (w := 4) (W := 13) (lo := 0) (hi := 99) (d := 0) hfu O4 K4 kk2 s3 rfl rfl rfl rfl (vl_l l4').2.2 (by omega) (by omega) (by omega) (by omega) (by omega) (by omega) (by omega) (by rw [s7 _ (by omega)]; exact i3) (fun D' q1 q2 => ⟨(vl_l (l4'.same q1 q2)).1, (vl_l (l4'.same q1 q2)).2.1⟩)
    cases h1 : po T n 4 0 99 0 t2 with
    | inl f =>
      obtain ⟨D5, g1, g2, g3⟩ := b1 f h1
      refine ⟨0, D5, pre _ ?_, W (s2.trans g2 (fun _ q => q) (fun _ q => q)), fun f' e => (by simp only [h1] at e; cases e; exact ⟨rfl, g3⟩), fun V' t' e => (by simp only [h1] at e; cases e)⟩
      rw [s1', pu_b2, pu_10]
      exact g1 (fun M50 => (gz_gR M50 10 12 (b + 110)).bind fun x51 => (gz_aR M50 x51 (nI k)).bind fun x52 => (gz_aI M50 x52 (1 : Int32)).bind fun x53 => (gz_tI M50 x52 (1 : Int32) (x53 + (1 : Int32))).bind fun M54 => gz_z (1 : Int32) (some ((1 : Int32), M54)))
    | inr q =>
      obtain ⟨x3, t4⟩ := q
      obtain ⟨D6, y1, g2, y3, y4, y5⟩ := b2 _ _ h1
      have w6 : qM b (fun c => c = b + 110 + 32 + k) M10 D6 := s2.trans g2 (fun _ q => q) (fun _ q => q)
      obtain ⟨O6, K6⟩ := rm_ns O10 K10 w6 (by omega)
      have l6' := vl_mk O6 (show k < 5 by omega)
      have v6 : D6.2.2.1 (b + 110 + 20 + k) = D.2.2.1 (b + 110 + 20 + k) := by rw [w6.2.2.2.2.1 _ (by omega) (by omega)]; exact c10 _ (Or.inl rfl)
      have x31 : gz_aI D6 (b + 110 + 20 + k) (1 : Int32) = some (nI (pv_nl V)) := (pu_aI (i := 1) (vl_v l6').2.2 (by omega) (by omega)).trans (by rw [v6, hm.2.1])
      have x32 : gz_tI D6 (b + 110 + 20 + k) (1 : Int32) (nI (pv_nl V + 1)) = some (gz_sI D6 (b + 110 + 20 + k) 1 (nI (pv_nl V + 1))) := pu_tI (i := 1) _ (vl_v l6').2.2 (by omega) (by omega)
      refine ⟨1, gz_sI D6 (b + 110 + 20 + k) 1 (nI (pv_nl V + 1)), pre _ ?_, (W w6).row _ _ (by omega) (by unfold pc_M; omega), fun f' e => (by simp only [h1] at e; cases e), fun V' t' e => ?_⟩
      · rw [s1', pu_b2, pu_10]
        refine (y1 (fun M50 => (gz_gR M50 10 12 (b + 110)).bind fun x51 => (gz_aR M50 x51 (nI k)).bind fun x52 => (gz_aI M50 x52 (1 : Int32)).bind fun x53 => (gz_tI M50 x52 (1 : Int32) (x53 + (1 : Int32))).bind fun M54 => gz_z (1 : Int32) (some ((1 : Int32), M54)))).trans ?_
        try dsimp only
        rw [(vl_v l6').1, Option.bind_some, (vl_v l6').2.1, Option.bind_some, x31, Option.bind_some, pn_1, x32, Option.bind_some, pu_z1]
      · simp only [h1] at e
        cases e
        refine ⟨rfl, y3.row (by omega), pvm_fL hm pv_I9 (fun j hj => ?_) (fun j hj => ?_) (l4 ?_ ?_ ?_ ?_) ?_⟩
        · rw [pv_I0 hj, v6]
        · rw [pv_I1 (by omega), y5 _ (by omega), s7 _ (by omega)]; exact j10 j hj
        · rw [pv_I1 (by omega), y5 _ (by omega)]; exact s4
        · rw [pv_I1 (by omega), y5 _ (by omega)]; exact s5
        · rw [pv_I1 (by omega), y5 _ (by omega)]; exact s6
        · rw [pv_I1 (by omega)]; exact y4
        · rw [pv_I1 (by omega), w6.2.2.2.2.1 _ (by omega) (by omega)]; exact c10 _ (Or.inr rfl)
theorem rm_wa (hfu : 5000 ≤ fu) (hO : iv_O (b + 110) D) (hD : tM b T n D) (ht : tk T n t) (hr : rM b T t D) (hk : k < 4) (hm : pv_m (b + 110) k V D) : ∃ (r : Int32) (D1 D' : gz_M), f_X10_look fu D (b + 110) = some D1 ∧ gz_gR D1 10 12 (b + 110) = some (b + 110 + 19) ∧ gz_aR D1 (b + 110 + 19) (nI k) = some (b + 110 + 20 + k) ∧ f_X10_three fu D1 (b + 110) (b + 110 + 20 + k) (4 : Int32) (9 : Int32) = some (r, D') ∧ gz_z r (some (r, D')) = some (r, D') ∧ oM b k T (pWa T n V t) D r D' := by
  have hT := hD.2.1
  obtain ⟨D1, n1, n2, n3⟩ := rm_look hfu hO hD ht.2.1 hr.2.2.1
  obtain ⟨O1, K1⟩ := rm_ns hO hD n2 (fun q => q)
  obtain ⟨kk1, -⟩ := nx_ok (T := T) (n := n) (e := t.2.2) ht.2.1 hT
  have l1 := vl_mk O1 (show k < 5 by omega)
  obtain ⟨a3l, a3r⟩ := rm_3 hfu O1 K1 kk1 n3 (r := b + 110 + 20 + k) (i := 4) (len := 10) (hi := 9) (vl_v l1).2.2 (by omega) (by omega) (by omega) (by omega) (by omega)
  have qD : ∀ c, c ≠ b + 110 → D1.2.2.1 c = D.2.2.1 c := fun c q => n2.2.2.2.2.1 c q (fun q => q)
  have W : ∀ {D'}, qM b (fun c => c = b + 110 + 20 + k) D1 D' → qM b (pc_M b k) D D' := fun q => n2.trans q (fun _ q => q.elim) (fun c q => by unfold pc_M; omega)
  unfold pWa
  cases h0 : p3 T n 9 (nx T n t.2.2) with
  | inl f =>
    obtain ⟨D', s1, s2, s3⟩ := a3l f h0
    exact ⟨0, D1, D', n1, (vl_v l1).1, (vl_v l1).2.1, s1, pu_z0, W s2, fun f' e => (by cases e; exact ⟨rfl, s3⟩), fun V' t' e => by cases e⟩
  | inr q =>
    obtain ⟨x0, x1, x2, t2⟩ := q
    obtain ⟨D', s1, s2, s3, s4, s5, s6, s7⟩ := a3r _ _ _ _ h0
    refine ⟨1, D1, D', n1, (vl_v l1).1, (vl_v l1).2.1, s1, pu_z1, W s2, fun f' e => (by cases e), fun V' t' e => ?_⟩
    cases e
    obtain ⟨h1, h2, h3, h4, h5, h6, h7, h8⟩ := hm
    refine ⟨rfl, s3, ?_, ?_, ?_, ?_, l3 s4 s5 s6, fun m hm => ?_, fun j hj => ?_, fun j hj => ?_⟩
    · rw [s7 _ (by omega), qD _ (by omega)]; exact h1
    · rw [s7 _ (by omega), qD _ (by omega)]; exact h2
    · rw [s7 _ (by omega), qD _ (by omega)]; exact h3
    · rw [s7 _ (by omega), qD _ (by omega)]; exact h4
    · rw [s7 _ (by omega), qD _ (by omega)]; exact h6 m hm
    · rw [s2.2.2.2.2.1 _ (by omega) (by omega), qD _ (by omega)]; exact h7 j hj
    · rw [s2.2.2.2.2.1 _ (by omega) (by omega), qD _ (by omega)]; exact h8 j hj
theorem rm_ov (hfu : 5000 ≤ fu) (hO : iv_O (b + 110) D) (hD : tM b T n D) (ht : tk T n t) (hr : rM b T t D) (hk : k < 4) (hm : pv_m (b + 110) k V D) : ∃ (r : Int32) (D1 D' : gz_M), f_X10_look fu D (b + 110) = some D1 ∧ gz_gR D1 10 12 (b + 110) = some (b + 110 + 19) ∧ gz_aR D1 (b + 110 + 19) (nI k) = some (b + 110 + 20 + k) ∧ f_X10_three fu D1 (b + 110) (b + 110 + 20 + k) (7 : Int32) (30 : Int32) = some (r, D') ∧ gz_z r (some (r, D')) = some (r, D') ∧ oM b k T (pOv T n V t) D r D' := by
  have hT := hD.2.1
  obtain ⟨D1, n1, n2, n3⟩ := rm_look hfu hO hD ht.2.1 hr.2.2.1
  obtain ⟨O1, K1⟩ := rm_ns hO hD n2 (fun q => q)
  obtain ⟨kk1, -⟩ := nx_ok (T := T) (n := n) (e := t.2.2) ht.2.1 hT
  have l1 := vl_mk O1 (show k < 5 by omega)
  obtain ⟨a3l, a3r⟩ := rm_3 hfu O1 K1 kk1 n3 (r := b + 110 + 20 + k) (i := 7) (len := 10) (hi := 30) (vl_v l1).2.2 (by omega) (by omega) (by omega) (by omega) (by omega)
  have qD : ∀ c, c ≠ b + 110 → D1.2.2.1 c = D.2.2.1 c := fun c q => n2.2.2.2.2.1 c q (fun q => q)
  have W : ∀ {D'}, qM b (fun c => c = b + 110 + 20 + k) D1 D' → qM b (pc_M b k) D D' := fun q => n2.trans q (fun _ q => q.elim) (fun c q => by unfold pc_M; omega)
  unfold pOv
  cases h0 : p3 T n 30 (nx T n t.2.2) with
  | inl f =>
    obtain ⟨D', s1, s2, s3⟩ := a3l f h0
    exact ⟨0, D1, D', n1, (vl_v l1).1, (vl_v l1).2.1, s1, pu_z0, W s2, fun f' e => (by cases e; exact ⟨rfl, s3⟩), fun V' t' e => by cases e⟩
  | inr q =>
    obtain ⟨x0, x1, x2, t2⟩ := q
    obtain ⟨D', s1, s2, s3, s4, s5, s6, s7⟩ := a3r _ _ _ _ h0
    refine ⟨1, D1, D', n1, (vl_v l1).1, (vl_v l1).2.1, s1, pu_z1, W s2, fun f' e => (by cases e), fun V' t' e => ?_⟩
    cases e
    obtain ⟨h1, h2, h3, h4, h5, h6, h7, h8⟩ := hm
    refine ⟨rfl, s3, ?_, ?_, ?_, ?_, fun m hm => ?_, l3 s4 s5 s6, fun j hj => ?_, fun j hj => ?_⟩
    · rw [s7 _ (by omega), qD _ (by omega)]; exact h1
    · rw [s7 _ (by omega), qD _ (by omega)]; exact h2
    · rw [s7 _ (by omega), qD _ (by omega)]; exact h3
    · rw [s7 _ (by omega), qD _ (by omega)]; exact h4
    · rw [s7 _ (by omega), qD _ (by omega)]; exact h5 m hm
    · rw [s2.2.2.2.2.1 _ (by omega) (by omega), qD _ (by omega)]; exact h7 j hj
    · rw [s2.2.2.2.2.1 _ (by omega) (by omega), qD _ (by omega)]; exact h8 j hj
theorem rm_out (hfu : 5000 ≤ fu) (hO : iv_O (b + 110) D) (hD : tM b T n D) (ht : tk T n t) (hr : rM b T t D) (hk : k < 4) (hm : pv_m (b + 110) k V D) : ∃ (r : Int32) (D1 D' : gz_M), f_X10_look fu D (b + 110) = some D1 ∧ gz_gR D1 10 12 (b + 110) = some (b + 110 + 19) ∧ gz_aR D1 (b + 110 + 19) (nI k) = some (b + 110 + 20 + k) ∧ f_X10_number fu D1 (b + 110) (b + 110 + 20 + k) (2 : Int32) (0 : Int32) (99 : Int32) = some (r, D') ∧ gz_z r (some (r, D')) = some (r, D') ∧ oM b k T (pX T n V t) D r D' := by
  have hT := hD.2.1
  obtain ⟨D1, n1, n2, n3⟩ := rm_look hfu hO hD ht.2.1 hr.2.2.1
  obtain ⟨O1, K1⟩ := rm_ns hO hD n2 (fun q => q)
  obtain ⟨kk1, -⟩ := nx_ok (T := T) (n := n) (e := t.2.2) ht.2.1 hT
  have l1 := vl_mk O1 (show k < 5 by omega)
  obtain ⟨a3l, a3r⟩ := rm_n hfu O1 K1 kk1 n3 (r := b + 110 + 20 + k) (i := 2) (len := 10) (lo := 0) (hi := 99) (vl_v l1).2.2 (by omega) (by omega) (by omega) (by omega) (by omega) (by omega)
  have qD : ∀ c, c ≠ b + 110 → D1.2.2.1 c = D.2.2.1 c := fun c q => n2.2.2.2.2.1 c q (fun q => q)
  unfold pX
  cases h0 : pn T n 0 99 (nx T n t.2.2) with
  | none =>
    obtain ⟨D', s1, s2, s3⟩ := a3l h0
    exact ⟨0, D1, D', n1, (vl_v l1).1, (vl_v l1).2.1, s1, pu_z0, n2.trans s2 (fun _ q => q.elim) (fun _ q => q.elim), fun f' e => (by cases e; exact ⟨rfl, s3⟩), fun V' t' e => by cases e⟩
  | some q =>
    obtain ⟨x, t2⟩ := q
    obtain ⟨D', s1, s2, s3, s4, s5⟩ := a3r _ _ h0
    refine ⟨1, D1, D', n1, (vl_v l1).1, (vl_v l1).2.1, s1, pu_z1, n2.trans s2 (fun _ q => q.elim) (fun c q => by unfold pc_M; omega), fun f' e => (by cases e), fun V' t' e => ?_⟩
    cases e
    obtain ⟨h1, h2, h3, h4, h5, h6, h7, h8⟩ := hm
    refine ⟨rfl, s3, ?_, ?_, ?_, ?_, fun m hm => ?_, fun m hm => ?_, fun j hj => ?_, fun j hj => ?_⟩
    · rw [s5 _ (by omega), qD _ (by omega)]; exact h1
    · rw [s5 _ (by omega), qD _ (by omega)]; exact h2
    · exact s4
    · rw [s5 _ (by omega), qD _ (by omega)]; exact h4
    · rw [s5 _ (by omega), qD _ (by omega)]; exact h5 m hm
    · rw [s5 _ (by omega), qD _ (by omega)]; exact h6 m hm
    · rw [s2.2.2.2.2.1 _ (by omega) (by omega), qD _ (by omega)]; exact h7 j hj
    · rw [s2.2.2.2.2.1 _ (by omega) (by omega), qD _ (by omega)]; exact h8 j hj
theorem rm_grow (hfu : 5000 ≤ fu) (hO : iv_O (b + 110) D) (hD : tM b T n D) (ht : tk T n t) (hr : rM b T t D) (hk : k < 4) (hm : pv_m (b + 110) k V D) : ∃ (r : Int32) (D1 D' : gz_M), f_X10_look fu D (b + 110) = some D1 ∧ gz_gR D1 10 12 (b + 110) = some (b + 110 + 19) ∧ gz_aR D1 (b + 110 + 19) (nI k) = some (b + 110 + 20 + k) ∧ f_X10_number fu D1 (b + 110) (b + 110 + 20 + k) (3 : Int32) (0 : Int32) (9 : Int32) = some (r, D') ∧ gz_z r (some (r, D')) = some (r, D') ∧ oM b k T (pG T n V t) D r D' := by
  have hT := hD.2.1
  obtain ⟨D1, n1, n2, n3⟩ := rm_look hfu hO hD ht.2.1 hr.2.2.1
  obtain ⟨O1, K1⟩ := rm_ns hO hD n2 (fun q => q)
  obtain ⟨kk1, -⟩ := nx_ok (T := T) (n := n) (e := t.2.2) ht.2.1 hT
  have l1 := vl_mk O1 (show k < 5 by omega)
  obtain ⟨a3l, a3r⟩ := rm_n hfu O1 K1 kk1 n3 (r := b + 110 + 20 + k) (i := 3) (len := 10) (lo := 0) (hi := 9) (vl_v l1).2.2 (by omega) (by omega) (by omega) (by omega) (by omega) (by omega)
  have qD : ∀ c, c ≠ b + 110 → D1.2.2.1 c = D.2.2.1 c := fun c q => n2.2.2.2.2.1 c q (fun q => q)
  unfold pG
  cases h0 : pn T n 0 9 (nx T n t.2.2) with
  | none =>
    obtain ⟨D', s1, s2, s3⟩ := a3l h0
    exact ⟨0, D1, D', n1, (vl_v l1).1, (vl_v l1).2.1, s1, pu_z0, n2.trans s2 (fun _ q => q.elim) (fun _ q => q.elim), fun f' e => (by cases e; exact ⟨rfl, s3⟩), fun V' t' e => by cases e⟩
  | some q =>
    obtain ⟨x, t2⟩ := q
    obtain ⟨D', s1, s2, s3, s4, s5⟩ := a3r _ _ h0
    refine ⟨1, D1, D', n1, (vl_v l1).1, (vl_v l1).2.1, s1, pu_z1, n2.trans s2 (fun _ q => q.elim) (fun c q => by unfold pc_M; omega), fun f' e => (by cases e), fun V' t' e => ?_⟩
    cases e
    obtain ⟨h1, h2, h3, h4, h5, h6, h7, h8⟩ := hm
    refine ⟨rfl, s3, ?_, ?_, ?_, ?_, fun m hm => ?_, fun m hm => ?_, fun j hj => ?_, fun j hj => ?_⟩
    · rw [s5 _ (by omega), qD _ (by omega)]; exact h1
    · rw [s5 _ (by omega), qD _ (by omega)]; exact h2
    · rw [s5 _ (by omega), qD _ (by omega)]; exact h3
    · exact s4
    · rw [s5 _ (by omega), qD _ (by omega)]; exact h5 m hm
    · rw [s5 _ (by omega), qD _ (by omega)]; exact h6 m hm
    · rw [s2.2.2.2.2.1 _ (by omega) (by omega), qD _ (by omega)]; exact h7 j hj
    · rw [s2.2.2.2.2.1 _ (by omega) (by omega), qD _ (by omega)]; exact h8 j hj
theorem rm_st (hfu : 5000 ≤ fu) (hO : iv_O (b + 110) D) (hD : tM b T n D) (ht : tk T n t) (hr : rM b T t D) (hk : k < 4) (hV : pv_ok V) (hm : pv_m (b + 110) k V D) : ∃ r D', f_X10_statement fu D (b + 110) (nI k) = some (r, D') ∧ oM b k T (ps T n V t) D r D' := by
  have l0 := vl_mk hO (show k < 5 by omega)
  have wP : ∀ a, a < 9 → wd T t a → f_X10_isWord fu D (b + 110) (a + 9) = some 1 := fun a ha q => (rm_wd hfu hO hD ht hr (by omega)).1 ((wd_9 ha).mpr q)
  have wN : ∀ a, a < 9 → ¬ wd T t a → f_X10_isWord fu D (b + 110) (a + 9) = some 0 := fun a ha q => (rm_wd hfu hO hD ht hr (by omega)).2 (fun z => q ((wd_9 ha).mp z))
  have o1 := hV.1
  have o2 := hV.2.1
  have hwr := rm_wrong fu hO hr
  have ofail : oM b k T (.inl t.2.1) D 0 (gz_sI D (b + 110) 25 (nI t.2.1)) := ⟨qM.refl.sI 25 _ (by omega), fun f e => (by cases e; exact ⟨rfl, pv_I9⟩), fun V' t' e => by cases e⟩
  have rest : ∃ r D', ((f_X10_isWord fu D (b + 110) 14).bind fun x55 => if x55 = 0 then (f_X10_isWord fu D (b + 110) 15).bind fun x61 => if x61 = 0 then (f_X10_isWord fu D (b + 110) 16).bind fun x67 => if x67 = 0 then (f_X10_isWord fu D (b + 110) 17).bind fun x73 => if x73 = 0 then gz_b2 (f_X10_wrong fu D (b + 110)) fun x79 M80 => gz_z x79 (some (x79, M80)) else (f_X10_look fu D (b + 110)).bind fun M74 => (gz_gR M74 10 12 (b + 110)).bind fun x75 => (gz_aR M74 x75 (nI k)).bind fun x76 => gz_b2 (f_X10_number fu M74 (b + 110) x76 (3 : Int32) (0 : Int32) (9 : Int32)) fun x77 M78 => gz_z x77 (some (x77, M78)) else (f_X10_look fu D (b + 110)).bind fun M68 => (gz_gR M68 10 12 (b + 110)).bind fun x69 => (gz_aR M68 x69 (nI k)).bind fun x70 => gz_b2 (f_X10_number fu M68 (b + 110) x70 (2 : Int32) (0 : Int32) (99 : Int32)) fun x71 M72 => gz_z x71 (some (x71, M72)) else (f_X10_look fu D (b + 110)).bind fun M62 => (gz_gR M62 10 12 (b + 110)).bind fun x63 => (gz_aR M62 x63 (nI k)).bind fun x64 => gz_b2 (f_X10_three fu M62 (b + 110) x64 (7 : Int32) (30 : Int32)) fun x65 M66 => gz_z x65 (some (x65, M66)) else (f_X10_look fu D (b + 110)).bind fun M56 => (gz_gR M56 10 12 (b + 110)).bind fun x57 => (gz_aR M56 x57 (nI k)).bind fun x58 => gz_b2 (f_X10_three fu M56 (b + 110) x58 (4 : Int32) (9 : Int32)) fun x59 M60 => gz_z x59 (some (x59, M60))) = some (r, D') ∧ oM b k T (@ite _ (wd T t 5) (Classical.propDecidable _) (pWa T n V t) (@ite _ (wd T t 6) (Classical.propDecidable _) (pOv T n V t) (@ite _ (wd T t 7) (Classical.propDecidable _) (pX T n V t) (@ite _ (wd T t 8) (Classical.propDecidable _) (pG T n V t) (.inl t.2.1))))) D r D' := by
    by_cases c5 : wd T t 5
    · obtain ⟨r, D1, D', e1, e2, e3, e4, e5, e6⟩ := rm_wa hfu hO hD ht hr hk hm
      rw [wP 5 (by omega) c5, Option.bind_some, pu_10, if_pos c5, e1, Option.bind_some, e2, Option.bind_some, e3, Option.bind_some, e4, pu_b2, e5]
      exact ⟨r, D', rfl, e6⟩
    · rw [wN 5 (by omega) c5, Option.bind_some, if_pos rfl, if_neg c5]
      by_cases c6 : wd T t 6
      · obtain ⟨r, D1, D', e1, e2, e3, e4, e5, e6⟩ := rm_ov hfu hO hD ht hr hk hm
        rw [wP 6 (by omega) c6, Option.bind_some, pu_10, if_pos c6, e1, Option.bind_some, e2, Option.bind_some, e3, Option.bind_some, e4, pu_b2, e5]
        exact ⟨r, D', rfl, e6⟩
      · rw [wN 6 (by omega) c6, Option.bind_some, if_pos rfl, if_neg c6]
        by_cases c7 : wd T t 7
        · obtain ⟨r, D1, D', e1, e2, e3, e4, e5, e6⟩ := rm_out hfu hO hD ht hr hk hm
          rw [wP 7 (by omega) c7, Option.bind_some, pu_10, if_pos c7, e1, Option.bind_some, e2, Option.bind_some, e3, Option.bind_some, e4, pu_b2, e5]
          exact ⟨r, D', rfl, e6⟩
        · rw [wN 7 (by omega) c7, Option.bind_some, if_pos rfl, if_neg c7]
          by_cases c8 : wd T t 8
          · obtain ⟨r, D1, D', e1, e2, e3, e4, e5, e6⟩ := rm_grow hfu hO hD ht hr hk hm
            rw [wP 8 (by omega) c8, Option.bind_some, pu_10, if_pos c8, e1, Option.bind_some, e2, Option.bind_some, e3, Option.bind_some, e4, pu_b2, e5]
            exact ⟨r, D', rfl, e6⟩
          · rw [wN 8 (by omega) c8, Option.bind_some, if_pos rfl, if_neg c8, hwr, pu_b2, pu_z0]
            exact ⟨0, _, rfl, ofail⟩
  unfold f_X10_statement ps
  rw [hO.g]
  simp only [gz_jn]
  by_cases c0 : wd T t 0 ∧ pv_nf V < 12
  · rw [if_pos c0, wP 0 (by omega) c0.1, Option.bind_some, pu_10, vl_nf fu l0 hm.1, Option.bind_some, if_neg (show ¬ (12 : Int32) ≤ nI (pv_nf V) from pn_nle (n := 12) c0.2 (by omega)), ← vl_nf fu l0 hm.1]
    exact rm_foot hfu hO hD ht hr hk hV hm c0.2
  · rw [if_neg c0]
    have skip : ∀ {α : Type} (A B : Option α), ((f_X10_isWord fu D (b + 110) 9).bind fun x1 => if x1 = 0 then A else (f_X10_feetOf fu D (b + 110) (nI k)).bind fun x2 => if (12 : Int32) ≤ x2 then A else B) = A := by
      intro α A B
      by_cases c : wd T t 0
      · rw [wP 0 (by omega) c, Option.bind_some, pu_10, vl_nf fu l0 hm.1, Option.bind_some, if_pos (show (12 : Int32) ≤ nI (pv_nf V) from pn_le (n := 12) (Nat.le_of_not_lt (fun q => c0 ⟨c, q⟩)) (by omega))]
      · rw [wN 0 (by omega) c, Option.bind_some, if_pos rfl]
    rw [skip]
    by_cases c3 : wd T t 3 ∧ pv_nl V < 10
    · rw [if_pos c3, wP 3 (by omega) c3.1, Option.bind_some, pu_10, vl_nl' fu l0 hm.2.1, Option.bind_some, if_neg (show ¬ (10 : Int32) ≤ nI (pv_nl V) from pn_nle (n := 10) c3.2 (by omega)), ← vl_nl' fu l0 hm.2.1]
      exact rm_last hfu hO hD ht hr hk hV hm c3.2
    · rw [if_neg c3]
      have skip2 : ∀ {α : Type} (A B : Option α), ((f_X10_isWord fu D (b + 110) 12).bind fun x1 => if x1 = 0 then A else (f_X10_lastsOf fu D (b + 110) (nI k)).bind fun x2 => if (10 : Int32) ≤ x2 then A else B) = A := by
        intro α A B
        by_cases c : wd T t 3
        · rw [wP 3 (by omega) c, Option.bind_some, pu_10, vl_nl' fu l0 hm.2.1, Option.bind_some, if_pos (show (10 : Int32) ≤ nI (pv_nl V) from pn_le (n := 10) (Nat.le_of_not_lt (fun q => c3 ⟨c, q⟩)) (by omega))]
        · rw [wN 3 (by omega) c, Option.bind_some, if_pos rfl]
      rw [skip2]
      exact rest
end STM
