/-! valley -/
theorem tp_T {b : Nat} {M : gz_M} (h : pi_tp b M) : ∃ (n : Nat) (T : Nat → Nat), tC b T n M ∧ tM b T n M := by
  obtain ⟨n, h1, h2, h3, h4⟩ := h
  have hch : ∀ j, ∃ c : Nat, j < n → c < 256 ∧ M.2.2.1 (b + 2) j = nI c := fun j => by
    by_cases q : j < n
    · obtain ⟨-, c, q1, q2⟩ := h4 j q
      exact ⟨c, fun _ => ⟨q1, q2⟩⟩
    · exact ⟨0, fun z => absurd z q⟩
  obtain ⟨T, hT⟩ := Classical.axiomOfChoice hch
  exact ⟨n, T, ⟨h1, fun j hj => (hT j hj).1, h2, fun j hj => (hT j hj).2⟩, ⟨h1, fun j hj => (hT j hj).1, h3, fun j hj => by rw [(h4 j hj).1]; exact (hT j hj).2⟩⟩
theorem fl_fill {fu : Nat} (hfu : 5000 ≤ fu) {a z : Nat} {x : Int32} {C : gz_M} (h : C.2.1 a = (20, z)) (hz : z ≤ 1000) : ∃ C', f_J7_fill_53178 fu C a x = some C' ∧ pIo a 0 (fun _ => x) C z C' := by
  obtain ⟨C', g1, g2⟩ := pl_up (σ := gz_M) (fun fuel i s => lp_J7_fill_53178_5 (fun M5 => some M5) a x (nI z) fuel i s) (fun s => some s) (pIo a 0 (fun _ => x) C) z (fun fuel i s hi hq => ⟨gz_sI s a (0 + i) x, hq.step, by
    have ks : s.2.1 a = (20, z) := by rw [hq.2.1]; exact h
    rw [lp_J7_fill_53178_5, if_neg (pn_nle hi (by omega)), pu_tI _ ks hi (by omega), Option.bind_some, pn_1, Nat.zero_add]⟩) (fun fuel s hq => by
    rw [lp_J7_fill_53178_5, if_pos (pn_le (Nat.le_refl _) (by omega))]) z 0 C fu (by omega) (by omega) pIo.zero
  refine ⟨C', ?_, g1⟩
  unfold f_J7_fill_53178
  rw [pu_ln h (by decide), Option.bind_some]
  exact g2
def V0 : pv_V := (0, 0, 50, 1, fun _ => 1, fun _ => 9, fun _ => 0, fun _ => 0)
theorem V0_ok : pv_ok V0 := ⟨by show 0 ≤ 12; omega, by show 0 ≤ 10; omega, by show 50 ≤ 99; omega, by show 1 ≤ 9; omega, fun m hm => ⟨by show 1 ≤ 9; omega, by show 9 ≤ 30; omega⟩, fun f hf => absurd hf (Nat.not_lt_zero f), fun l hl => absurd hl (Nat.not_lt_zero l)⟩
theorem rc_be {fu : Nat} (hfu : 5000 ≤ fu) {a : Nat} {C : gz_M} (hv : vl_c a C) : ∃ C', f_X7_becomeEmpty fu C a = some C' ∧ pf_f (fun c => a ≤ c ∧ c < a + 5) C C' ∧ pv_c a V0 C' := by
  have w4 : pf_f (fun c => a ≤ c ∧ c < a + 5) C (gz_sI (gz_sI (gz_sI (gz_sI C a 4 0) a 5 0) a 6 50) a 7 1) := (((pf_f.one (by omega)).two (by omega)).two (by omega)).two (by omega)
  have k1 : (gz_sI C a 4 0).2.1 a = (8, 0) := hv.1
  have k2 : (gz_sI (gz_sI C a 4 0) a 5 0).2.1 a = (8, 0) := hv.1
  have k3 : (gz_sI (gz_sI (gz_sI C a 4 0) a 5 0) a 6 50).2.1 a = (8, 0) := hv.1
  have vv : (gz_sI (gz_sI (gz_sI (gz_sI C a 4 0) a 5 0) a 6 50) a 7 1).2.2.1 a 4 = 0 ∧ (gz_sI (gz_sI (gz_sI (gz_sI C a 4 0) a 5 0) a 6 50) a 7 1).2.2.1 a 5 = 0 ∧ (gz_sI (gz_sI (gz_sI (gz_sI C a 4 0) a 5 0) a 6 50) a 7 1).2.2.1 a 6 = 50 ∧ (gz_sI (gz_sI (gz_sI (gz_sI C a 4 0) a 5 0) a 6 50) a 7 1).2.2.1 a 7 = 1 := by
    simp only [pu_same]
    exact ⟨rfl, rfl, rfl, rfl⟩
  have run : ∀ R, ((gz_gR (gz_sI (gz_sI (gz_sI (gz_sI C a 4 0) a 5 0) a 6 50) a 7 1) 7 2 a).bind fun x5 => (f_J7_fill_53178 fu (gz_sI (gz_sI (gz_sI (gz_sI C a 4 0) a 5 0) a 6 50) a 7 1) x5 (1 : Int32)).bind fun M6 => (gz_gR M6 7 3 a).bind fun x7 => (f_J7_fill_53178 fu M6 x7 (9 : Int32)).bind fun M8 => some M8) = R → f_X7_becomeEmpty fu C a = R := by
    intro R hR
    unfold f_X7_becomeEmpty
    rw [hv.gd, pu_pI (ci := 7) 4 _ hv.1, Option.bind_some, pu_pI (ci := 7) 5 _ k1, Option.bind_some, pu_pI (ci := 7) 6 _ k2, Option.bind_some, pu_pI (ci := 7) 7 _ k3, Option.bind_some, hR]
  generalize gz_sI (gz_sI (gz_sI (gz_sI C a 4 0) a 5 0) a 6 50) a 7 1 = N at w4 vv run
  have vN : vl_c a N := hv.same w4.2.1 w4.2.2.2.1
  obtain ⟨N1, a1, a2⟩ := fl_fill hfu (x := 1) vN.2.2.2.1 (by omega)
  have w5 : pf_f (fun c => a ≤ c ∧ c < a + 5) C N1 := w4.trans (a2.f (P := fun c => a ≤ c ∧ c < a + 5) (by omega)) (fun _ q => q) (fun _ q => q)
  have vN1 : vl_c a N1 := hv.same w5.2.1 w5.2.2.2.1
  obtain ⟨N2, b1, b2⟩ := fl_fill hfu (x := 9) vN1.2.2.2.2.1 (by omega)
  refine ⟨N2, run _ ?_, w5.trans (b2.f (P := fun c => a ≤ c ∧ c < a + 5) (by omega)) (fun _ q => q) (fun _ q => q), ?_⟩
  · rw [pu_gR (ci := 7) vN.1 vN.2.2.2.2.2.2.2.1, Option.bind_some, a1, Option.bind_some, pu_gR (ci := 7) vN1.1 vN1.2.2.2.2.2.2.2.2, Option.bind_some, b1, Option.bind_some]
  · have e : ∀ j, N2.2.2.1 a j = N.2.2.1 a j := fun j => by rw [b2.2.2.2.2.1 _ (by omega), a2.2.2.2.2.1 _ (by omega)]
    refine ⟨?_, ?_, ?_, ?_, fun m hm => ?_, fun m hm => ?_, fun j hj => absurd hj (Nat.not_lt_zero j), fun j hj => absurd hj (Nat.not_lt_zero j)⟩
    · rw [e, vv.1]; rfl
    · rw [e, vv.2.1]; rfl
    · rw [e, vv.2.2.1]; rfl
    · rw [e, vv.2.2.2]; rfl
    · rw [b2.2.2.2.2.1 _ (by omega), a2.2.2.2.2.2, if_pos (by omega)]; rfl
    · rw [b2.2.2.2.2.2, if_pos (by omega)]; rfl
theorem rm_be {fu b k : Nat} (hfu : 5000 ≤ fu) (hk : k < 4) {D : gz_M} (hO : iv_O (b + 110) D) : ∃ D', f_X10_read fu D (b + 110) (nI k) = ((gz_pI D' 10 21 (b + 110) (0 : Int32)).bind fun M12 => (f_X10_look fu M12 (b + 110)).bind fun M13 => gz_b2 (f_X10_statement fu M13 (b + 110) (nI k)) fun x14 M15 => if x14 = 0 then gz_z (0 : Int32) (some ((0 : Int32), M15)) else lp_X10_read_70 kM fu (b + 110) (nI k) fu M15) ∧ qM b (pc_M b k) D D' ∧ pv_m (b + 110) k V0 D' := by
  have l0 := vl_mk hO (show k < 5 by omega)
  obtain ⟨f, hf⟩ : ∃ f, fu = f + 1 + 1 + 1 + 1 := ⟨fu - 4, by omega⟩
  obtain ⟨Q, hQ⟩ : ∃ Q, Q = b + 110 + 20 + k := ⟨_, rfl⟩
  have kq : D.2.1 Q = (20, 10) := by rw [hQ]; exact (vl_v l0).2.2
  have key : ∀ (N : gz_M) (j : Nat) (x v : Int32), N.2.1 = D.2.1 → x = nI j → j < 10 → gz_tI N Q x v = some (gz_sI N Q j v) := fun N j x v h1 h2 h3 => by
    rw [h2]
    exact pu_tI v (show N.2.1 Q = (20, 10) by rw [h1]; exact kq) h3 (by decide)
  have stp : ∀ (J : gz_M → Option (Int32 × gz_M)) (N : gz_M) (m fl : Nat), N.2.1 = D.2.1 → m < 3 → lp_X10_read_26 J Q (fl + 1) (nI m) N = lp_X10_read_26 J Q fl (nI (m + 1)) (gz_sI (gz_sI N Q (4 + m) 1) Q (7 + m) 9) := fun J N m fl h1 hm => by
    rw [lp_X10_read_26, if_neg (show ¬ (3 : Int32) ≤ nI m from pn_nle (n := 3) hm (by omega)), key N (4 + m) (4 + nI m) 1 h1 (nI_add 4 m) (by omega), Option.bind_some, key (gz_sI N Q (4 + m) 1) (7 + m) (7 + nI m) 9 h1 (nI_add 7 m) (by omega), Option.bind_some, pn_1]
  have w : qM b (pc_M b k) D (gz_sI (gz_sI (gz_sI (gz_sI (gz_sI (gz_sI (gz_sI (gz_sI (gz_sI (gz_sI D Q 0 0) Q 1 0) Q 2 50) Q 3 1) Q (4 + 0) 1) Q (7 + 0) 9) Q (4 + (0 + 1)) 1) Q (7 + (0 + 1)) 9) Q (4 + (0 + 1 + 1)) 1) Q (7 + (0 + 1 + 1)) 9) := by
    have hq1 : Q ≠ b + 110 := by omega
    have hq2 : pc_M b k Q := by unfold pc_M; omega
    exact (((((((((qM.refl.row _ _ hq1 hq2).row _ _ hq1 hq2).row _ _ hq1 hq2).row _ _ hq1 hq2).row _ _ hq1 hq2).row _ _ hq1 hq2).row _ _ hq1 hq2).row _ _ hq1 hq2).row _ _ hq1 hq2).row _ _ hq1 hq2
  refine ⟨_, ?_, w, ?_⟩
  · unfold f_X10_read
    rw [hO.g, (vl_v l0).1, Option.bind_some, (vl_v l0).2.1, Option.bind_some, ← hQ, key D 0 0 0 rfl rfl (by omega), Option.bind_some, key (gz_sI D Q 0 0) 1 1 0 rfl rfl (by omega), Option.bind_some, key (gz_sI (gz_sI D Q 0 0) Q 1 0) 2 2 50 rfl rfl (by omega), Option.bind_some, key (gz_sI (gz_sI (gz_sI D Q 0 0) Q 1 0) Q 2 50) 3 3 1 rfl rfl (by omega), Option.bind_some]
    have g : ∀ (J : gz_M → Option (Int32 × gz_M)) (F : Nat), F = f + 1 + 1 + 1 + 1 → lp_X10_read_26 J Q F (0 : Int32) (gz_sI (gz_sI (gz_sI (gz_sI D Q 0 0) Q 1 0) Q 2 50) Q 3 1) = J (gz_sI (gz_sI (gz_sI (gz_sI (gz_sI (gz_sI (gz_sI (gz_sI (gz_sI (gz_sI D Q 0 0) Q 1 0) Q 2 50) Q 3 1) Q (4 + 0) 1) Q (7 + 0) 9) Q (4 + (0 + 1)) 1) Q (7 + (0 + 1)) 9) Q (4 + (0 + 1 + 1)) 1) Q (7 + (0 + 1 + 1)) 9) := by
      rintro J F rfl
      refine (stp J (gz_sI (gz_sI (gz_sI (gz_sI D Q 0 0) Q 1 0) Q 2 50) Q 3 1) 0 _ rfl (by omega)).trans ?_
      rw [stp J (gz_sI (gz_sI (gz_sI (gz_sI (gz_sI (gz_sI D Q 0 0) Q 1 0) Q 2 50) Q 3 1) Q (4 + 0) 1) Q (7 + 0) 9) (0 + 1) _ rfl (by omega), stp J (gz_sI (gz_sI (gz_sI (gz_sI (gz_sI (gz_sI (gz_sI (gz_sI D Q 0 0) Q 1 0) Q 2 50) Q 3 1) Q (4 + 0) 1) Q (7 + 0) 9) Q (4 + (0 + 1)) 1) Q (7 + (0 + 1)) 9) (0 + 1 + 1) _ rfl (by omega), lp_X10_read_26, if_pos (show (3 : Int32) ≤ nI (0 + 1 + 1 + 1) by decide)]
    rw [g _ fu hf]
    rfl
  · refine ⟨?_, ?_, ?_, ?_, l3 ?_ ?_ ?_, l3 ?_ ?_ ?_, fun j hj => absurd hj (Nat.not_lt_zero j), fun j hj => absurd hj (Nat.not_lt_zero j)⟩
    all_goals (rw [← hQ]; simp only [pu_same]; rfl)
theorem rc_lpe {fu b a : Nat} {C : gz_M} (hL : iv_L b C) (h4 : ¬ C.2.2.1 (b + 3) 4 = -1) (i f : Nat) (J : gz_M → Option (Int32 × gz_M)) : lp_X2_readInto_25 J fu (b + 3) a (f + 1) (nI i) C = J C := by
  obtain ⟨k1, k2, k3⟩ := lr_k hL
  rw [lp_X2_readInto_25, pu_gI (ci := 2) 4 k1, Option.bind_some, if_neg h4]
  by_cases c : (250 : Int32) ≤ nI i
  · rw [if_pos c]
  · rw [if_neg c]
theorem rd_all {fu b n k : Nat} {T : Nat → Nat} (hfu : 5000 ≤ fu) (hk : k < 4) (hn : n ≤ 250) (hT : ∀ j, j < n → T j < 256) : ∃ o : Nat ⊕ pv_V, (∀ f, o = .inl f → f ≤ n) ∧ (∀ V', o = .inr V' → pv_ok V') ∧ (∀ C : gz_M, iv_L b C → tC b T n C → ∃ p C', f_X2_readInto fu C (b + 3) (b + 13 + 5 * k) = some (p, C') ∧ pf_f (fun c => c = b + 3 ∨ pc_C b k c) C C' ∧ (∀ f, o = .inl f → p = nI f) ∧ ∀ V', o = .inr V' → p = -1 ∧ pv_c (b + 13 + 5 * k) V' C') ∧ ∀ D : gz_M, iv_O (b + 110) D → tM b T n D → ∃ r D', f_X10_read fu D (b + 110) (nI k) = some (r, D') ∧ qM b (pc_M b k) D D' ∧ (∀ f, o = .inl f → r = 0 ∧ D'.2.2.1 (b + 110) 25 = nI f) ∧ ∀ V', o = .inr V' → r = 1 ∧ pv_m (b + 110) k V' D' := by
  obtain ⟨kk1, kk2⟩ := nx_ok (T := T) (n := n) (e := 0) (by omega) hT
  obtain ⟨p1, p2⟩ := ps_ok V0_ok kk1 hT
  have cls : ∀ C : gz_M, iv_L b C → tC b T n C → ∃ C', f_X2_readInto fu C (b + 3) (b + 13 + 5 * k) = lp_X2_readInto_25 (kC fu b) fu (b + 3) (b + 13 + 5 * k) fu (0 : Int32) C' ∧ oC b k (ps T n V0 (nx T n 0)) C C' := by
    intro C hL hC
    obtain ⟨k1, k2, k3⟩ := lr_k hL
    obtain ⟨C1, a1, a2, a3⟩ := rc_be hfu (vl_k hL hk)
    have q1 : C1.2.1 (b + 3) = (3, 0) := by rw [a2.2.1]; exact k1
    have q2 : (gz_sI C1 (b + 3) 4 (-1)).2.1 (b + 3) = (3, 0) := q1
    have w3 : pf_f (fun c => c = b + 3 ∨ pc_C b k c) C (gz_sI (gz_sI C1 (b + 3) 4 (-1)) (b + 3) 3 0) := ((a2.trans pf_f.refl (S := fun c => c = b + 3 ∨ pc_C b k c) (fun c q => Or.inr (by unfold pc_C; omega)) (fun _ (q : False) => q.elim)).two (Or.inl rfl)).two (Or.inl rfl)
    have L3 : iv_L b (gz_sI (gz_sI C1 (b + 3) 4 (-1)) (b + 3) 3 0) := hL.same w3.2.1 w3.2.2.2.1
    have K3 : tC b T n (gz_sI (gz_sI C1 (b + 3) 4 (-1)) (b + 3) 3 0) := hC.same (w3.2.2.2.2 _ (by unfold pc_C; omega)) (w3.2.2.2.2 _ (by unfold pc_C; omega))
    obtain ⟨C4, n1, n2, n3, n4⟩ := rc_next hfu L3 K3 (e := 0) (by omega) pv_I9
    obtain ⟨L4, K4⟩ := rc_ns L3 K3 n2
    have f4 : C4.2.2.1 (b + 3) 4 = -1 := n4.trans ((pv_I0 (by omega)).trans pv_I9)
    have m4 : pv_c (b + 13 + 5 * k) V0 C4 := a3.same (fun c q1 q2 => by rw [n2.2.2.2.2 c (by omega), pv_I1 (by omega), pv_I1 (by omega)])
    obtain ⟨C5, e1, e2, e3⟩ := rc_st hfu L4 K4 kk1 n3 f4 hk V0_ok m4
    refine ⟨C5, ?_, (w3.trans n2 (S := fun c => c = b + 3 ∨ pc_C b k c) (fun _ q => q) (fun _ q => Or.inl q)).trans e2 (fun _ q => q) (fun _ q => q), e3⟩
    unfold f_X2_readInto
    rw [pu_gd (ci := 2) k1, a1, Option.bind_some, pu_pI (ci := 2) 4 _ q1, Option.bind_some, pu_pI (ci := 2) 3 _ q2, Option.bind_some, n1, Option.bind_some, e1, Option.bind_some]
    rfl
  have mdl : ∀ D : gz_M, iv_O (b + 110) D → tM b T n D → ∃ (r : Int32) (D' : gz_M), f_X10_read fu D (b + 110) (nI k) = (if r = 0 then some (0, D') else lp_X10_read_70 kM fu (b + 110) (nI k) fu D') ∧ oM b k T (ps T n V0 (nx T n 0)) D r D' := by
    intro D hO hD
    obtain ⟨D1, a1, a2, a3⟩ := rm_be (b := b) hfu hk hO
    have w2 : qM b (pc_M b k) D (gz_sI D1 (b + 110) 21 0) := a2.sI 21 _ (by omega)
    obtain ⟨O2, K2⟩ := rm_ns hO hD w2 (by unfold pc_M; omega)
    obtain ⟨D3, n1, n2, n3⟩ := rm_look hfu O2 K2 (e := 0) (by omega) pv_I9
    obtain ⟨O3, K3⟩ := rm_ns O2 K2 n2 (fun q => q)
    have m3 : pv_m (b + 110) k V0 D3 := a3.same (by rw [n2.2.2.2.2.1 _ (by omega) (fun q => q), pv_I1 (by omega)]) (by rw [n2.2.2.2.2.1 _ (by omega) (fun q => q), pv_I1 (by omega)]) (by rw [n2.2.2.2.2.1 _ (by omega) (fun q => q), pv_I1 (by omega)])
    obtain ⟨r, D', e1, e2, e3⟩ := rm_st hfu O3 K3 kk1 n3 hk V0_ok m3
    have kd1 : D1.2.1 (b + 110) = (11, 0) := by rw [a2.2.1]; exact ly_m0 hO
    refine ⟨r, D', ?_, (w2.trans n2 (S := pc_M b k) (fun _ q => q) (fun _ q => q.elim)).trans e2 (fun _ q => q) (fun _ q => q), e3⟩
    rw [a1, pu_pI (ci := 10) 21 _ kd1, Option.bind_some, n1, Option.bind_some, e1, pu_b2, pu_z0]
  cases hp : ps T n V0 (nx T n 0) with
  | inl f0 =>
    have hf0 := p1 f0 hp
    refine ⟨.inl f0, fun f e => (by cases e; exact hf0), fun V' e => (by cases e), fun C hL hC => ?_, fun D hO hD => ?_⟩
    · obtain ⟨C', e1, e2, e3, -⟩ := cls C hL hC
      have L' : iv_L b C' := hL.same e2.2.1 e2.2.2.2.1
      have e4 := e3 f0 hp
      obtain ⟨f, hf⟩ : ∃ f, fu = f + 1 := ⟨fu - 1, by omega⟩
      have e5 : ∀ F, F = f + 1 → lp_X2_readInto_25 (kC fu b) fu (b + 3) (b + 13 + 5 * k) F (0 : Int32) C' = kC fu b C' := by
        rintro F rfl
        exact rc_lpe L' (by rw [e4]; exact nI_n1 (by omega)) 0 f _
      refine ⟨nI f0, C', ?_, e2, fun f e => (by cases e; rfl), fun V' e => (by cases e)⟩
      rw [e1, e5 fu hf]
      exact kC_f fu L' (by omega) e4
    · obtain ⟨r, D', e1, e2, e3, -⟩ := mdl D hO hD
      obtain ⟨rfl, e4⟩ := e3 f0 hp
      rw [if_pos rfl] at e1
      exact ⟨0, D', e1, e2, fun f e => (by cases e; exact ⟨rfl, e4⟩), fun V' e => by cases e⟩
  | inr q =>
    obtain ⟨V1, t4⟩ := q
    obtain ⟨g1, g2, g3⟩ := p2 V1 t4 hp
    obtain ⟨o, o1, o2, o3, o4⟩ := rd_loop (b := b) hfu hk hn hT (n + 2) V1 t4 g2 g1 (by omega) (fun q => by omega)
    refine ⟨o, o1, o2, fun C hL hC => ?_, fun D hO hD => ?_⟩
    · obtain ⟨C', e1, e2, -, e3⟩ := cls C hL hC
      have L' : iv_L b C' := hL.same e2.2.1 e2.2.2.2.1
      have K' : tC b T n C' := hC.same (e2.2.2.2.2 _ (by unfold pc_C; omega)) (e2.2.2.2.2 _ (by unfold pc_C; omega))
      obtain ⟨e4, e5, e6⟩ := e3 V1 t4 hp
      obtain ⟨p, C2, s1, s2, s3, s4⟩ := o3 C' 0 fu L' K' e4 e5 e6 (by omega) (fun q => by have := g2.2.2.2.1 (by omega); omega) (by omega)
      exact ⟨p, C2, e1.trans s1, e2.trans s2 (fun _ q => q) (fun _ q => q), s3, s4⟩
    · obtain ⟨r, D', e1, e2, -, e3⟩ := mdl D hO hD
      obtain ⟨rfl, e4, e5⟩ := e3 V1 t4 hp
      rw [pu_10] at e1
      obtain ⟨O', K'⟩ := rm_ns hO hD e2 (by unfold pc_M; omega)
      obtain ⟨r2, D2, s1, s2, s3, s4⟩ := o4 D' fu O' K' e4 e5 (by omega)
      exact ⟨r2, D2, e1.trans s1, e2.trans s2 (fun _ q => q) (fun _ q => q), s3, s4⟩
theorem pi_I.read {b n0 : Nat} {M M' : gz_M} (h : pi_I b M) (hk : n0 < 4) (hc : M.2.2.1 (b + 5) 2 = nI n0) (hz : M'.1 = M.1) (h0 : M'.2.1 = M.2.1) (h3 : M'.2.2.2.2 = M.2.2.2.2) (hL : ∀ c, c ≠ b + 110 → M'.2.2.2.1 c = M.2.2.2.1 c) (hI : ∀ c, c ≠ b + 1 → c ≠ b + 3 → c ≠ b + 5 → ¬ pc_C b n0 c → c ≠ b + 61 → c ≠ b + 110 → ¬ pc_M b n0 c → c ≠ b + 128 → M'.2.2.1 c = M.2.2.1 c) (hf : ∀ j, j ≠ 9 → j ≠ 11 → ¬ (21 ≤ j ∧ j ≤ 26) → M'.2.2.1 (b + 110) j = M.2.2.1 (b + 110) j) (ht : M'.2.2.1 (b + 1) 1 = 0 ∧ M'.2.2.1 (b + 110) 9 = 0) (hrf : ∀ k, k < 5 → M'.2.2.1 (b + 61) k = M'.2.2.1 (b + 128) (k + 2)) (hn : (M'.2.2.1 (b + 5) 2 = nI n0 ∧ M'.2.2.1 (b + 110) 11 = nI n0) ∨ (M'.2.2.1 (b + 5) 2 = nI (n0 + 1) ∧ M'.2.2.1 (b + 110) 11 = nI (n0 + 1) ∧ ∃ V, pv_ok V ∧ pv_c (b + 13 + 5 * n0) V M' ∧ pv_m (b + 110) n0 V M')) : pi_I b M' := by
  obtain ⟨a1, a2, a3, a4, a5, a6, ⟨⟨n, hn4, n1, n2, n3⟩, a7⟩, a8⟩ := h
  have en : n = n0 := (nI_eq (by omega) (by omega)).mp (n1.symm.trans hc)
  subst en
  have q : ∀ c, c < b + 1 ∨ c = b + 2 ∨ c = b + 4 ∨ (b + 6 ≤ c ∧ c < b + 13 + 5 * n) ∨ (b + 18 + 5 * n ≤ c ∧ c < b + 61) ∨ (b + 62 ≤ c ∧ c < b + 110) ∨ (b + 111 ≤ c ∧ c < b + 128) ∨ c = b + 129 ∨ (b + 130 ≤ c ∧ c < b + 153 ∧ c ≠ b + 130 + n ∧ c ≠ b + 136 + n ∧ c ≠ b + 142 + n) ∨ b + 153 ≤ c → M'.2.2.1 c = M.2.2.1 c := fun c w => hI c (by omega) (by omega) (by omega) (by unfold pc_C; omega) (by omega) (by omega) (by unfold pc_M; omega) (by omega)
  refine ⟨a1.same h0 h3, a2.same h0 h3, by omega, ⟨hrf, fun j hj => by rw [q _ (by omega)]; exact a4.2 j hj⟩, ⟨0, by omega, ht.1, ht.2, fun j hj => absurd hj (Nat.not_lt_zero j)⟩, a6.same (fun c w => ⟨q c (by omega), hL c (by omega)⟩), ⟨?_, a7.same (fun c z1 z2 => q c (by omega)) (fun k z1 z2 => hf k (by omega) (by omega) (by omega)) (fun c w => q c (by omega))⟩, a8.same (by omega) h0 h3 (by rw [q _ (by omega)]) (fun c w => q c (by omega))⟩
  have old : ∀ v, v < n → ∃ V : pv_V, pv_ok V ∧ pv_c (b + 5 + 8 + 5 * v) V M' ∧ pv_m (b + 110) v V M' := fun v hv => by
    obtain ⟨U, u1, u2, u3⟩ := n3 v hv
    exact ⟨U, u1, u2.same (fun c z1 z2 => q c (by omega)), u3.same (q _ (by omega)) (q _ (by omega)) (q _ (by omega))⟩
  rcases hn with ⟨g1, g2⟩ | ⟨g1, g2, V, g3, g4, g5⟩
  · exact ⟨n, by omega, g1, g2, old⟩
  · refine ⟨n + 1, by omega, g1, g2, fun v hv => ?_⟩
    by_cases e : v = n
    · subst e
      refine ⟨V, g3, ?_, g5⟩
      rw [show b + 5 + 8 + 5 * v = b + 13 + 5 * v by omega]
      exact g4
    · exact old v (by omega)
theorem op_valley (b : Nat) {fu : Nat} (hfu : 5000 ≤ fu) : gz_op_valley (pi_I b) fu b (b + 110) := by
  intro M hI
  obtain ⟨h1, h2, h3, h4, h5, h6, ⟨⟨n0, hn4, c1, c2, c3⟩, h7⟩, h8⟩ := id hI
  have k5 : M.2.1 (b + 5) = (9, 0) := h1.1 5 _ rfl
  by_cases hk : n0 < 4
  · obtain ⟨n, T, tc, tm⟩ := tp_T h5
    obtain ⟨o, oa, ob, oc, od⟩ := rd_all (b := b) (n := n) (T := T) hfu hk tc.1 tc.2.1
    obtain ⟨p, M12, e1, e2, e3, e4⟩ := oc M h1 tc
    have L12 : iv_L b M12 := h1.same e2.2.1 e2.2.2.2.1
    have k1 : M12.2.1 (b + 1) = (7, 0) := L12.1 1 _ rfl
    have L14 : iv_L b (gz_sI M12 (b + 1) 1 0) := L12.same rfl rfl
    have av : gz_aR M (b + 6) (nI n0) = some (b + 13 + 5 * n0) := by
      have e := h1.2 _ _ _ (ly_dv1 n0 hk).1
      rw [← Nat.add_assoc] at e
      exact pu_aR (h1.1 6 _ rfl) (by decide) hk (by decide) e
    have preC : ∀ R, (if p = (-1 : Int32) then (gz_gR (gz_sI M12 (b + 1) 1 0) 9 3 b).bind fun x17 => (gz_gI (gz_sI M12 (b + 1) 1 0) 8 2 x17).bind fun x18 => (gz_pI (gz_sI M12 (b + 1) 1 0) 8 2 x17 (x18 + (1 : Int32))).bind fun M19 => some (nI n0, M19) else gz_b2 (f_X9_refuse fu (gz_sI M12 (b + 1) 1 0) b (-2 : Int32)) fun x15 M16 => some (((-20 : Int32) - p), M16)) = R → f_X9_valley fu M b = R := by
      intro R hR
      unfold f_X9_valley
      rw [h1.g, lc_R h1 3 5 (by decide), Option.bind_some, pu_gI (ci := 8) 2 k5, c1, Option.bind_some, if_pos (show nI n0 < (4 : Int32) from nI_lt (b := 4) hk (by omega)), Option.bind_some, pu_gI (ci := 8) 2 k5, c1, Option.bind_some, lc_R h1 1 3 (by decide), Option.bind_some, Option.bind_some, pu_gR (ci := 8) k5 (h1.2 5 0 6 (by decide)), Option.bind_some, av, Option.bind_some, e1, pu_b2, lc_R L12 0 1 (by decide), Option.bind_some, pu_pI (ci := 6) 1 _ k1, Option.bind_some, hR]
    have i12 : ∀ c, c ≠ b + 3 → ¬ pc_C b n0 c → M12.2.2.1 c = M.2.2.1 c := fun c q1 q2 => e2.2.2.2.2 c (fun q => q.elim q1 q2)
    cases o with
    | inl f =>
      have hf := oa f rfl
      have ep := e3 f rfl
      subst ep
      have ne : ¬ nI f = (-1 : Int32) := nI_n1 (by have := tc.1; omega)
      have r1 := pu_rfC fu L14 (k := 0) (by omega)
      rw [pu_k2] at r1
      obtain ⟨M16, hM16⟩ : ∃ X, X = gz_sI (gz_sI M12 (b + 1) 1 0) (b + 61) 0 ((gz_sI M12 (b + 1) 1 0).2.2.1 (b + 61) 0 + 1) := ⟨_, rfl⟩
      rw [← hM16] at r1
      have O16 : iv_O (b + 110) M16 := by rw [hM16]; exact h2.same e2.2.1 e2.2.2.2.1
      have i16 : ∀ c, c ≠ b + 1 → c ≠ b + 3 → c ≠ b + 61 → ¬ pc_C b n0 c → M16.2.2.1 c = M.2.2.1 c := fun c q1 q2 q3 q4 => by rw [hM16, pv_I1 q3, pv_I1 q1, i12 c q2 q4]
      have tm16 : tM b T n M16 := tm.same (by rw [i16 _ (by omega) (by omega) (by omega) (by unfold pc_C; omega)]) (i16 _ (by omega) (by omega) (by omega) (by unfold pc_C; omega))
      obtain ⟨r, D', s1, s2, s3, -⟩ := od M16 O16 tm16
      obtain ⟨rfl, s4⟩ := s3 f rfl
      have O' : iv_O (b + 110) D' := O16.same s2.2.1 s2.2.2.1
      have O7 : iv_O (b + 110) (gz_sI D' (b + 110) 9 0) := O'.same rfl rfl
      have r2 := pu_rfM fu O7 (k := 0) (by omega)
      rw [pu_k2] at r2
      obtain ⟨M9, hM9⟩ : ∃ X, X = gz_sI (gz_sI D' (b + 110) 9 0) (b + 128) (0 + 2) ((gz_sI D' (b + 110) 9 0).2.2.1 (b + 128) (0 + 2) + 1) := ⟨_, rfl⟩
      rw [← hM9] at r2
      have k9 : M9.2.1 (b + 110) = (11, 0) := by rw [hM9]; exact ly_m0 O'
      have v25 : M9.2.2.1 (b + 110) 25 = nI f := by rw [hM9, pv_I1 (by omega), pv_I0 (by omega)]; exact s4
      refine ⟨-20 - nI f, M16, M9, preC _ ?_, ?_, ?_⟩
      · rw [if_neg ne, r1, pu_b2]
      · unfold f_X10_valley
        rw [O16.g, pu_gI (ci := 10) 11 (ly_m0 O16), i16 _ (by omega) (by omega) (by omega) (by unfold pc_C; omega), c2, Option.bind_some, if_neg (show ¬ nI n0 = (4 : Int32) from fun q => by have := (nI_eq (b := 4) (by omega) (by omega)).mp q; omega), Option.bind_some, s1, pu_b2, pu_pI (ci := 10) 9 _ (ly_m0 O'), Option.bind_some, if_pos rfl, r2, pu_b2, pu_gI (ci := 10) 25 k9, v25, Option.bind_some]
      · have m9 : ∀ c, c ≠ b + 110 → c ≠ b + 128 → ¬ pc_M b n0 c → M9.2.2.1 c = M16.2.2.1 c := fun c q1 q2 q3 => by rw [hM9, pv_I1 q2, pv_I1 q1, s2.2.2.2.2.1 c q1 q3]
        have m9s : ∀ j, j ≠ 9 → ¬ (21 ≤ j ∧ j ≤ 26) → M9.2.2.1 (b + 110) j = M.2.2.1 (b + 110) j := fun j q1 q2 => by
          rw [hM9, pv_I1 (by omega), pv_I0 q1, s2.2.2.2.2.2 j q2, i16 _ (by omega) (by omega) (by omega) (by unfold pc_C; omega)]
        have hz1 : M16.1 = M.1 := by rw [hM16]; exact e2.1
        have hk1 : M16.2.1 = M.2.1 := by rw [hM16]; exact e2.2.1
        have hr1 : M16.2.2.2.2 = M.2.2.2.2 := by rw [hM16]; exact e2.2.2.2.1
        have hl1 : M16.2.2.2.1 = M.2.2.2.1 := by rw [hM16]; exact e2.2.2.1
        refine hI.read hk c1 (by rw [hM9]; exact s2.1.trans hz1) (by rw [hM9]; exact s2.2.1.trans hk1) (by rw [hM9]; exact s2.2.2.1.trans hr1) (fun c q => by rw [hM9]; exact (s2.2.2.2.1 c q).trans (by rw [hl1])) (fun c q1 q2 q3 q4 q5 q6 q7 q8 => by rw [m9 c q6 q8 q7, i16 c q1 q2 q5 q4]) (fun j q1 q2 q3 => m9s j q1 q3) ⟨?_, ?_⟩ (fun j hj => ?_) (Or.inl ⟨?_, ?_⟩)
        · rw [m9 _ (by omega) (by omega) (by unfold pc_M; omega), hM16, pv_I1 (by omega)]; exact pv_I9
        · rw [hM9, pv_I1 (by omega)]; exact pv_I9
        · have e61 : M12.2.2.1 (b + 61) = M.2.2.1 (b + 61) := i12 _ (by omega) (by unfold pc_C; omega)
          have e128 : D'.2.2.1 (b + 128) = M.2.2.1 (b + 128) := by rw [s2.2.2.2.2.1 _ (by omega) (by unfold pc_M; omega), i16 _ (by omega) (by omega) (by omega) (by unfold pc_C; omega)]
          have eL : M9.2.2.1 (b + 61) j = if j = 0 then M.2.2.1 (b + 61) 0 + 1 else M.2.2.1 (b + 61) j := by
            rw [m9 _ (by omega) (by omega) (by unfold pc_M; omega), hM16, pu_same, pv_I1 (show b + 61 ≠ b + 1 by omega), e61]
          have eR : M9.2.2.1 (b + 128) (j + 2) = if j + 2 = 0 + 2 then M.2.2.1 (b + 128) (0 + 2) + 1 else M.2.2.1 (b + 128) (j + 2) := by
            rw [hM9, pu_same, pv_I1 (show b + 128 ≠ b + 110 by omega), e128]
          have g := h4.1 j hj
          rw [eL, eR]
          by_cases e : j = 0
          · subst e
            rw [if_pos rfl, if_pos rfl, g]
          · rw [if_neg e, if_neg (by omega), g]
        · rw [m9 _ (by omega) (by omega) (by unfold pc_M; omega), i16 _ (by omega) (by omega) (by omega) (by unfold pc_C; omega)]; exact c1
        · rw [m9s 11 (by omega) (by omega)]; exact c2
    | inr V =>
      obtain ⟨rfl, pc⟩ := e4 V rfl
      have k5' : (gz_sI M12 (b + 1) 1 0).2.1 (b + 5) = (9, 0) := L14.1 5 _ rfl
      obtain ⟨M16, hM16⟩ : ∃ X, X = gz_sI (gz_sI M12 (b + 1) 1 0) (b + 5) 2 (nI (n0 + 1)) := ⟨_, rfl⟩
      have O16 : iv_O (b + 110) M16 := by rw [hM16]; exact h2.same e2.2.1 e2.2.2.2.1
      have i16 : ∀ c, c ≠ b + 1 → c ≠ b + 3 → c ≠ b + 5 → ¬ pc_C b n0 c → M16.2.2.1 c = M.2.2.1 c := fun c q1 q2 q3 q4 => by rw [hM16, pv_I1 q3, pv_I1 q1, i12 c q2 q4]
      have tm16 : tM b T n M16 := tm.same (by rw [i16 _ (by omega) (by omega) (by omega) (by unfold pc_C; omega)]) (i16 _ (by omega) (by omega) (by omega) (by unfold pc_C; omega))
      obtain ⟨r, D', s1, s2, -, s3⟩ := od M16 O16 tm16
      obtain ⟨rfl, s4⟩ := s3 V rfl
      have O' : iv_O (b + 110) D' := O16.same s2.2.1 s2.2.2.1
      have O7 : iv_O (b + 110) (gz_sI D' (b + 110) 9 0) := O'.same rfl rfl
      have v11 : (gz_sI D' (b + 110) 9 0).2.2.1 (b + 110) 11 = nI n0 := by rw [pv_I0 (by omega), s2.2.2.2.2.2 11 (by omega), i16 _ (by omega) (by omega) (by omega) (by unfold pc_C; omega)]; exact c2
      obtain ⟨M9, hM9⟩ : ∃ X, X = gz_sI (gz_sI D' (b + 110) 9 0) (b + 110) 11 (nI (n0 + 1)) := ⟨_, rfl⟩
      refine ⟨nI n0, M16, M9, preC _ ?_, ?_, ?_⟩
      · rw [if_pos rfl, lc_R L14 3 5 (by decide), Option.bind_some, pu_gI (ci := 8) 2 k5', pv_I1 (by omega), i12 _ (by omega) (by unfold pc_C; omega), c1, Option.bind_some, pn_1, pu_pI (ci := 8) 2 _ k5', Option.bind_some, hM16]
      · unfold f_X10_valley
        rw [O16.g, pu_gI (ci := 10) 11 (ly_m0 O16), i16 _ (by omega) (by omega) (by omega) (by unfold pc_C; omega), c2, Option.bind_some, if_neg (show ¬ nI n0 = (4 : Int32) from fun q => by have := (nI_eq (b := 4) (by omega) (by omega)).mp q; omega), Option.bind_some, s1, pu_b2, pu_pI (ci := 10) 9 _ (ly_m0 O'), Option.bind_some, pu_10, pu_gI (ci := 10) 11 (ly_m0 O7), v11, Option.bind_some, pn_1, pu_pI (ci := 10) 11 _ (ly_m0 O7), Option.bind_some, hM9]
      · have m9 : ∀ c, c ≠ b + 110 → ¬ pc_M b n0 c → M9.2.2.1 c = M16.2.2.1 c := fun c q1 q3 => by rw [hM9, pv_I1 q1, pv_I1 q1, s2.2.2.2.2.1 c q1 q3]
        have m9s : ∀ j, j ≠ 9 → j ≠ 11 → ¬ (21 ≤ j ∧ j ≤ 26) → M9.2.2.1 (b + 110) j = M.2.2.1 (b + 110) j := fun j q1 q1' q2 => by
          rw [hM9, pv_I0 q1', pv_I0 q1, s2.2.2.2.2.2 j q2, i16 _ (by omega) (by omega) (by omega) (by unfold pc_C; omega)]
        have hz1 : M16.1 = M.1 := by rw [hM16]; exact e2.1
        have hk1 : M16.2.1 = M.2.1 := by rw [hM16]; exact e2.2.1
        have hr1 : M16.2.2.2.2 = M.2.2.2.2 := by rw [hM16]; exact e2.2.2.2.1
        have hl1 : M16.2.2.2.1 = M.2.2.2.1 := by rw [hM16]; exact e2.2.2.1
        refine hI.read hk c1 (by rw [hM9]; exact s2.1.trans hz1) (by rw [hM9]; exact s2.2.1.trans hk1) (by rw [hM9]; exact s2.2.2.1.trans hr1) (fun c q => by rw [hM9]; exact (s2.2.2.2.1 c q).trans (by rw [hl1])) (fun c q1 q2 q3 q4 q5 q6 q7 q8 => by rw [m9 c q6 q7, i16 c q1 q2 q3 q4]) m9s ⟨?_, ?_⟩ (fun j hj => ?_) (Or.inr ⟨?_, ?_, V, ob V rfl, ?_, ?_⟩)
        · rw [m9 _ (by omega) (by unfold pc_M; omega), hM16, pv_I1 (by omega)]; exact pv_I9
        · rw [hM9, pv_I0 (by omega)]; exact pv_I9
        · rw [m9 _ (by omega) (by unfold pc_M; omega), m9 _ (by omega) (by unfold pc_M; omega), i16 _ (by omega) (by omega) (by omega) (by unfold pc_C; omega), i16 _ (by omega) (by omega) (by omega) (by unfold pc_C; omega)]
          exact h4.1 j hj
        · rw [m9 _ (by omega) (by unfold pc_M; omega), hM16]; exact pv_I9
        · rw [hM9]; exact pv_I9
        · exact pc.same (fun c q1 q2 => by rw [m9 _ (by omega) (by unfold pc_M; omega), hM16, pv_I1 (by omega), pv_I1 (by omega)])
        · exact s4.same (by rw [hM9, pv_I1 (by omega), pv_I1 (by omega)]) (by rw [hM9, pv_I1 (by omega), pv_I1 (by omega)]) (by rw [hM9, pv_I1 (by omega), pv_I1 (by omega)])
  · have e4 : n0 = 4 := by omega
    subst e4
    obtain ⟨M1, M2, r1, r2, r3, hw⟩ := pu_rfw fu hI 4 (by decide) (-6) pu_k6
    have O1 : iv_O (b + 110) M1 := h2.same hw.2.1 hw.2.2.2.1
    refine ⟨-6, M1, M2, ?_, ?_, r3⟩
    · unfold f_X9_valley
      rw [h1.g, lc_R h1 3 5 (by decide), Option.bind_some, pu_gI (ci := 8) 2 k5, c1, Option.bind_some, if_neg (show ¬ nI 4 < (4 : Int32) by decide), r1]
      rfl
    · unfold f_X10_valley
      rw [O1.g, pu_gI (ci := 10) 11 (ly_m0 O1), hw.2.2.2.2 _ (by omega) (by omega), c2, Option.bind_some, if_pos (show nI 4 = (4 : Int32) from rfl), r2]
      rfl
