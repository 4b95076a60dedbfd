/-! a valley read -/
section RD2
variable {fu b n k : Nat} {T : Nat → Nat}
theorem rc_fail0 (fu : Nat) {C : gz_M} (hL : iv_L b C) (h4 : ¬ C.2.2.1 (b + 3) 4 = -1) : f_X2_fail fu C (b + 3) = some C := by
  obtain ⟨k1, k2, k3⟩ := lr_k hL
  unfold f_X2_fail
  rw [pu_gd (ci := 2) k1, pu_gI (ci := 2) 4 k1, Option.bind_some]
  simp only [gz_jn]
  rw [if_neg h4]
/-- the class's end of reading -/
def kC (fu b : Nat) : gz_M → Option (Int32 × gz_M) := fun M12 => (gz_gI M12 2 1 (b + 3)).bind fun x13 => gz_jn (fun (M15 : gz_M) => (gz_gI M15 2 4 (b + 3)).bind fun x16 => some (x16, M15)) fun j74 => if x13 = 0 then j74 M12 else (f_X2_fail fu M12 (b + 3)).bind fun M14 => j74 M14
theorem kC_f (fu : Nat) {C : gz_M} (hL : iv_L b C) {f : Nat} (hf : f ≤ 250) (h : C.2.2.1 (b + 3) 4 = nI f) : kC fu b C = some (nI f, C) := by
  obtain ⟨k1, k2, k3⟩ := lr_k hL
  have ne : ¬ C.2.2.1 (b + 3) 4 = -1 := by rw [h]; exact nI_n1 hf
  unfold kC
  rw [pu_gI (ci := 2) 1 k1, Option.bind_some]
  simp only [gz_jn, rc_fail0 fu hL ne, Option.bind_some, pu_gI (ci := 2) 4 k1, h, ite_self]
theorem kC_0 (fu : Nat) {C : gz_M} {t : tok} (hL : iv_L b C) (hr : rC b t C) (h : C.2.2.1 (b + 3) 4 = -1) (h0 : t.1 = 0) : kC fu b C = some (-1, C) := by
  obtain ⟨k1, k2, k3⟩ := lr_k hL
  unfold kC
  rw [pu_gI (ci := 2) 1 k1, hr.1, Option.bind_some]
  simp only [gz_jn]
  rw [if_pos (show nI t.1 = 0 by rw [h0]; rfl), pu_gI (ci := 2) 4 k1, h, Option.bind_some]
theorem kC_n (fu : Nat) {C : gz_M} {t : tok} (hL : iv_L b C) (hr : rC b t C) (h : C.2.2.1 (b + 3) 4 = -1) (h0 : t.1 ≠ 0) (h4 : t.1 ≤ 4) : kC fu b C = some (nI t.2.1, gz_sI C (b + 3) 4 (nI t.2.1)) := by
  obtain ⟨k1, k2, k3⟩ := lr_k hL
  have k1' : (gz_sI C (b + 3) 4 (nI t.2.1)).2.1 (b + 3) = (3, 0) := k1
  unfold kC
  rw [pu_gI (ci := 2) 1 k1, hr.1, Option.bind_some]
  simp only [gz_jn]
  rw [if_neg (show ¬ nI t.1 = 0 from nI_ne0 (by omega) (by omega)), rc_fail fu hL hr h, Option.bind_some, pu_gI (ci := 2) 4 k1', pv_I9, Option.bind_some]
def kM : gz_M → Option (Int32 × gz_M) := fun M24 => gz_z (1 : Int32) (some ((1 : Int32), M24))
theorem rd_loop (hfu : 5000 ≤ fu) (hk : k < 4) (hn : n ≤ 250) (hT : ∀ j, j < n → T j < 256) : ∀ (d : Nat) (V : pv_V) (t : tok), tk T n t → pv_ok V → 1 ≤ d → (t.1 = 3 → n + 2 ≤ d + t.2.2) → ∃ o : Nat ⊕ pv_V, (∀ f, o = .inl f → f ≤ n) ∧ (∀ V', o = .inr V' → pv_ok V') ∧ (∀ (C : gz_M) (i fuel : Nat), iv_L b C → tC b T n C → rC b t C → C.2.2.1 (b + 3) 4 = -1 → pv_c (b + 13 + 5 * k) V C → i ≤ 300 → (t.1 = 3 → i < t.2.2) → d + 1 < fuel → ∃ p C', lp_X2_readInto_25 (kC fu b) fu (b + 3) (b + 13 + 5 * k) fuel (nI i) C = some (p, C') ∧ pf_f (fun c => c = b + 3 ∨ pc_C b k c) C C' ∧ (∀ f, o = .inl f → p = nI f) ∧ ∀ V', o = .inr V' → p = -1 ∧ pv_c (b + 13 + 5 * k) V' C') ∧ ∀ (D : gz_M) (fuel : Nat), iv_O (b + 110) D → tM b T n D → rM b T t D → pv_m (b + 110) k V D → d + 1 < fuel → ∃ r D', lp_X10_read_70 kM fu (b + 110) (nI k) fuel D = some (r, D') ∧ qM b (pc_M b k) D D' ∧ (∀ f, o = .inl f → r = 0 ∧ D'.2.2.1 (b + 110) 25 = nI f) ∧ ∀ V', o = .inr V' → r = 1 ∧ pv_m (b + 110) k V' D'
  | 0, V, t, _, _, h, _ => absurd h (by omega)
  | d + 1, V, t, ht, hV, _, hd => by
    have t1 := ht.1
    have t2 := ht.2.1
    have t3 := ht.2.2.1
    have cs : ∀ (C : gz_M) (i f : Nat) (J : gz_M → Option (Int32 × gz_M)), iv_L b C → rC b t C → C.2.2.1 (b + 3) 4 = -1 → i ≤ 300 → t.1 ≠ 3 → lp_X2_readInto_25 J fu (b + 3) (b + 13 + 5 * k) (f + 1) (nI i) C = J C := by
      intro C i f J hL hr h4 hi h3
      obtain ⟨k1, k2, k3⟩ := lr_k hL
      rw [lp_X2_readInto_25, pu_gI (ci := 2) 4 k1, h4, Option.bind_some, if_pos rfl, pu_gI (ci := 2) 1 k1, hr.1, Option.bind_some, if_neg (show ¬ nI t.1 = (3 : Int32) from fun q => h3 ((nI_eq (b := 3) (by omega) (by omega)).mp q))]
      by_cases c : (250 : Int32) ≤ nI i
      · rw [if_pos c]
      · rw [if_neg c]
    have ce : ∀ (C : gz_M) (i f : Nat) (J : gz_M → Option (Int32 × gz_M)), iv_L b C → ¬ C.2.2.1 (b + 3) 4 = -1 → lp_X2_readInto_25 J fu (b + 3) (b + 13 + 5 * k) (f + 1) (nI i) C = J C := by
      intro C i f J hL h4
      obtain ⟨k1, k2, k3⟩ := lr_k hL
      rw [lp_X2_readInto_25, pu_gI (ci := 2) 4 k1, Option.bind_some, if_neg h4]
      by_cases c : (250 : Int32) ≤ nI i
      · rw [if_pos c]
      · rw [if_neg c]
    by_cases c0 : t.1 = 0
    · refine ⟨.inr V, fun f e => (by cases e), fun V' e => (by cases e; exact hV), fun C i fuel hL hC hr h4 hc hi hi3 hf => ?_, fun D fuel hO hD hr hm hf => ?_⟩
      · obtain ⟨f, rfl⟩ : ∃ f, fuel = f + 1 := ⟨fuel - 1, by omega⟩
        refine ⟨-1, C, ?_, pf_f.refl, fun f e => (by cases e), fun V' e => (by cases e; exact ⟨rfl, hc⟩)⟩
        rw [cs C i f _ hL hr h4 hi (by omega)]
        exact kC_0 fu hL hr h4 c0
      · obtain ⟨f, rfl⟩ : ∃ f, fuel = f + 1 := ⟨fuel - 1, by omega⟩
        refine ⟨1, D, ?_, qM.refl, fun f e => (by cases e), fun V' e => (by cases e; exact ⟨rfl, hm⟩)⟩
        rw [lp_X10_read_70, pu_gI (ci := 10) 22 (ly_m0 hO), hr.1, Option.bind_some, if_pos (show nI t.1 = 0 by rw [c0]; rfl)]
        rfl
    · by_cases c3 : t.1 = 3
      · obtain ⟨kk1, kk2⟩ := nx_ok (T := T) (n := n) (e := t.2.2) t2 hT
        obtain ⟨p1, p2⟩ := ps_ok hV kk1 hT
        have u1 := kk1.1
        have hdd := hd c3
        have mdl : ∀ (D : gz_M) (f : Nat), iv_O (b + 110) D → tM b T n D → rM b T t D → pv_m (b + 110) k V D → ∃ (r : Int32) (D' : gz_M), lp_X10_read_70 kM fu (b + 110) (nI k) (f + 1) D = (if r = 0 then some (0, D') else lp_X10_read_70 kM fu (b + 110) (nI k) f D') ∧ qM b (pc_M b k) D D' ∧ (∀ f, ps T n V (nx T n t.2.2) = .inl f → r = 0 ∧ D'.2.2.1 (b + 110) 25 = nI f) ∧ ∀ V' t', ps T n V (nx T n t.2.2) = .inr (V', t') → r = 1 ∧ rM b T t' D' ∧ pv_m (b + 110) k V' D' := by
          intro D f hO hD hr hm
          obtain ⟨D1, n1, n2, n3⟩ := rm_look hfu hO hD t2 hr.2.2.1
          obtain ⟨O1, K1⟩ := rm_ns hO hD n2 (fun q => q)
          have m1 : pv_m (b + 110) k V D1 := hm.same (n2.2.2.2.2.1 _ (by omega) (fun q => q)) (n2.2.2.2.2.1 _ (by omega) (fun q => q)) (n2.2.2.2.2.1 _ (by omega) (fun q => q))
          obtain ⟨r, D', e1, e2, e3, e4⟩ := rm_st hfu O1 K1 kk1 n3 hk hV m1
          refine ⟨r, D', ?_, n2.trans e2 (fun _ q => q.elim) (fun _ q => q), e3, e4⟩
          rw [lp_X10_read_70, pu_gI (ci := 10) 22 (ly_m0 hO), hr.1, Option.bind_some, if_neg (show ¬ nI t.1 = 0 by rw [c3]; decide), Option.bind_some, if_pos (show nI t.1 = (3 : Int32) by rw [c3]; rfl), n1, Option.bind_some, e1, pu_b2, pu_z0]
        have cls : ∀ (C : gz_M) (i f : Nat), iv_L b C → tC b T n C → rC b t C → C.2.2.1 (b + 3) 4 = -1 → pv_c (b + 13 + 5 * k) V C → i < 250 → ∃ C', lp_X2_readInto_25 (kC fu b) fu (b + 3) (b + 13 + 5 * k) (f + 1) (nI i) C = lp_X2_readInto_25 (kC fu b) fu (b + 3) (b + 13 + 5 * k) f (nI (i + 1)) C' ∧ oC b k (ps T n V (nx T n t.2.2)) C C' := by
          intro C i f hL hC hr h4 hc hi
          obtain ⟨k1, k2, k3⟩ := lr_k hL
          obtain ⟨C1, n1, n2, n3, n4⟩ := rc_next hfu hL hC t2 hr.2.2
          obtain ⟨L1, K1⟩ := rc_ns hL hC n2
          have m1 : pv_c (b + 13 + 5 * k) V C1 := hc.same (fun c q1 q2 => n2.2.2.2.2 c (by omega))
          obtain ⟨C', e1, e2, e3⟩ := rc_st hfu L1 K1 kk1 n3 (n4.trans h4) hk hV m1
          refine ⟨C', ?_, n2.trans e2 (fun _ q => Or.inl q) (fun _ q => q), e3⟩
          rw [lp_X2_readInto_25, if_neg (show ¬ (250 : Int32) ≤ nI i from pn_nle (n := 250) hi (by omega)), pu_gI (ci := 2) 4 k1, h4, Option.bind_some, if_pos rfl, pu_gI (ci := 2) 1 k1, hr.1, Option.bind_some, if_pos (show nI t.1 = (3 : Int32) by rw [c3]; rfl), n1, Option.bind_some, e1, Option.bind_some, pn_1]
        cases hp : ps T n V (nx T n t.2.2) with
        | inl f0 =>
          have hf0 := p1 f0 hp
          refine ⟨.inl f0, fun f e => (by cases e; exact hf0), fun V' e => (by cases e), fun C i fuel hL hC hr h4 hc hi hi3 hf => ?_, fun D fuel hO hD hr hm hf => ?_⟩
          · obtain ⟨f, rfl⟩ : ∃ f, fuel = f + 1 + 1 := ⟨fuel - 2, by omega⟩
            have hi4 := hi3 c3
            obtain ⟨C', e1, e2, e3, -⟩ := cls C i (f + 1) hL hC hr h4 hc (by omega)
            have L' : iv_L b C' := hL.same e2.2.1 e2.2.2.2.1
            have e4 := e3 f0 hp
            refine ⟨nI f0, C', ?_, e2, fun f e => (by cases e; rfl), fun V' e => (by cases e)⟩
            rw [e1, ce C' (i + 1) f _ L' (by rw [e4]; exact nI_n1 (by omega))]
            exact kC_f fu L' (by omega) e4
          · obtain ⟨f, rfl⟩ : ∃ f, fuel = f + 1 := ⟨fuel - 1, by omega⟩
            obtain ⟨r, D', e1, e2, e3, -⟩ := mdl D f hO hD hr hm
            obtain ⟨rfl, e4⟩ := e3 f0 hp
            rw [if_pos rfl] at e1
            exact ⟨0, D', e1, e2, fun f e => (by cases e; exact ⟨rfl, e4⟩), fun V' e => by cases e⟩
        | inr q =>
          obtain ⟨V1, t4⟩ := q
          obtain ⟨g1, g2, g3⟩ := p2 V1 t4 hp
          have v1 := g2.1
          have v2 := g2.2.1
          have v4 := g2.2.2.2.1
          obtain ⟨o, o1, o2, o3, o4⟩ := rd_loop hfu hk hn hT d V1 t4 g2 g1 (by omega) (fun q => by have := v4 (by omega); omega)
          refine ⟨o, o1, o2, fun C i fuel hL hC hr h4 hc hi hi3 hf => ?_, fun D fuel hO hD hr hm hf => ?_⟩
          · obtain ⟨f, rfl⟩ : ∃ f, fuel = f + 1 := ⟨fuel - 1, by omega⟩
            have hi4 := hi3 c3
            obtain ⟨C', e1, e2, -, e3⟩ := cls C i f hL hC hr h4 hc (by omega)
            have L' : iv_L b C' := hL.same e2.2.1 e2.2.2.2.1
            have K' : tC b T n C' := hC.same (e2.2.2.2.2 _ (by unfold pc_C; omega)) (e2.2.2.2.2 _ (by unfold pc_C; omega))
            obtain ⟨e4, e5, e6⟩ := e3 V1 t4 hp
            obtain ⟨p, C2, s1, s2, s3, s4⟩ := o3 C' (i + 1) f L' K' e4 e5 e6 (by omega) (fun q => by have := v4 (by omega); omega) (by omega)
            exact ⟨p, C2, e1.trans s1, e2.trans s2 (fun _ q => q) (fun _ q => q), s3, s4⟩
          · obtain ⟨f, rfl⟩ : ∃ f, fuel = f + 1 := ⟨fuel - 1, by omega⟩
            obtain ⟨r, D', e1, e2, -, e3⟩ := mdl D f hO hD hr hm
            obtain ⟨rfl, e4, e5⟩ := e3 V1 t4 hp
            rw [pu_10] at e1
            obtain ⟨O', K'⟩ := rm_ns hO hD e2 (by unfold pc_M; omega)
            obtain ⟨r2, D2, s1, s2, s3, s4⟩ := o4 D' f O' K' e4 e5 (by omega)
            exact ⟨r2, D2, e1.trans s1, e2.trans s2 (fun _ q => q) (fun _ q => q), s3, s4⟩
      · refine ⟨.inl t.2.1, fun f e => (by cases e; omega), fun V' e => (by cases e), fun C i fuel hL hC hr h4 hc hi hi3 hf => ?_, fun D fuel hO hD hr hm hf => ?_⟩
        · obtain ⟨f, rfl⟩ : ∃ f, fuel = f + 1 := ⟨fuel - 1, by omega⟩
          refine ⟨nI t.2.1, gz_sI C (b + 3) 4 (nI t.2.1), ?_, pf_f.one (Or.inl rfl), fun f e => (by cases e; rfl), fun V' e => (by cases e)⟩
          rw [cs C i f _ hL hr h4 hi c3]
          exact kC_n fu hL hr h4 c0 t3
        · obtain ⟨f, rfl⟩ : ∃ f, fuel = f + 1 := ⟨fuel - 1, by omega⟩
          refine ⟨0, gz_sI D (b + 110) 25 (nI t.2.1), ?_, qM.refl.sI 25 _ (by omega), fun f e => (by cases e; exact ⟨rfl, pv_I9⟩), fun V' e => (by cases e)⟩
          rw [lp_X10_read_70, pu_gI (ci := 10) 22 (ly_m0 hO), hr.1, Option.bind_some, if_neg (show ¬ nI t.1 = 0 from nI_ne0 (by omega) (by omega)), Option.bind_some, if_neg (show ¬ nI t.1 = (3 : Int32) from fun q => c3 ((nI_eq (b := 3) (by omega) (by omega)).mp q)), rm_wrong fu hO hr, pu_b2, pu_z0]
end RD2
