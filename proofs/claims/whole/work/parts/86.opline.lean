/-! line -/
abbrev lA (V : pv_V) (m u : Nat) : Nat := gA (sC V m) (ln_W V m) (sS V m) u 0
section LM2
variable {fu b k m : Nat} {V : pv_V} {N : gz_M}
theorem vm_78n (hfu : 5000 ≤ fu) (hO : iv_O (b + 110) N) (hv : vy_m (b + 110) k V N) (hm : m < 3) (hz : l_z b V m N) {n X g : Nat} (hn : n ≤ 6) (hX : el V m n X) (x9 : Int32) (J : Int32 → Int32 → Option (Int32 × gz_M)) : lp_X10_line_78 J fu N (b + 110) (nI k) (nI m) (nI n) (nI (sC V m)) (g + 1) (-1 : Int32) x9 (nI X) = lp_X10_line_78 J fu N (b + 110) (nI k) (nI m) (nI n) (nI (sC V m)) g (nI X) (nI (lC V m X)) (nI (X + 1)) := by
  have hV := vm_ok hv
  have c12 := sC_le hV m
  obtain ⟨x1, x2, x3⟩ := hX
  have p12 : 2 ^ sC V m ≤ 2 ^ 12 := Nat.pow_le_pow_right (by omega) c12
  have bX := bc_M hfu N (s := X) (by omega)
  rw [ln_bc c12 x2] at bX
  have sh : (1 : Int32) <<< (nI (sC V m) &&& 31) = nI (2 ^ sC V m) := pn_shl (by omega)
  rw [lp_X10_line_78, sh, if_neg (pn_nle x2 (by omega)), bX, Option.bind_some]
  simp only [gz_jn]
  rw [if_neg (nI_nlt (by omega) (by omega)), vm_ls hfu hO hv hm hz (A := X) (by omega) x1, Option.bind_some]
  simp only [if_true, pn_1]
theorem vm_78s (hfu : 5000 ≤ fu) (hv : vy_m (b + 110) k V N) {n X g : Nat} (hn : n ≤ 6) (x2 : X < 2 ^ sC V m) (hX : n < ln_B (sC V m) X 0) (x8 x9 : Int32) (J : Int32 → Int32 → Option (Int32 × gz_M)) : lp_X10_line_78 J fu N (b + 110) (nI k) (nI m) (nI n) (nI (sC V m)) (g + 1) x8 x9 (nI X) = lp_X10_line_78 J fu N (b + 110) (nI k) (nI m) (nI n) (nI (sC V m)) g x8 x9 (nI (X + 1)) := by
  have hV := vm_ok hv
  have c12 := sC_le hV m
  have p12 : 2 ^ sC V m ≤ 2 ^ 12 := Nat.pow_le_pow_right (by omega) c12
  have bX := bc_M hfu N (s := X) (by omega)
  have b12 : sp_bc X ≤ 12 * 1 := fb_sm_bound (fun k _ => by cases X.testBit k <;> decide)
  rw [ln_bc c12 x2] at bX b12
  have sh : (1 : Int32) <<< (nI (sC V m) &&& 31) = nI (2 ^ sC V m) := pn_shl (by omega)
  rw [lp_X10_line_78, sh, if_neg (pn_nle x2 (by omega)), bX, Option.bind_some]
  simp only [gz_jn]
  rw [if_pos (nI_lt hX (by omega)), pn_1]
theorem vm_78 (hfu : 5000 ≤ fu) (hO : iv_O (b + 110) N) (hv : vy_m (b + 110) k V N) (hm : m < 3) (hz : l_z b V m N) (hnf : 0 < pv_nf V) {n v : Nat} (hn1 : 1 ≤ n) (hn : n ≤ 6) (hL : lL V m (lu V m (n - 1)) 0 = some v) (J : Int32 → Int32 → Option (Int32 × gz_M)) : lp_X10_line_78 J fu N (b + 110) (nI k) (nI m) (nI n) (nI (sC V m)) fu (-1 : Int32) (0 : Int32) (nI (2 ^ (sC V m - 1))) = J (nI (lA V m (lu V m (n - 1)))) (nI v) := by
  have hV := vm_ok hv
  have hK := sC_pos hV hnf hm
  have c12 := sC_le hV m
  have p12 : 2 ^ sC V m ≤ 2 ^ 12 := Nat.pow_le_pow_right (by omega) c12
  have pK : 2 ^ sC V m = 2 * 2 ^ (sC V m - 1) := by
    rw [show sC V m = sC V m - 1 + 1 by omega, Nat.pow_succ, Nat.add_sub_cancel]
    omega
  obtain ⟨u1, u2, -⟩ := ln_u_ok (W := ln_W V m) (S := sS V m) hK (n - 1)
  obtain ⟨g1, g2, g3⟩ := gA_lt (W := ln_W V m) (S := sS V m) hK hL
  obtain ⟨-, -, g4, g5⟩ := gA_ok (W := ln_W V m) (S := sS V m) _ 0 v (by omega) hL
  have best := fun {B : Nat} => ln_best (W := ln_W V m) (S := sS V m) hK (n := n) hn1 hL (B := B)
  obtain ⟨A, hA⟩ : ∃ A, A = lA V m (lu V m (n - 1)) := ⟨_, rfl⟩
  obtain ⟨u, hu⟩ : ∃ u, u = lu V m (n - 1) := ⟨_, rfl⟩
  have g1 : A < 2 ^ sC V m := by rw [hA]; exact g1
  have g2 : 2 ^ (sC V m - 1) ≤ A := by rw [hA]; exact g2
  have g3 : A.testBit (sC V m - 1) = true := by rw [hA]; exact g3
  have g4 : lC V m A = v := by rw [hA]; exact g4
  have g5 : ln_B (sC V m) A 0 = u := by rw [hA, hu]; exact g5
  have hun : u ≤ n := by rw [hu]; show ln_u _ _ _ (n - 1) ≤ n; omega
  have elA : el V m n A := ⟨g3, g1, by omega⟩
  have best : ∀ B, el V m n B → B ≠ A → v ≤ lC V m B ∧ (lC V m B = v → u ≤ ln_B (sC V m) B 0 ∧ (ln_B (sC V m) B 0 = u → ∃ p, p < sC V m ∧ A.testBit p = true ∧ B.testBit p = false ∧ ∀ q, q < p → A.testBit q = B.testBit q)) := by
    intro B hB hne
    obtain ⟨z1, z2⟩ := best hB.1 hB.2.1 hB.2.2
    refine ⟨z1, fun e => ?_⟩
    obtain ⟨z3, z4⟩ := z2 e
    rw [hu]
    refine ⟨z3, fun e2 => ?_⟩
    rcases z4 e2 with z5 | z5
    · exact absurd z5 (by rw [hA] at hne; exact hne)
    · rw [hA]; exact z5
  rw [← hA]
  have key : ∀ d X (x8 x9 : Int32) fuel, X + d = 2 ^ sC V m → 2 ^ (sC V m - 1) ≤ X → d < fuel → (X ≤ A → (x8 = -1 ∧ x9 = 0) ∨ ∃ Y, x8 = nI Y ∧ x9 = nI (lC V m Y) ∧ el V m n Y ∧ Y < X) → (A < X → x8 = nI A ∧ x9 = nI v) → lp_X10_line_78 J fu N (b + 110) (nI k) (nI m) (nI n) (nI (sC V m)) fuel x8 x9 (nI X) = J (nI A) (nI v) := by
    intro d
    induction d with
    | zero =>
      intro X x8 x9 fuel he h1 hf i1 i2
      obtain ⟨g, rfl⟩ : ∃ g, fuel = g + 1 := ⟨fuel - 1, by omega⟩
      obtain ⟨rfl, rfl⟩ := i2 (by omega)
      have sh : (1 : Int32) <<< (nI (sC V m) &&& 31) = nI (2 ^ sC V m) := pn_shl (by omega)
      rw [lp_X10_line_78, sh, if_pos (pn_le (by omega) (by omega))]
    | succ d ih =>
      intro X x8 x9 fuel he h1 hf i1 i2
      obtain ⟨g, rfl⟩ : ∃ g, fuel = g + 1 := ⟨fuel - 1, by omega⟩
      have hXK : X < 2 ^ sC V m := by omega
      have top := tb_top hK h1 hXK
      by_cases ce : ln_B (sC V m) X 0 ≤ n
      · have elX : el V m n X := ⟨top, hXK, ce⟩
        by_cases c1 : X ≤ A
        · rcases i1 c1 with ⟨rfl, rfl⟩ | ⟨Y, rfl, rfl, hY, hYX⟩
          · rw [vm_78n hfu hO hv hm hz hn elX]
            refine ih (X + 1) _ _ g (by omega) (by omega) (by omega) (fun q => Or.inr ⟨X, rfl, rfl, elX, by omega⟩) (fun q => ?_)
            have e : X = A := by omega
            rw [e, g4]
            exact ⟨rfl, rfl⟩
          · obtain ⟨D, e1, d1, d2, d3⟩ := vm_78y (g := g) hfu hO hv hm hz hn elX hY (by omega) J
            rw [e1]
            by_cases c2 : X = A
            · have hD : D = true := by
                obtain ⟨b1, b2⟩ := best Y hY (by omega)
                by_cases q : lC V m Y = v
                · obtain ⟨b3, b4⟩ := b2 q
                  have d3' := d3 (by rw [c2, g4, q])
                  by_cases q2 : ln_B (sC V m) Y 0 = u
                  · obtain ⟨p, p1, p2, p3, p4⟩ := b4 q2
                    rw [← c2] at p2 p4
                    rw [d3'.2.2 (by rw [c2, g5, q2]) p p1 p4 (by rw [p2, p3]; decide), p2]
                  · exact d3'.1 (by rw [c2, g5]; omega)
                · exact d1 (by rw [c2, g4]; omega)
              rw [if_pos hD]
              refine ih (X + 1) _ _ g (by omega) (by omega) (by omega) (fun q => by omega) (fun q => ?_)
              rw [c2, g4]
              exact ⟨rfl, rfl⟩
            · cases D
              · rw [if_neg (by simp)]
                exact ih (X + 1) _ _ g (by omega) (by omega) (by omega) (fun q => Or.inr ⟨Y, rfl, rfl, hY, by omega⟩) (fun q => by omega)
              · rw [if_pos rfl]
                exact ih (X + 1) _ _ g (by omega) (by omega) (by omega) (fun q => Or.inr ⟨X, rfl, rfl, elX, by omega⟩) (fun q => by omega)
        · obtain ⟨rfl, e9⟩ := i2 (by omega)
          rw [← g4] at e9
          subst e9
          obtain ⟨D, e1, d1, d2, d3⟩ := vm_78y (g := g) hfu hO hv hm hz hn elX elA (by omega) J
          have hD : D = false := by
            obtain ⟨b1, b2⟩ := best X elX (by omega)
            by_cases q : lC V m X = v
            · obtain ⟨b3, b4⟩ := b2 q
              have d3' := d3 (by rw [g4, q])
              by_cases q2 : ln_B (sC V m) X 0 = u
              · obtain ⟨p, p1, p2, p3, p4⟩ := b4 q2
                rw [d3'.2.2 (by rw [g5, q2]) p p1 (fun z hz => (p4 z hz).symm) (by rw [p2, p3]; decide), p3]
              · exact d3'.2.1 (by rw [g5]; omega)
            · exact d2 (by rw [g4]; omega)
          rw [e1, if_neg (by rw [hD]; simp)]
          exact ih (X + 1) _ _ g (by omega) (by omega) (by omega) (fun q => by omega) (fun q => ⟨rfl, by rw [g4]⟩)
      · rw [vm_78s hfu hv hn hXK (by omega)]
        have hne : X ≠ A := fun e => ce (by rw [e, g5]; exact hun)
        refine ih (X + 1) _ _ g (by omega) (by omega) (by omega) (fun q => ?_) (fun q => i2 (by omega))
        rcases i1 (by omega) with z | ⟨Y, z1, z2, z3, z4⟩
        · exact Or.inl z
        · exact Or.inr ⟨Y, z1, z2, z3, by omega⟩
  exact key (2 ^ (sC V m - 1)) (2 ^ (sC V m - 1)) (-1) 0 fu (by omega) (Nat.le_refl _) (by omega) (fun _ => Or.inl ⟨rfl, rfl⟩) (fun q => by omega)
/-- the size of the set's one number w -/
theorem vm_241 (hfu : 5000 ≤ fu) (hO : iv_O (b + 110) N) (hz : l_z b V m N) {A K z w p : Nat} (hK : K = sC V m) (hK12 : K ≤ 12) (hA : A < 2 ^ 12) (hz10 : 10 ≤ z) (hzl : z < 2 ^ 31) (hw : w < 2 ^ 31) (hp : p < K) (hb : A.testBit p = true) (hc : cnt A p = w) (J : Option (Int32 × gz_M)) : lp_X10_line_241 J N (b + 110) (nI z) (nI K) (nI A) fu (nI w) (0 : Int32) = some (nI (sS V m p), N) := by
  obtain ⟨s1, s2⟩ := lm_s hO
  have key : ∀ d q fuel, q + d = p → d < fuel → lp_X10_line_241 J N (b + 110) (nI z) (nI K) (nI A) fuel (nI (w - cnt A q)) (nI q) = some (nI (sS V m p), N) := by
    intro d
    induction d with
    | zero =>
      intro q fuel he hf
      obtain ⟨g, rfl⟩ : ∃ g, fuel = g + 1 := ⟨fuel - 1, by omega⟩
      obtain rfl : q = p := by omega
      rw [lp_X10_line_241, if_neg (pn_nle hp (by omega)), if_neg (show ¬ nI z < (10 : Int32) from nI_nlt (b := 10) hz10 (by omega))]
      simp only [gz_jn]
      rw [if_neg (fun e => by rw [(pn_bit (by omega) (by omega)).mp e] at hb; cases hb), hc, Nat.sub_self, if_pos (show nI 0 = 0 from rfl), s1, Option.bind_some, pu_aI s2 (show q < 12 by omega) (by decide), hz q (by omega), Option.bind_some]
    | succ d ih =>
      intro q fuel he hf
      obtain ⟨g, rfl⟩ : ∃ g, fuel = g + 1 := ⟨fuel - 1, by omega⟩
      have ihq := ih (q + 1) g (by omega) (by omega)
      have mono := cnt_mono A (q + 1) (p - (q + 1))
      rw [show q + 1 + (p - (q + 1)) = p by omega, hc] at mono
      rw [cnt_s] at mono ihq
      rw [lp_X10_line_241, if_neg (pn_nle (show q < K by omega) (by omega)), if_neg (show ¬ nI z < (10 : Int32) from nI_nlt (b := 10) hz10 (by omega))]
      simp only [gz_jn, pn_1]
      cases hq : A.testBit q
      · rw [hq] at ihq
        rw [if_pos ((pn_bit (by omega) (by omega)).mpr hq)]
        exact ihq
      · rw [hq] at ihq mono
        have m1 : cnt A q + 1 ≤ w := mono
        have i1 : lp_X10_line_241 J N (b + 110) (nI z) (nI K) (nI A) g (nI (w - (cnt A q + 1))) (nI (q + 1)) = some (nI (sS V m p), N) := ihq
        rw [if_neg (fun e => by rw [(pn_bit (by omega) (by omega)).mp e] at hq; cases hq), if_neg (nI_ne0 (by omega) (by omega)), show w - cnt A q = w - (cnt A q + 1) + 1 by omega, pk_m1]
        exact i1
  exact key p 0 fu (by omega) (by omega)
theorem vm_241n (hfu : 5000 ≤ fu) {A K z w : Nat} (hK12 : K ≤ 12) (hA : A < 2 ^ 12) (hz10 : 10 ≤ z) (hzl : z < 2 ^ 31) (hw : w < 2 ^ 31) (hc : cnt A K ≤ w) (J : Option (Int32 × gz_M)) : lp_X10_line_241 J N (b + 110) (nI z) (nI K) (nI A) fu (nI w) (0 : Int32) = J := by
  have key : ∀ d q fuel, q + d = K → d < fuel → lp_X10_line_241 J N (b + 110) (nI z) (nI K) (nI A) fuel (nI (w - cnt A q)) (nI q) = J := by
    intro d
    induction d with
    | zero =>
      intro q fuel he hf
      obtain ⟨g, rfl⟩ : ∃ g, fuel = g + 1 := ⟨fuel - 1, by omega⟩
      rw [lp_X10_line_241, if_pos (pn_le (by omega) (by omega))]
    | succ d ih =>
      intro q fuel he hf
      obtain ⟨g, rfl⟩ : ∃ g, fuel = g + 1 := ⟨fuel - 1, by omega⟩
      have ihq := ih (q + 1) g (by omega) (by omega)
      have mono := cnt_mono A (q + 1) (K - (q + 1))
      rw [show q + 1 + (K - (q + 1)) = K by omega] at mono
      rw [cnt_s] at mono ihq
      rw [lp_X10_line_241, if_neg (pn_nle (show q < K by omega) (by omega)), if_neg (show ¬ nI z < (10 : Int32) from nI_nlt (b := 10) hz10 (by omega))]
      simp only [gz_jn, pn_1]
      cases hq : A.testBit q
      · rw [hq] at ihq
        rw [if_pos ((pn_bit (by omega) (by omega)).mpr hq)]
        exact ihq
      · rw [hq] at ihq mono
        have m1 : cnt A q + 1 ≤ cnt A K := mono
        have i1 : lp_X10_line_241 J N (b + 110) (nI z) (nI K) (nI A) g (nI (w - (cnt A q + 1))) (nI (q + 1)) = J := ihq
        rw [if_neg (fun e => by rw [(pn_bit (by omega) (by omega)).mp e] at hq; cases hq), if_neg (nI_ne0 (by omega) (by omega)), show w - cnt A q = w - (cnt A q + 1) + 1 by omega, pk_m1]
        exact i1
  exact key K 0 fu (by omega) (by omega)
/-- what the reference answers -/
theorem vm_lna (hfu : 5000 ≤ fu) {M : gz_M} (hO : iv_O (b + 110) M) (hv : vy_m (b + 110) k V M) (hin : f_X10_isValley fu M (b + 110) (nI k) = some 1) (hm : m < 3) (hnf : 0 < pv_nf V) {n v z : Nat} (hn1 : 1 ≤ n) (hn : n ≤ 6) (hz31 : z < 2 ^ 31) (hL : lL V m (lu V m (n - 1)) 0 = some v) : ∃ M7, pf_f (fun c => c = b + 147) M M7 ∧ f_X10_line fu M (b + 110) (nI k) (nI m) (nI n) (nI z) = if z = 0 then some (nI v, M7) else if z = 1 then some (nI (lu V m (n - 1)), M7) else if 10 ≤ z ∧ z - 10 < lu V m (n - 1) then some (nI (sS V m (lj V m (lu V m (n - 1) - (z - 10) - 1) (lg V m (lu V m (n - 1)) (z - 10)))), M7) else gz_b2 (f_X10_refuse fu M7 (b + 110) (-2 : Int32)) fun x31 M32 => some (x31, M32) := by
  have hV := vm_ok hv
  have o1 := hV.1
  have hK := sC_pos hV hnf hm
  have c12 := sC_le hV m
  have p12 : 2 ^ sC V m ≤ 2 ^ 12 := Nat.pow_le_pow_right (by omega) c12
  obtain ⟨s1, s2⟩ := lm_s hO
  obtain ⟨M7, a1, a2, a3⟩ := vm_ms hfu hv hm (r := b + 147) s2 (by omega)
  have O7 := hO.same a2.2.1 a2.2.2.2.1
  have v7 : vy_m (b + 110) k V M7 := hv.fr a2 (fun c q1 q2 e => by omega)
  have eK : nI (sC V m) - (1 : Int32) = nI (sC V m - 1) := pk_sub (a := sC V m) (b := 1) (by omega)
  have sh : (1 : Int32) <<< ((nI (sC V m) - (1 : Int32)) &&& 31) = nI (2 ^ (sC V m - 1)) := by rw [eK]; exact pn_shl (by omega)
  obtain ⟨g1, g2, g3⟩ := gA_lt (W := ln_W V m) (S := sS V m) hK hL
  obtain ⟨-, -, g4, g5⟩ := gA_ok (W := ln_W V m) (S := sS V m) _ 0 v (by omega) hL
  have hbits : f_X10_bits fu M7 (nI (lA V m (lu V m (n - 1)))) = some (nI (lu V m (n - 1))) := by
    rw [bc_M hfu M7 (show lA V m (lu V m (n - 1)) < 2 ^ 20 from Nat.lt_of_lt_of_le g1 (by omega)), ln_bc c12 g1, g5]
  refine ⟨M7, a2, ?_⟩
  have run : f_X10_line fu M (b + 110) (nI k) (nI m) (nI n) (nI z) = if (2 : Int32) ≤ nI z then lp_X10_line_241 (gz_b2 (f_X10_refuse fu M7 (b + 110) (-2 : Int32)) fun x31 M32 => some (x31, M32)) M7 (b + 110) (nI z) (nI (sC V m)) (nI (lA V m (lu V m (n - 1)))) fu (nI z - (10 : Int32)) (0 : Int32) else if nI z = 0 then some (nI v, M7) else some (nI (lu V m (n - 1)), M7) := by
    have c2 : (0 : Int32) ≤ nI m ∧ nI m ≤ 2 := ⟨nI_pos' (by omega), nI_le (b := 2) (by omega) (by omega)⟩
    have c3 : (1 : Int32) ≤ nI n ∧ nI n ≤ 6 := ⟨nI_le (a := 1) hn1 (by omega), nI_le (b := 6) hn (by omega)⟩
    unfold f_X10_line
    rw [hO.g, hin, Option.bind_some]
    simp only [gz_jn]
    rw [pu_10, pn_0_2, if_pos c2, Option.bind_some, pu_10, pn_1_6, if_pos c3, Option.bind_some, pu_10, if_neg (nI_pos hz31), vm_nf fu hv, Option.bind_some, if_neg (nI_ne0 hnf (by omega)), s1, Option.bind_some, a1, pu_b2, sh, vm_78 hfu O7 v7 hm a3 hnf hn1 hn hL]
    simp only [hbits, Option.bind_some]
  rw [run]
  by_cases z0 : z = 0
  · subst z0
    rw [if_neg (show ¬ (2 : Int32) ≤ nI 0 by decide), if_pos (show nI 0 = 0 from rfl), if_pos rfl]
  · rw [if_neg z0]
    by_cases z1 : z = 1
    · subst z1
      rw [if_neg (show ¬ (2 : Int32) ≤ nI 1 by decide), if_neg (show ¬ nI 1 = 0 by decide), if_pos rfl]
    · rw [if_neg z1, if_pos (show (2 : Int32) ≤ nI z from nI_le (a := 2) (by omega) hz31)]
      by_cases z10 : 10 ≤ z
      · have ez : nI z - (10 : Int32) = nI (z - 10) := pk_sub (a := z) (b := 10) z10
        rw [ez]
        by_cases zu : z - 10 < lu V m (n - 1)
        · rw [if_pos ⟨z10, zu⟩]
          obtain ⟨p1, p2, p3⟩ := gI_p (W := ln_W V m) (S := sS V m) hL zu
          exact vm_241 hfu O7 a3 rfl c12 (Nat.lt_of_lt_of_le g1 p12) z10 hz31 (by omega) p1 p2 p3 _
        · rw [if_neg (fun q => zu q.2)]
          refine vm_241n hfu c12 (Nat.lt_of_lt_of_le g1 p12) z10 hz31 (by omega) ?_ _
          rw [← ln_B_cnt, g5]
          exact Nat.le_of_not_lt zu
      · rw [if_neg (fun q => z10 q.1)]
        obtain ⟨g, hg⟩ : ∃ g, fu = g + 1 := ⟨fu - 1, by omega⟩
        have : ∀ (F : Nat) (R : Option (Int32 × gz_M)) (x : Int32), F = g + 1 → lp_X10_line_241 R M7 (b + 110) (nI z) (nI (sC V m)) (nI (lA V m (lu V m (n - 1)))) F x (0 : Int32) = R := by
          rintro F R x rfl
          rw [lp_X10_line_241, if_neg (show ¬ nI (sC V m) ≤ (0 : Int32) from nI_nle hK (by omega)), if_pos (show nI z < (10 : Int32) from nI_lt (b := 10) (by omega) (by omega))]
        exact this fu _ _ hg
end LM2
/-- a refusal of the reference after its rows -/
theorem rf_late (fu : Nat) {b : Nat} {M : gz_M} (h : pi_I b M) : ∃ M1, f_X9_refuse fu M b (-2 : Int32) = some (-2, M1) ∧ pf_w b M M1 ∧ ∀ M7, pf_f (fun c => c = b + 147) M1 M7 → ∃ M2, f_X10_refuse fu M7 (b + 110) (-2 : Int32) = some (-2, M2) ∧ pi_I b M2 := by
  obtain ⟨M1, M2, r1, r2, r3, hw⟩ := pu_rfw fu h 0 (by decide) (-2) pu_k2
  refine ⟨M1, r1, hw, fun M7 w => ?_⟩
  have O1 : iv_O (b + 110) M1 := h.2.1.same hw.2.1 hw.2.2.2.1
  have O7 : iv_O (b + 110) M7 := O1.same w.2.1 w.2.2.2.1
  have e1 := pu_rfM fu O1 (k := 0) (by omega)
  have e7 := pu_rfM fu O7 (k := 0) (by omega)
  rw [pu_k2] at e1 e7
  rw [r2] at e1
  cases e1
  refine ⟨_, e7, r3.scratch ⟨w.1, w.2.1, w.2.2.1, w.2.2.2.1, fun c q1 q2 => ?_⟩ ?_⟩
  · by_cases e : c = b + 128
    · subst e
      funext j
      rw [pu_same, pu_same, w.2.2.2.2 _ (by omega)]
    · rw [pv_I1 e, pv_I1 e, w.2.2.2.2 _ (by omega)]
  · rw [pv_I1 (by omega), pv_I1 (by omega), w.2.2.2.2 _ (by omega)]
theorem op_line (b : Nat) {fu : Nat} (hfu : 5000 ≤ fu) : gz_op_line (pi_I b) fu b (b + 110) := by
  intro M v m n w hI
  rcases pg_val hI v with ⟨k, V, rfl, hv⟩ | hz
  · have hok := hv.ok
    have o1 := hok.1
    have o2 := hok.2.1
    have op2 : 2 ^ pv_nl V ≤ 2 ^ 10 := Nat.pow_le_pow_right (by omega) o2
    by_cases hc : (0 ≤ m ∧ m ≤ 2) ∧ (1 ≤ n ∧ n ≤ 6)
    · obtain ⟨c1, c2⟩ := hc
      obtain ⟨m, hm, rfl⟩ := pu_num (n := 2) (by decide) c1
      obtain ⟨n, hn, rfl⟩ := pu_num (a := n) (n := 6) (by decide) ⟨Int32.le_trans (by decide) c2.1, c2.2⟩
      have hn1 : 1 ≤ n := (nI_leI (a := 1) (by decide) (by omega)).mp c2.1
      have hm3 : m < 3 := by omega
      by_cases hnf0 : pv_nf V = 0
      · have hz0 : (nI (pv_nf V) = 0) = True := eq_true (by rw [hnf0]; rfl)
        obtain ⟨M1, M2, r1, r2, r3, hw⟩ := pu_rfw fu hI 0 (by decide) (-2) pu_k2
        refine ⟨-2, M1, M2, ?_, ?_, r3⟩
        · simp only [f_X9_line, gz_jn, hv.gC, hv.vC fu, hv.fC fu, hv.lC fu, hv.sC fu, pu_within, pu_shelf, pu_count, Option.bind_some, pu_ii, pu_10, if_true, gz_b2, r1, if_pos c1, if_pos c2, hv.p1, hv.p2, hv.p3, vc_nf hv.c, hz0, ite_self]
        · have hv' := hv.same hw
          simp only [f_X10_line, gz_jn, hv'.gM, hv'.vM fu, hv'.fM fu, hv'.lM fu, hv'.sM fu, hv'.nM fu, pn_0_1, pn_0_2, pn_0_3, pn_0_4, pn_0_5, pn_0_7, pn_0_10, pn_0_40, pn_1_4, pn_1_6, pn_1_9, Option.bind_some, pu_ii, pu_10, if_true, gz_b2, r2, if_pos c1, if_pos c2, vm_nf fu hv'.m, hz0, ite_self]
      · have hnf : 0 < pv_nf V := by omega
        have hz0 : (nI (pv_nf V) = 0) = False := eq_false (nI_ne0 hnf (by omega))
        have hk := hv.2.2.1
        obtain ⟨M11, vv, a1, w1, hL, s1, s2, s3⟩ := vc_sv hfu hv.1 hv.c (by omega) hm3 hnf hn1 hn
        obtain ⟨u1, u2, -⟩ := ln_u_ok (W := ln_W V m) (S := sS V m) (sC_pos hok hnf hm3) (n - 1)
        have hu6 : lu V m (n - 1) ≤ 6 := by show ln_u _ _ _ (n - 1) ≤ 6; omega
        have hw1 : pf_w b M M11 := ⟨w1.1, w1.2.1, w1.2.2.1, w1.2.2.2.1, fun c q1 q2 => w1.2.2.2.2 c (by omega)⟩
        have hI1 : pi_I b M11 := hI.scratch hw1 (w1.2.2.2.2 _ (by omega))
        have hv1 := hv.same hw1
        have L11 : iv_L b M11 := hv1.1
        have l8 : gz_gR M11 9 8 b = some (b + 67) := lc_R L11 8 67 (by decide)
        obtain ⟨k11, r11, -, -, q11, -, -⟩ := ll_r L11
        have hl8 : gz_gR M 9 8 b = some (b + 67) := lc_R hv.1 8 67 (by decide)
        by_cases hcb : w = 0 ∨ w = 1 ∨ (10 ≤ w ∧ w ≤ 15)
        · have base : f_X9_line fu M b (nI k) (nI m) (nI n) w = if w = 0 then some (nI vv, M11) else if w = (1 : Int32) then some (nI (lu V m (n - 1)), M11) else if nI (lu V m (n - 1)) ≤ w - (10 : Int32) then (gz_b2 (f_X9_refuse fu M11 b (-2 : Int32)) fun x21 M22 => some (x21, M22)) else (gz_aI M11 (b + 68) (w - (10 : Int32))).bind fun x20 => some (x20, M11) := by
            simp only [f_X9_line, gz_jn, hv.gC, hv.vC fu, hv.fC fu, hv.lC fu, hv.sC fu, pu_within, pu_shelf, pu_count, Option.bind_some, pu_ii, pu_10, if_true, gz_b2, if_pos c1, if_pos c2, hv.p1, hv.p2, hv.p3, vc_nf hv.c, hz0, if_false, hl8, a1, l8, r11, pu_gI (ci := 5) 1 k11, pu_gI (ci := 5) 2 k11, s1, s2]
            by_cases w0 : w = 0
            · simp only [w0, if_true]
            · by_cases w1' : w = 1
              · simp only [w1', pu_10, if_true]
              · have w15 : 10 ≤ w ∧ w ≤ 15 := by
                  rcases hcb with q | q | q
                  · exact absurd q w0
                  · exact absurd q w1'
                  · exact q
                simp only [if_neg w0, if_neg w1', if_pos w15]
          have hwn : 0 ≤ w := by
            rcases hcb with q | q | q
            · rw [q]; decide
            · rw [q]; decide
            · exact Int32.le_trans (by decide) q.1
          obtain ⟨z, hz31, rfl⟩ := nI_of (Int32.not_lt.mpr hwn)
          obtain ⟨M7, b1, b2⟩ := vm_lna (b := b) hfu hv1.2.1 hv1.m (hv1.vM fu) hm3 hnf hn1 hn hz31 hL
          have hw7 : pf_w b M11 M7 := ⟨b1.1, b1.2.1, b1.2.2.1, b1.2.2.2.1, fun c q1 q2 => b1.2.2.2.2 c (by omega)⟩
          have hI7 : pi_I b M7 := hI1.scratch hw7 (b1.2.2.2.2 _ (by omega))
          by_cases z0 : z = 0
          · subst z0
            refine ⟨nI vv, M11, M7, ?_, ?_, hI7⟩
            · rw [base, if_pos (show nI 0 = 0 from rfl)]
            · rw [b2, if_pos rfl]
          · by_cases z1 : z = 1
            · subst z1
              refine ⟨nI (lu V m (n - 1)), M11, M7, ?_, ?_, hI7⟩
              · rw [base, if_neg (show ¬ nI 1 = 0 by decide), if_pos (show nI 1 = (1 : Int32) from rfl)]
              · rw [b2, if_neg (by omega), if_pos rfl]
            · have n0 : ¬ nI z = 0 := nI_ne0 (by omega) hz31
              have n1 : ¬ nI z = (1 : Int32) := fun q => z1 ((nI_eq (b := 1) hz31 (by omega)).mp q)
              have z15 : 10 ≤ z ∧ z ≤ 15 := by
                rcases hcb with q | q | q
                · exact absurd q n0
                · exact absurd q n1
                · exact ⟨(nI_leI (a := 10) (by omega) hz31).mp q.1, (nI_leI (b := 15) hz31 (by omega)).mp q.2⟩
              have ez : nI z - (10 : Int32) = nI (z - 10) := pk_sub (a := z) (b := 10) z15.1
              rw [if_neg n0, if_neg n1, ez] at base
              rw [if_neg z0, if_neg z1] at b2
              by_cases zu : z - 10 < lu V m (n - 1)
              · rw [if_neg (nI_ge zu (by omega)), pu_aI q11 (show z - 10 < 6 by omega) (by decide), s3 _ zu, Option.bind_some] at base
                rw [if_pos ⟨z15.1, zu⟩] at b2
                exact ⟨_, M11, M7, base, b2, hI7⟩
              · obtain ⟨M12, r1, hw12, late⟩ := rf_late fu hI1
                have hv12 := hv1.same hw12
                obtain ⟨M8, c1', c2'⟩ := vm_lna (b := b) hfu hv12.2.1 hv12.m (hv12.vM fu) hm3 hnf hn1 hn hz31 hL
                rw [if_neg z0, if_neg z1, if_neg (fun q => zu q.2)] at c2'
                obtain ⟨M2, r2, r3⟩ := late M8 c1'
                refine ⟨-2, M12, M2, ?_, ?_, r3⟩
                · rw [base, if_pos (nI_le (by omega) (by omega)), r1, pu_b2]
                · rw [c2', r2, pu_b2]
        · obtain ⟨M12, r1, hw12, late⟩ := rf_late fu hI
          have hv12 := hv.same hw12
          have w0 : ¬ w = 0 := fun q => hcb (Or.inl q)
          have w1' : ¬ w = 1 := fun q => hcb (Or.inr (Or.inl q))
          have w15 : ¬ (10 ≤ w ∧ w ≤ 15) := fun q => hcb (Or.inr (Or.inr q))
          have base : f_X9_line fu M b (nI k) (nI m) (nI n) w = some (-2, M12) := by
            simp only [f_X9_line, gz_jn, hv.gC, hv.vC fu, hv.fC fu, hv.lC fu, hv.sC fu, pu_within, pu_shelf, pu_count, Option.bind_some, pu_ii, pu_10, if_true, gz_b2, if_pos c1, if_pos c2, hv.p1, hv.p2, hv.p3, vc_nf hv.c, hz0, if_false, if_neg w0, if_neg w1', if_neg w15, if_true, r1]
          by_cases wn : w < 0
          · obtain ⟨M2, r2, r3⟩ := late M12 pf_f.refl
            refine ⟨-2, M12, M2, base, ?_, r3⟩
            simp only [f_X10_line, gz_jn, hv12.gM, hv12.vM fu, hv12.fM fu, hv12.lM fu, hv12.sM fu, hv12.nM fu, pn_0_1, pn_0_2, pn_0_3, pn_0_4, pn_0_5, pn_0_7, pn_0_10, pn_0_40, pn_1_4, pn_1_6, pn_1_9, Option.bind_some, pu_ii, pu_10, if_true, gz_b2, if_pos c1, if_pos c2, if_pos wn, r2]
          · obtain ⟨z, hz31, rfl⟩ := nI_of wn
            obtain ⟨M8, c1', c2'⟩ := vm_lna (b := b) hfu hv12.2.1 hv12.m (hv12.vM fu) hm3 hnf hn1 hn hz31 hL
            have z0 : z ≠ 0 := fun q => w0 (by rw [q]; rfl)
            have z1 : z ≠ 1 := fun q => w1' (by rw [q]; rfl)
            have z15 : ¬ (10 ≤ z ∧ z ≤ 15) := fun q => w15 ⟨nI_le (a := 10) q.1 hz31, nI_le (b := 15) q.2 (by omega)⟩
            rw [if_neg z0, if_neg z1, if_neg (fun q => z15 ⟨q.1, by omega⟩)] at c2'
            obtain ⟨M2, r2, r3⟩ := late M8 c1'
            refine ⟨-2, M12, M2, base, ?_, r3⟩
            rw [c2', r2, pu_b2]
    · obtain ⟨M1, M2, r1, r2, r3, hw⟩ := pu_rfw fu hI 0 (by decide) (-2) pu_k2
      refine ⟨-2, M1, M2, ?_, ?_, r3⟩
      · simp only [f_X9_line, gz_jn, hv.gC, hv.vC fu, hv.fC fu, hv.lC fu, hv.sC fu, pu_within, pu_shelf, pu_count, Option.bind_some, pu_ii, pu_10, if_true, gz_b2, r1, pu_n2 hc]
      · have hv' := hv.same hw
        simp only [f_X10_line, gz_jn, hv'.gM, hv'.vM fu, hv'.fM fu, hv'.lM fu, hv'.sM fu, hv'.nM fu, pn_0_1, pn_0_2, pn_0_3, pn_0_4, pn_0_5, pn_0_7, pn_0_10, pn_0_40, pn_1_4, pn_1_6, pn_1_9, Option.bind_some, pu_ii, pu_10, if_true, gz_b2, r2, pu_n2 hc]
  · obtain ⟨M1, M2, r1, r2, r3, hw⟩ := pu_rfw fu hI 0 (by decide) (-2) pu_k2
    refine ⟨-2, M1, M2, ?_, ?_, r3⟩
    · simp only [f_X9_line, gz_jn, hz.gC, hz.vC fu, hz.fC fu, hz.lC fu, hz.sC fu, pu_within, pu_shelf, pu_count, Option.bind_some, pu_ii, pu_10, if_true, gz_b2, r1]
    · have hv' := hz.same hw
      simp only [f_X10_line, gz_jn, hv'.gM, hv'.vM fu, hv'.fM fu, hv'.lM fu, hv'.sM fu, hv'.nM fu, pn_0_1, pn_0_2, pn_0_3, pn_0_4, pn_0_5, pn_0_7, pn_0_10, pn_0_40, pn_1_4, pn_1_6, pn_1_9, Option.bind_some, pu_ii, pu_10, if_true, gz_b2, r2]
