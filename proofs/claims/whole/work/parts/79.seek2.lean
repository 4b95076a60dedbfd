/-! corners: the best one -/
def cn_s (V : pv_V) (c : Nat) : Nat := fb_sm (fun f => pv_F V (5 * f + 3) * oo V (sp_bb V (sS V 0 (c / sC V 2 / sC V 1)) (sS V 1 (c / sC V 2 % sC V 1)) (sS V 2 (c % sC V 2)) (pv_F V (5 * f)) (pv_F V (5 * f + 1)) (pv_F V (5 * f + 2)) (pv_F V (5 * f + 4)))) (pv_nf V)
def cn_b (V : pv_V) : Nat → Option (Nat × Nat)
  | 0 => none
  | c + 1 => sp_add (cn_b V c) c (some (cn_s V c))
theorem oo_le {V : pv_V} (hV : pv_ok V) {o : Option Nat} (h : ∀ x, o = some x → x ≤ 810) : oo V o ≤ 810 := by
  cases o with
  | none => show pv_out V ≤ 810; have := hV.2.2.1; omega
  | some v => exact h v rfl
theorem cn_s_le {V : pv_V} (hV : pv_ok V) (c : Nat) : cn_s V c ≤ 962280 := by
  have h : ∀ f, f < pv_nf V → pv_F V (5 * f + 3) * oo V (sp_bb V (sS V 0 (c / sC V 2 / sC V 1)) (sS V 1 (c / sC V 2 % sC V 1)) (sS V 2 (c % sC V 2)) (pv_F V (5 * f)) (pv_F V (5 * f + 1)) (pv_F V (5 * f + 2)) (pv_F V (5 * f + 4))) ≤ 99 * 810 := fun f hf => Nat.mul_le_mul (hV.2.2.2.2.2.1 f hf).2.2.1 (oo_le hV (fun x hx => sp_bb_le hV hx))
  refine Nat.le_trans (fb_sm_bound h) ?_
  calc pv_nf V * (99 * 810) ≤ 12 * (99 * 810) := Nat.mul_le_mul_right _ hV.1
  _ = 962280 := rfl
theorem cn_b_ok (V : pv_V) : ∀ c i s, cn_b V c = some (i, s) → i < c ∧ s = cn_s V i
  | 0, i, s, h => by cases h
  | c + 1, i, s, h => by
    unfold cn_b at h
    cases e : cn_b V c with
    | none =>
      rw [e, sa_0] at h
      cases h
      exact ⟨by omega, rfl⟩
    | some p =>
      obtain ⟨i', s'⟩ := p
      have ih := cn_b_ok V c i' s' e
      rw [e, sa_1] at h
      split at h
      · cases h
        exact ⟨by omega, rfl⟩
      · cases h
        exact ⟨by omega, ih.2⟩
theorem cn_b_some (V : pv_V) (c : Nat) : ∃ i s, cn_b V (c + 1) = some (i, s) := by
  unfold cn_b
  cases e : cn_b V c with
  | none => exact ⟨_, _, sa_0 _ _⟩
  | some p =>
    obtain ⟨i', s'⟩ := p
    rw [sa_1]
    split
    · exact ⟨_, _, rfl⟩
    · exact ⟨_, _, rfl⟩
theorem oadd_3 (A B C : Option Nat) : oadd (oadd (oadd (some 0) A) B) C = A.bind fun x => B.bind fun y => C.bind fun z => some (x + y + z) := by
  cases A <;> cases B <;> cases C <;> simp [oadd]
theorem cn_d {H B l m h : Nat} (hm : m < B) (hh : h < H) : ((l * B + m) * H + h) / H / B = l ∧ ((l * B + m) * H + h) / H % B = m ∧ ((l * B + m) * H + h) % H = h := by
  have e1 : ((l * B + m) * H + h) / H = l * B + m := by
    rw [Nat.mul_comm (l * B + m) H, Nat.mul_add_div (by omega), Nat.div_eq_of_lt hh, Nat.add_zero]
  have e2 : ((l * B + m) * H + h) % H = h := by
    rw [Nat.mul_comm (l * B + m) H, Nat.mul_add_mod, Nat.mod_eq_of_lt hh]
  rw [e1, e2, Nat.mul_comm l B, Nat.mul_add_div (by omega), Nat.div_eq_of_lt hm, Nat.mul_add_mod, Nat.mod_eq_of_lt hm]
  exact ⟨Nat.add_zero l, rfl, rfl⟩
def k_P (b c : Nat) : Prop := c = b + 79 ∨ c = b + 80 ∨ c = b + 91 ∨ c = b + 92
theorem k_R.fr {b : Nat} {V : pv_V} {N N' : gz_M} (h : k_R b V N) (w : pf_f (k_P b) N N') (h10 : N'.2.2.1 (b + 79) 10 = N.2.2.1 (b + 79) 10) (h11 : N'.2.2.1 (b + 79) 11 = N.2.2.1 (b + 79) 11) : k_R b V N' := by
  obtain ⟨a1, a2, a3, a4, a5, a6, a7⟩ := h
  refine ⟨a1.same w.2.1 w.2.2.2.1, a2.same (fun c q => w.2.2.2.2 c (by unfold k_P; omega)), h10.trans a3, h11.trans a4, fun f hf => by rw [w.2.2.2.2 _ (by unfold k_P; omega)]; exact a5 f hf, fun m i f hm hi hf => by rw [w.2.2.2.2 _ (by unfold k_P; omega)]; exact a6 m i f hm hi hf, fun f hf => by rw [w.2.2.2.2 _ (by unfold k_P; omega)]; exact a7 f hf⟩
def k_c (b : Nat) (V : pv_V) (c : Nat) (N : gz_M) : Prop := N.2.2.1 (b + 79) 1 = pc_i (cn_b V c) ∧ N.2.2.1 (b + 79) 2 = pc_n (cn_b V c) ∧ ∀ i s, cn_b V c = some (i, s) → N.2.2.1 (b + 80) 0 = nI (sS V 0 (i / sC V 2 / sC V 1)) ∧ N.2.2.1 (b + 80) 1 = nI (sS V 1 (i / sC V 2 % sC V 1)) ∧ N.2.2.1 (b + 80) 2 = nI (sS V 2 (i % sC V 2))
def k_s (N N' : gz_M) (b : Nat) : Prop := N'.2.2.1 (b + 79) 10 = N.2.2.1 (b + 79) 10 ∧ N'.2.2.1 (b + 79) 11 = N.2.2.1 (b + 79) 11
theorem k_s.trans {N N' N'' : gz_M} {b : Nat} (h : k_s N N' b) (h' : k_s N' N'' b) : k_s N N'' b := ⟨h'.1.trans h.1, h'.2.trans h.2⟩
section SK2
variable {fu b : Nat} {V : pv_V}
def uB (V : pv_V) (l m f : Nat) : Option Nat := oadd (oadd (some 0) (shr V 0 l f)) (shr V 1 m f)
theorem uB_le (hV : pv_ok V) {l m f x : Nat} (h : uB V l m f = some x) : x ≤ 1000 := by
  unfold uB at h
  cases e0 : shr V 0 l f with
  | none => rw [e0] at h; cases h
  | some y =>
    cases e1 : shr V 1 m f with
    | none => rw [e0, e1] at h; cases h
    | some z =>
      rw [e0, e1] at h
      have h1 := shr_le hV (by omega) e0
      have h2 := shr_le hV (by omega) e1
      have h' : some (0 + y + z) = some x := h
      cases h'
      omega
theorem cn_sum {l m h : Nat} (hm : m < sC V 1) (hh : h < sC V 2) : fb_sm (fun f => pv_F V (5 * f + 3) * oo V (oadd (uB V l m f) (shr V 2 h f))) (pv_nf V) = cn_s V ((l * sC V 1 + m) * sC V 2 + h) := by
  unfold cn_s
  obtain ⟨e1, e2, e3⟩ := cn_d (l := l) hm hh
  rw [e1, e2, e3]
  refine fb_sm_cong (fun f hf => ?_)
  unfold uB
  rw [oadd_3]
  rfl
def k_2 (b c : Nat) : Prop := c = b + 79 ∨ c = b + 80
theorem vc_82 (hfu : 5000 ≤ fu) (hV : pv_ok V) {N : gz_M} (hR : k_R b V N) {l m : Nat} (hl : l < sC V 0) (hm : m < sC V 1) (hB : ∀ f, f < pv_nf V → N.2.2.1 (b + 92) f = pcN (uB V l m f)) (hc : k_c b V ((l * sC V 1 + m) * sC V 2) N) : ∃ N', (∀ J, lp_X0_seekIn_82 J fu (b + 79) (nI l) (nI m) fu (nI ((l * sC V 1 + m) * sC V 2)) (0 : Int32) N = J (nI ((l * sC V 1 + m) * sC V 2 + sC V 2)) N') ∧ pf_f (k_2 b) N N' ∧ k_s N N' b ∧ k_c b V ((l * sC V 1 + m) * sC V 2 + sC V 2) N' := by
  have c0 := sC_le hV 0
  have c1 := sC_le hV 1
  have c2 := sC_le hV 2
  have key : ∀ d h (N1 : gz_M), h + d = sC V 2 → pf_f (k_2 b) N N1 → k_s N N1 b → k_c b V ((l * sC V 1 + m) * sC V 2 + h) N1 → ∃ N', (∀ J fuel, d < fuel → lp_X0_seekIn_82 J fu (b + 79) (nI l) (nI m) fuel (nI ((l * sC V 1 + m) * sC V 2 + h)) (nI h) N1 = J (nI ((l * sC V 1 + m) * sC V 2 + sC V 2)) N') ∧ pf_f (k_2 b) N N' ∧ k_s N N' b ∧ k_c b V ((l * sC V 1 + m) * sC V 2 + sC V 2) N' := by
    intro d
    induction d with
    | zero =>
      intro h N1 e w hs hc1
      have eh : h = sC V 2 := by omega
      have R1 : k_R b V N1 := hR.fr (w.trans pf_f.refl (fun c q => by unfold k_2 at q; unfold k_P; omega) (fun _ (q : False) => q.elim)) hs.1 hs.2
      obtain ⟨l1, l2, l3, l4, l5⟩ := lk_s R1.1 (m := 2) (by omega)
      have a2 : gz_aI N1 (b + 89) (2 : Int32) = some (nI (sC V 2)) := (pu_aI (i := 2) l5 (by omega) (by decide)).trans (by rw [(R1.2.1 2 (by omega)).1])
      rw [eh] at hc1
      refine ⟨N1, fun J fuel hf => ?_, w, hs, hc1⟩
      obtain ⟨g, rfl⟩ : ∃ g, fuel = g + 1 := ⟨fuel - 1, by omega⟩
      rw [lp_X0_seekIn_82, l4, Option.bind_some, a2, Option.bind_some, if_pos (pn_le (by omega) (by omega)), eh]
    | succ d ih =>
      intro h N1 e w hs hc1
      have hh : h < sC V 2 := by omega
      have R1 : k_R b V N1 := hR.fr (w.trans pf_f.refl (fun c q => by unfold k_2 at q; unfold k_P; omega) (fun _ (q : False) => q.elim)) hs.1 hs.2
      obtain ⟨l1, l2, l3, l4, l5⟩ := lk_s R1.1 (m := 2) (by omega)
      obtain ⟨-, l2a, l3a, -, -⟩ := lk_s R1.1 (m := 0) (by omega)
      obtain ⟨-, l2b, l3b, -, -⟩ := lk_s R1.1 (m := 1) (by omega)
      have a2 : gz_aI N1 (b + 89) (2 : Int32) = some (nI (sC V 2)) := (pu_aI (i := 2) l5 (by omega) (by decide)).trans (by rw [(R1.2.1 2 (by omega)).1])
      obtain ⟨k1, r2, r3, r4, r5, r6, r7, r8, r9, r10, r11⟩ := lk_r R1.1
      have sw := vc_sw hfu hV R1 hh (uB V l m) (fun f x hf hx => uB_le hV hx) (fun f hf => by rw [w.2.2.2.2 _ (by unfold k_2; omega)]; exact hB f hf)
      rw [cn_sum hm hh] at sw
      obtain ⟨p1, p2, p3'⟩ := hc1
      have hS := cn_s_le hV ((l * sC V 1 + m) * sC V 2 + h)
      obtain ⟨q1, q2, q3⟩ := cn_d (l := l) hm hh
      generalize hcc : (l * sC V 1 + m) * sC V 2 + h = cc at *
      have enext : (l * sC V 1 + m) * sC V 2 + (h + 1) = cc + 1 := by omega
      have upd : (cn_b V (cc + 1) = some (cc, cn_s V cc)) → ∃ N', (∀ J fuel, d + 1 < fuel + 1 → ((gz_pI N1 0 2 (b + 79) (nI (cn_s V cc))).bind fun M29 => (gz_pI M29 0 1 (b + 79) (nI cc)).bind fun M30 => (gz_gR M30 0 0 (b + 79)).bind fun x31 => (gz_gR M30 0 3 (b + 79)).bind fun x32 => (gz_aR M30 x32 (0 : Int32)).bind fun x33 => (gz_aI M30 x33 (nI l)).bind fun x34 => (gz_tI M30 x31 (0 : Int32) x34).bind fun M35 => (gz_gR M35 0 0 (b + 79)).bind fun x36 => (gz_gR M35 0 3 (b + 79)).bind fun x37 => (gz_aR M35 x37 (1 : Int32)).bind fun x38 => (gz_aI M35 x38 (nI m)).bind fun x39 => (gz_tI M35 x36 (1 : Int32) x39).bind fun M40 => (gz_gR M40 0 0 (b + 79)).bind fun x41 => (gz_gR M40 0 3 (b + 79)).bind fun x42 => (gz_aR M40 x42 (2 : Int32)).bind fun x43 => (gz_aI M40 x43 (nI h)).bind fun x44 => (gz_tI M40 x41 (2 : Int32) x44).bind fun M45 => lp_X0_seekIn_82 J fu (b + 79) (nI l) (nI m) fuel (nI (cc + 1)) (nI (h + 1)) M45) = J (nI ((l * sC V 1 + m) * sC V 2 + sC V 2)) N') ∧ pf_f (k_2 b) N N' ∧ k_s N N' b ∧ k_c b V ((l * sC V 1 + m) * sC V 2 + sC V 2) N' := by
        intro hb
        obtain ⟨A, hA⟩ : ∃ A, A = gz_sI (gz_sI N1 (b + 79) 2 (nI (cn_s V cc))) (b + 79) 1 (nI cc) := ⟨_, rfl⟩
        obtain ⟨A1, hA1⟩ : ∃ A1, A1 = gz_sI A (b + 80) 0 (nI (sS V 0 l)) := ⟨_, rfl⟩
        obtain ⟨A2, hA2⟩ : ∃ A2, A2 = gz_sI A1 (b + 80) 1 (nI (sS V 1 m)) := ⟨_, rfl⟩
        obtain ⟨A3, hA3⟩ : ∃ A3, A3 = gz_sI A2 (b + 80) 2 (nI (sS V 2 h)) := ⟨_, rfl⟩
        have LA : iv_L b A := by rw [hA]; exact R1.1.same rfl rfl
        have LA1 : iv_L b A1 := by rw [hA1]; exact LA.same rfl rfl
        have LA2 : iv_L b A2 := by rw [hA2]; exact LA1.same rfl rfl
        have wA : pf_f (k_2 b) N1 A := by rw [hA]; exact (pf_f.one (P := k_2 b) (Or.inl rfl)).two (Or.inl rfl)
        have wA1 : pf_f (k_2 b) N1 A1 := by rw [hA1]; exact wA.two (Or.inr rfl)
        have wA2 : pf_f (k_2 b) N1 A2 := by rw [hA2]; exact wA1.two (Or.inr rfl)
        have wA3 : pf_f (k_2 b) N1 A3 := by rw [hA3]; exact wA2.two (Or.inr rfl)
        have i79 : ∀ j, A3.2.2.1 (b + 79) j = if j = 1 then nI cc else if j = 2 then nI (cn_s V cc) else N1.2.2.1 (b + 79) j := fun j => by
          rw [hA3, pv_I1 (by omega), hA2, pv_I1 (by omega), hA1, pv_I1 (by omega), hA, pu_same, pu_same]
        have sA : k_s N1 A3 b := ⟨by rw [i79, if_neg (by omega), if_neg (by omega)], by rw [i79, if_neg (by omega), if_neg (by omega)]⟩
        have cA : k_c b V (cc + 1) A3 := by
          unfold k_c
          rw [hb]
          refine ⟨by rw [i79, if_pos rfl]; rfl, by rw [i79, if_neg (by omega), if_pos rfl]; rfl, fun i s e => ?_⟩
          cases e
          rw [q1, q2, q3]
          refine ⟨?_, ?_, ?_⟩
          · rw [hA3, pv_I0 (by omega), hA2, pv_I0 (by omega), hA1]; exact pv_I9
          · rw [hA3, pv_I0 (by omega), hA2]; exact pv_I9
          · rw [hA3]; exact pv_I9
        obtain ⟨N', g1, g2, g3, g4⟩ := ih (h + 1) A3 (by omega) (w.trans wA3 (fun _ q => q) (fun _ q => q)) (hs.trans sA) (by rw [enext]; exact cA)
        rw [enext] at g1
        have k1' : (gz_sI N1 (b + 79) 2 (nI (cn_s V cc))).2.1 (b + 79) = (1, 0) := k1
        obtain ⟨kA, rA, -, -, -, -, rA7, -⟩ := lk_r LA
        obtain ⟨kA1, rA1, -, -, -, -, rA17, -⟩ := lk_r LA1
        obtain ⟨kA2, rA2, -, -, -, -, rA27, -⟩ := lk_r LA2
        obtain ⟨m1, m2, m3, -, -⟩ := lk_s LA (m := 0) (by omega)
        obtain ⟨n1, n2, n3, -, -⟩ := lk_s LA1 (m := 1) (by omega)
        obtain ⟨s1, s2, s3, -, -⟩ := lk_s LA2 (m := 2) (by omega)
        have z0 : A.2.2.1 (b + 82 + 0) l = nI (sS V 0 l) := by rw [wA.2.2.2.2 _ (by unfold k_2; omega)]; exact (R1.2.1 0 (by omega)).2 l hl
        have z1 : A1.2.2.1 (b + 82 + 1) m = nI (sS V 1 m) := by rw [wA1.2.2.2.2 _ (by unfold k_2; omega)]; exact (R1.2.1 1 (by omega)).2 m hm
        have z2 : A2.2.2.1 (b + 82 + 2) h = nI (sS V 2 h) := by rw [wA2.2.2.2.2 _ (by unfold k_2; omega)]; exact (R1.2.1 2 (by omega)).2 h hh
        have m2' : gz_aR A (b + 81) (0 : Int32) = some (b + 82 + 0) := m2
        have n2' : gz_aR A1 (b + 81) (1 : Int32) = some (b + 82 + 1) := n2
        have s2' : gz_aR A2 (b + 81) (2 : Int32) = some (b + 82 + 2) := s2
        have t0 : gz_tI A (b + 80) (0 : Int32) (nI (sS V 0 l)) = some A1 := by rw [hA1]; exact pu_tI (i := 0) _ rA7 (by omega) (by decide)
        have t1 : gz_tI A1 (b + 80) (1 : Int32) (nI (sS V 1 m)) = some A2 := by rw [hA2]; exact pu_tI (i := 1) _ rA17 (by omega) (by decide)
        have t2 : gz_tI A2 (b + 80) (2 : Int32) (nI (sS V 2 h)) = some A3 := by rw [hA3]; exact pu_tI (i := 2) _ rA27 (by omega) (by decide)
        refine ⟨N', fun J fuel hf => ?_, g2, g3, g4⟩
        rw [pu_pI (ci := 0) 2 _ k1, Option.bind_some, pu_pI (ci := 0) 1 _ k1', Option.bind_some, ← hA, rA, Option.bind_some, m1, Option.bind_some, m2', Option.bind_some, pu_aI m3 (show l < 12 by omega) (by decide), z0, Option.bind_some, t0, Option.bind_some, rA1, Option.bind_some, n1, Option.bind_some, n2', Option.bind_some, pu_aI n3 (show m < 12 by omega) (by decide), z1, Option.bind_some, t1, Option.bind_some, rA2, Option.bind_some, s1, Option.bind_some, s2', Option.bind_some, pu_aI s3 (show h < 12 by omega) (by decide), z2, Option.bind_some, t2, Option.bind_some]
        exact g1 J fuel (by omega)
      have pre : ∀ (J : Int32 → gz_M → Option gz_M) (g : Nat), lp_X0_seekIn_82 J fu (b + 79) (nI l) (nI m) (g + 1) (nI cc) (nI h) N1 = if pc_n (cn_b V cc) ≤ nI (cn_s V cc) then lp_X0_seekIn_82 J fu (b + 79) (nI l) (nI m) g (nI (cc + 1)) (nI (h + 1)) N1 else ((gz_pI N1 0 2 (b + 79) (nI (cn_s V cc))).bind fun M29 => (gz_pI M29 0 1 (b + 79) (nI cc)).bind fun M30 => (gz_gR M30 0 0 (b + 79)).bind fun x31 => (gz_gR M30 0 3 (b + 79)).bind fun x32 => (gz_aR M30 x32 (0 : Int32)).bind fun x33 => (gz_aI M30 x33 (nI l)).bind fun x34 => (gz_tI M30 x31 (0 : Int32) x34).bind fun M35 => (gz_gR M35 0 0 (b + 79)).bind fun x36 => (gz_gR M35 0 3 (b + 79)).bind fun x37 => (gz_aR M35 x37 (1 : Int32)).bind fun x38 => (gz_aI M35 x38 (nI m)).bind fun x39 => (gz_tI M35 x36 (1 : Int32) x39).bind fun M40 => (gz_gR M40 0 0 (b + 79)).bind fun x41 => (gz_gR M40 0 3 (b + 79)).bind fun x42 => (gz_aR M40 x42 (2 : Int32)).bind fun x43 => (gz_aI M40 x43 (nI h)).bind fun x44 => (gz_tI M40 x41 (2 : Int32) x44).bind fun M45 => lp_X0_seekIn_82 J fu (b + 79) (nI l) (nI m) g (nI (cc + 1)) (nI (h + 1)) M45) := by
        intro J g
        rw [lp_X0_seekIn_82, l4, Option.bind_some, a2, Option.bind_some, if_neg (pn_nle hh (by omega)), sw, Option.bind_some, pu_gI (ci := 0) 2 k1, p2, Option.bind_some]
        simp only [gz_jn, pn_1]
      cases e1 : cn_b V cc with
      | none =>
        have hb : cn_b V (cc + 1) = some (cc, cn_s V cc) := by unfold cn_b; rw [e1, sa_0]
        obtain ⟨N', g1, g2, g3, g4⟩ := upd hb
        refine ⟨N', fun J fuel hf => ?_, g2, g3, g4⟩
        obtain ⟨g, rfl⟩ : ∃ g, fuel = g + 1 := ⟨fuel - 1, by omega⟩
        rw [pre, e1, if_neg (show ¬ pc_n none ≤ nI (cn_s V cc) from Int32.not_le.mpr (pn_mx (n := cn_s V cc) (by omega)).2)]
        exact g1 J g (by omega)
      | some p =>
        obtain ⟨i', s'⟩ := p
        have hok := cn_b_ok V cc i' s' e1
        have hs' : s' ≤ 962280 := by rw [hok.2]; exact cn_s_le hV i'
        by_cases c : cn_s V cc < s'
        · have hb : cn_b V (cc + 1) = some (cc, cn_s V cc) := by unfold cn_b; rw [e1, sa_1, if_pos c]
          obtain ⟨N', g1, g2, g3, g4⟩ := upd hb
          refine ⟨N', fun J fuel hf => ?_, g2, g3, g4⟩
          obtain ⟨g, rfl⟩ : ∃ g, fuel = g + 1 := ⟨fuel - 1, by omega⟩
          rw [pre, e1, pc_n1, if_neg (nI_ge c (by omega))]
          exact g1 J g (by omega)
        · have hb : cn_b V (cc + 1) = cn_b V cc := by
            rw [show cn_b V (cc + 1) = sp_add (cn_b V cc) cc (some (cn_s V cc)) from rfl, e1, sa_1, if_neg c]
          obtain ⟨N', g1, g2, g3, g4⟩ := ih (h + 1) N1 (by omega) w hs (by rw [enext]; unfold k_c; rw [hb]; exact ⟨p1, p2, p3'⟩)
          rw [enext] at g1
          refine ⟨N', fun J fuel hf => ?_, g2, g3, g4⟩
          obtain ⟨g, rfl⟩ : ∃ g, fuel = g + 1 := ⟨fuel - 1, by omega⟩
          rw [pre, e1, pc_n1, if_pos (nI_le (by omega) (by omega))]
          exact g1 J g (by omega)
  obtain ⟨N', g1, g2, g3, g4⟩ := key (sC V 2) 0 N (by omega) pf_f.refl ⟨rfl, rfl⟩ hc
  exact ⟨N', fun J => g1 J fu (by omega), g2, g3, g4⟩
def k_3 (b c : Nat) : Prop := c = b + 79 ∨ c = b + 80 ∨ c = b + 92
def uA (V : pv_V) (l f : Nat) : Option Nat := oadd (some 0) (shr V 0 l f)
theorem uA_le (hV : pv_ok V) {l f x : Nat} (h : uA V l f = some x) : x ≤ 1000 := by
  unfold uA at h
  cases e0 : shr V 0 l f with
  | none => rw [e0] at h; cases h
  | some y =>
    rw [e0] at h
    have h1 := shr_le hV (by omega) e0
    have h' : some (0 + y) = some x := h
    cases h'
    omega
theorem vc_53 (hfu : 5000 ≤ fu) (hV : pv_ok V) {N : gz_M} (hR : k_R b V N) {l : Nat} (hl : l < sC V 0) (hA : ∀ f, f < pv_nf V → N.2.2.1 (b + 91) f = pcN (uA V l f)) (hc : k_c b V (l * sC V 1 * sC V 2) N) : ∃ N', (∀ J, lp_X0_seekIn_53 J fu (b + 79) (nI l) fu (nI (l * sC V 1 * sC V 2)) (0 : Int32) N = J (nI ((l + 1) * sC V 1 * sC V 2)) N') ∧ pf_f (k_3 b) N N' ∧ k_s N N' b ∧ k_c b V ((l + 1) * sC V 1 * sC V 2) N' := by
  have c1 := sC_le hV 1
  have key : ∀ d m (N1 : gz_M), m + d = sC V 1 → pf_f (k_3 b) N N1 → k_s N N1 b → k_c b V ((l * sC V 1 + m) * sC V 2) N1 → ∃ N', (∀ J fuel, d < fuel → lp_X0_seekIn_53 J fu (b + 79) (nI l) fuel (nI ((l * sC V 1 + m) * sC V 2)) (nI m) N1 = J (nI ((l * sC V 1 + sC V 1) * sC V 2)) N') ∧ pf_f (k_3 b) N N' ∧ k_s N N' b ∧ k_c b V ((l * sC V 1 + sC V 1) * sC V 2) N' := by
    intro d
    induction d with
    | zero =>
      intro m N1 e w hs hc1
      have em : m = sC V 1 := by omega
      have R1 : k_R b V N1 := hR.fr (w.trans pf_f.refl (fun c q => by unfold k_3 at q; unfold k_P; omega) (fun _ (q : False) => q.elim)) hs.1 hs.2
      obtain ⟨l1, l2, l3, l4, l5⟩ := lk_s R1.1 (m := 1) (by omega)
      have a2 : gz_aI N1 (b + 89) (1 : Int32) = some (nI (sC V 1)) := (pu_aI (i := 1) l5 (by omega) (by decide)).trans (by rw [(R1.2.1 1 (by omega)).1])
      rw [em] at hc1
      refine ⟨N1, fun J fuel hf => ?_, w, hs, hc1⟩
      obtain ⟨g, rfl⟩ : ∃ g, fuel = g + 1 := ⟨fuel - 1, by omega⟩
      rw [lp_X0_seekIn_53, l4, Option.bind_some, a2, Option.bind_some, if_pos (pn_le (by omega) (by omega)), em]
    | succ d ih =>
      intro m N1 e w hs hc1
      have hm : m < sC V 1 := by omega
      have R1 : k_R b V N1 := hR.fr (w.trans pf_f.refl (fun c q => by unfold k_3 at q; unfold k_P; omega) (fun _ (q : False) => q.elim)) hs.1 hs.2
      obtain ⟨l1, l2, l3, l4, l5⟩ := lk_s R1.1 (m := 1) (by omega)
      have a2 : gz_aI N1 (b + 89) (1 : Int32) = some (nI (sC V 1)) := (pu_aI (i := 1) l5 (by omega) (by decide)).trans (by rw [(R1.2.1 1 (by omega)).1])
      obtain ⟨k1, r2, r3, r4, r5, r6, r7, r8, r9, r10, r11⟩ := lk_r R1.1
      obtain ⟨N2, s1, s2, s3⟩ := vc_as hfu hV R1 (m := 1) (i := m) (rb := b + 91) (ra := b + 92) (by omega) hm (uA V l) (fun f x hf hx => uA_le hV hx) r9 r10 (by omega) (fun f hf => by rw [w.2.2.2.2 _ (by unfold k_3; omega)]; exact hA f hf) (by omega)
      have s1' : f_X0_addShares fu N1 (b + 79) (1 : Int32) (nI m) (b + 91) (b + 92) = some N2 := s1
      have ss : k_s N1 N2 b := ⟨by rw [s2.2.2.2.2 _ (by omega)], by rw [s2.2.2.2.2 _ (by omega)]⟩
      have R2 : k_R b V N2 := R1.fr (s2.trans pf_f.refl (fun c q => by unfold k_P; omega) (fun _ (q : False) => q.elim)) ss.1 ss.2
      have hc2 : k_c b V ((l * sC V 1 + m) * sC V 2) N2 := by
        unfold k_c
        rw [s2.2.2.2.2 (b + 79) (by omega), s2.2.2.2.2 (b + 80) (by omega)]
        exact hc1
      obtain ⟨N3, t1, t2, t3, t4⟩ := vc_82 hfu hV R2 hl hm s3 hc2
      have en : (l * sC V 1 + m) * sC V 2 + sC V 2 = (l * sC V 1 + (m + 1)) * sC V 2 := by rw [← Nat.add_assoc, Nat.succ_mul]
      rw [en] at t1 t4
      have w3 : pf_f (k_3 b) N N3 := (w.trans s2 (S := k_3 b) (fun _ q => q) (fun c q => Or.inr (Or.inr q))).trans t2 (fun _ q => q) (fun c q => by unfold k_2 at q; unfold k_3; omega)
      obtain ⟨N', g1, g2, g3, g4⟩ := ih (m + 1) N3 (by omega) w3 ((hs.trans ss).trans t3) t4
      refine ⟨N', fun J fuel hf => ?_, g2, g3, g4⟩
      obtain ⟨g, rfl⟩ : ∃ g, fuel = g + 1 := ⟨fuel - 1, by omega⟩
      rw [lp_X0_seekIn_53, l4, Option.bind_some, a2, Option.bind_some, if_neg (pn_nle hm (by omega)), r4, Option.bind_some, r5, Option.bind_some, s1', Option.bind_some, t1, pn_1]
      exact g1 J g (by omega)
  obtain ⟨N', g1, g2, g3, g4⟩ := key (sC V 1) 0 N (by omega) pf_f.refl ⟨rfl, rfl⟩ hc
  have en : (l * sC V 1 + sC V 1) * sC V 2 = (l + 1) * sC V 1 * sC V 2 := by rw [Nat.succ_mul]
  rw [en] at g1 g4
  exact ⟨N', fun J => g1 J fu (by omega), g2, g3, g4⟩
theorem vc_26 (hfu : 5000 ≤ fu) (hV : pv_ok V) {N : gz_M} (hR : k_R b V N) (hc : k_c b V 0 N) : ∃ N', lp_X0_seekIn_26 (fun M51 => some M51) fu (b + 79) fu (0 : Int32) (0 : Int32) N = some N' ∧ pf_f (k_P b) N N' ∧ k_R b V N' ∧ k_c b V (sC V 0 * sC V 1 * sC V 2) N' := by
  have c0 := sC_le hV 0
  have o1 := hV.1
  have key : ∀ d l (N1 : gz_M), l + d = sC V 0 → pf_f (k_P b) N N1 → k_s N N1 b → k_c b V (l * sC V 1 * sC V 2) N1 → ∃ N', (∀ fuel, d < fuel → lp_X0_seekIn_26 (fun M51 => some M51) fu (b + 79) fuel (nI (l * sC V 1 * sC V 2)) (nI l) N1 = some N') ∧ pf_f (k_P b) N N' ∧ k_s N N' b ∧ k_c b V (sC V 0 * sC V 1 * sC V 2) N' := by
    intro d
    induction d with
    | zero =>
      intro l N1 e w hs hc1
      have el : l = sC V 0 := by omega
      have R1 : k_R b V N1 := hR.fr w hs.1 hs.2
      obtain ⟨l1, l2, l3, l4, l5⟩ := lk_s R1.1 (m := 0) (by omega)
      have a2 : gz_aI N1 (b + 89) (0 : Int32) = some (nI (sC V 0)) := (pu_aI (i := 0) l5 (by omega) (by decide)).trans (by rw [(R1.2.1 0 (by omega)).1])
      rw [el] at hc1
      refine ⟨N1, fun fuel hf => ?_, w, hs, hc1⟩
      obtain ⟨g, rfl⟩ : ∃ g, fuel = g + 1 := ⟨fuel - 1, by omega⟩
      rw [lp_X0_seekIn_26, l4, Option.bind_some, a2, Option.bind_some, if_pos (pn_le (by omega) (by omega))]
    | succ d ih =>
      intro l N1 e w hs hc1
      have hl : l < sC V 0 := by omega
      have R1 : k_R b V N1 := hR.fr w hs.1 hs.2
      obtain ⟨l1, l2, l3, l4, l5⟩ := lk_s R1.1 (m := 0) (by omega)
      have a2 : gz_aI N1 (b + 89) (0 : Int32) = some (nI (sC V 0)) := (pu_aI (i := 0) l5 (by omega) (by decide)).trans (by rw [(R1.2.1 0 (by omega)).1])
      obtain ⟨k1, r2, r3, r4, r5, r6, r7, r8, r9, r10, r11⟩ := lk_r R1.1
      obtain ⟨N2, s1, s2, s3⟩ := vc_as hfu hV R1 (m := 0) (i := l) (rb := b + 90) (ra := b + 91) (by omega) hl (fun _ => some 0) (fun f x hf hx => by cases hx; omega) r8 r9 (by omega) (fun f hf => R1.2.2.2.2.2.2 f (by omega)) (by omega)
      have s1' : f_X0_addShares fu N1 (b + 79) (0 : Int32) (nI l) (b + 90) (b + 91) = some N2 := s1
      have ss : k_s N1 N2 b := ⟨by rw [s2.2.2.2.2 _ (by omega)], by rw [s2.2.2.2.2 _ (by omega)]⟩
      have R2 : k_R b V N2 := R1.fr (s2.trans pf_f.refl (fun c q => by unfold k_P; omega) (fun _ (q : False) => q.elim)) ss.1 ss.2
      have hc2 : k_c b V (l * sC V 1 * sC V 2) N2 := by
        unfold k_c
        rw [s2.2.2.2.2 (b + 79) (by omega), s2.2.2.2.2 (b + 80) (by omega)]
        exact hc1
      obtain ⟨N3, t1, t2, t3, t4⟩ := vc_53 hfu hV R2 hl s3 hc2
      have w3 : pf_f (k_P b) N N3 := (w.trans s2 (S := k_P b) (fun _ q => q) (fun c q => by unfold k_P; omega)).trans t2 (fun _ q => q) (fun c q => by unfold k_3 at q; unfold k_P; omega)
      obtain ⟨N', g1, g2, g3, g4⟩ := ih (l + 1) N3 (by omega) w3 ((hs.trans ss).trans t3) t4
      refine ⟨N', fun fuel hf => ?_, g2, g3, g4⟩
      obtain ⟨g, rfl⟩ : ∃ g, fuel = g + 1 := ⟨fuel - 1, by omega⟩
      rw [lp_X0_seekIn_26, l4, Option.bind_some, a2, Option.bind_some, if_neg (pn_nle hl (by omega)), r3, Option.bind_some, r4, Option.bind_some, s1', Option.bind_some, t1, pn_1]
      exact g1 g (by omega)
  have z : 0 * sC V 1 * sC V 2 = 0 := by rw [Nat.zero_mul, Nat.zero_mul]
  obtain ⟨N', g1, g2, g3, g4⟩ := key (sC V 0) 0 N (by omega) pf_f.refl ⟨rfl, rfl⟩ (by rw [z]; exact hc)
  rw [z] at g1
  exact ⟨N', g1 fu (by omega), g2, hR.fr g2 g3.1 g3.2, g4⟩
theorem vc_sk (hfu : 5000 ≤ fu) {a : Nat} {M : gz_M} (hL : iv_L b M) (hv : vy_c a V M) (ha : a + 5 ≤ b + 61) (h0 : ∀ f, f < 12 → M.2.2.1 (b + 90) f = 0) : ∃ M', f_X0_seekIn fu M (b + 79) a = some M' ∧ pf_f (fun c => b + 79 ≤ c ∧ c < b + 94 ∧ c ≠ b + 90) M M' ∧ k_R b V M' ∧ k_c b V (sC V 0 * sC V 1 * sC V 2) M' := by
  have hV := vc_ok hv
  obtain ⟨M1, a1, w1, a3⟩ := vc_ci hfu hL hv ha
  have L1 := hL.same w1.2.1 w1.2.2.2.1
  have v1 : vy_c a V M1 := hv.fr w1 (fun c q1 q2 e => by unfold k_S at e; omega)
  obtain ⟨M2, b1, w2, R2⟩ := vc_rf hfu L1 v1 ha a3 (fun f hf => by rw [w1.2.2.2.2 _ (by unfold k_S; omega)]; exact h0 f hf)
  obtain ⟨k1, -⟩ := lk_r R2.1
  have k1' : (gz_sI M2 (b + 79) 1 (-1)).2.1 (b + 79) = (1, 0) := k1
  have w4 : pf_f (k_P b) M2 (gz_sI (gz_sI M2 (b + 79) 1 (-1)) (b + 79) 2 2147483647) := (pf_f.one (P := k_P b) (Or.inl rfl)).two (Or.inl rfl)
  have R4 : k_R b V (gz_sI (gz_sI M2 (b + 79) 1 (-1)) (b + 79) 2 2147483647) := R2.fr w4 ((pv_I0 (by omega)).trans (pv_I0 (by omega))) ((pv_I0 (by omega)).trans (pv_I0 (by omega)))
  have C4 : k_c b V 0 (gz_sI (gz_sI M2 (b + 79) 1 (-1)) (b + 79) 2 2147483647) := ⟨(pv_I0 (by omega)).trans pv_I9, pv_I9, fun i s e => by cases e⟩
  obtain ⟨M5, c1, w5, R5, C5⟩ := vc_26 hfu hV R4 C4
  refine ⟨M5, ?_, ((w1.trans w2 (S := fun c => b + 79 ≤ c ∧ c < b + 94 ∧ c ≠ b + 90) (fun c q => by unfold k_S at q; omega) (fun c q => by unfold k_Q k_h at q; omega)).trans w4 (S := fun c => b + 79 ≤ c ∧ c < b + 94 ∧ c ≠ b + 90) (fun _ q => q) (fun c q => by unfold k_P at q; omega)).trans w5 (fun _ q => q) (fun c q => by unfold k_P at q; omega), R5, C5⟩
  have k0 : M.2.1 (b + 79) = (1, 0) := hL.1 79 _ rfl
  unfold f_X0_seekIn
  rw [pu_gd (ci := 0) k0, a1, pu_b2, b1, Option.bind_some, pu_pI (ci := 0) 1 _ k1, Option.bind_some, pu_pI (ci := 0) 2 _ k1', Option.bind_some, c1]
end SK2
