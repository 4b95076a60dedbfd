/-! corner: the reference, and both -/
theorem sC_pos {V : pv_V} (hV : pv_ok V) (hn : 0 < pv_nf V) {m : Nat} (hm : m < 3) : 0 < sC V m := by
  have h30 := (hV.2.2.2.2.2.1 0 hn).1 m hm
  have ht : sz_h V m (pv_F V (5 * 0 + m)) (pv_nf V) = true := (sz_h_iff V m _ _).mpr ⟨0, hn, rfl⟩
  have e1 : sz_c V m (pv_nf V) (pv_F V (5 * 0 + m) + 1) = sz_c V m (pv_nf V) (pv_F V (5 * 0 + m)) + 1 := by rw [sz_c_s, ht]; rfl
  have mono := sz_c_mono V m (pv_nf V) (pv_F V (5 * 0 + m) + 1) (30 - pv_F V (5 * 0 + m))
  rw [show pv_F V (5 * 0 + m) + 1 + (30 - pv_F V (5 * 0 + m)) = 31 by omega] at mono
  show 0 < sz_c V m (pv_nf V) 31
  omega
theorem ly_k3 : ∀ m, m < 3 → (39, m, 40 + m) ∈ iv_RM ∧ iv_KM[40 + m]? = some (20, 12) := by decide +kernel
theorem lm_c {b m : Nat} {M : gz_M} (h : iv_O (b + 110) M) (hm : m < 3) : gz_gR M 10 29 (b + 110) = some (b + 149) ∧ gz_aR M (b + 149) (nI m) = some (b + 150 + m) ∧ M.2.1 (b + 150 + m) = (20, 12) := by
  obtain ⟨q1, q2⟩ := ly_k3 m hm
  have e1 := h.2 _ _ _ q1
  have e2 := h.1 _ _ q2
  have q : b + 110 + (40 + m) = b + 150 + m := by omega
  rw [q] at e1 e2
  exact ⟨lm_R h 29 39 (by decide), pu_aR (h.1 39 _ rfl) (by decide) hm (by decide) e1, e2⟩
theorem pu_d {α : Type} {n : Nat} (h0 : 0 < n) (h : n < 2 ^ 31) {o : Option α} : gz_d (nI n) o = o := if_neg (nI_ne0 h0 h)
def m_z (b : Nat) (V : pv_V) (N : gz_M) : Prop := ∀ m i, m < 3 → i < sC V m → N.2.2.1 (b + 150 + m) i = nI (sS V m i)
section CM
variable {fu b k : Nat} {V : pv_V} {N : gz_M}
theorem vm_103 (hfu : 5000 ≤ fu) (hn : 0 < pv_nf V) (hO : iv_O (b + 110) N) (hv : vy_m (b + 110) k V N) (hz : m_z b V N) {c : Nat} (hc : c < sC V 0 * sC V 1 * sC V 2) (J : Int32 → Option (Int32 × gz_M)) : lp_X10_corner_103 J fu N (b + 110) (nI k) (nI (sC V 1)) (nI (sC V 2)) (nI c) fu (0 : Int32) (0 : Int32) = J (nI (cn_s V c)) := by
  have hV := vm_ok hv
  have o1 := hV.1
  have c0 := sC_le hV 0
  have c1 := sC_le hV 1
  have c2 := sC_le hV 2
  have p1 := sC_pos hV hn (m := 1) (by omega)
  have p2 := sC_pos hV hn (m := 2) (by omega)
  have hle : sC V 0 * sC V 1 * sC V 2 ≤ 12 * 12 * 12 := Nat.mul_le_mul (Nat.mul_le_mul c0 c1) c2
  have i2 : c % sC V 2 < sC V 2 := Nat.mod_lt _ p2
  have i1 : c / sC V 2 % sC V 1 < sC V 1 := Nat.mod_lt _ p1
  have i0 : c / sC V 2 / sC V 1 < sC V 0 := by
    rw [Nat.div_lt_iff_lt_mul p1, Nat.div_lt_iff_lt_mul p2]
    exact hc
  have hcb : c / sC V 2 ≤ c := Nat.div_le_self _ _
  obtain ⟨a1, a2, a3⟩ := lm_c hO (m := 0) (by omega)
  obtain ⟨-, b2, b3⟩ := lm_c hO (m := 1) (by omega)
  obtain ⟨-, d2, d3⟩ := lm_c hO (m := 2) (by omega)
  have a2' : gz_aR N (b + 149) (0 : Int32) = some (b + 150 + 0) := a2
  have b2' : gz_aR N (b + 149) (1 : Int32) = some (b + 150 + 1) := b2
  have d2' : gz_aR N (b + 149) (2 : Int32) = some (b + 150 + 2) := d2
  have s0 := sS_le i0
  have s1 := sS_le i1
  have s2 := sS_le i2
  refine pl_fn (fun fuel f s => lp_X10_corner_103 J fu N (b + 110) (nI k) (nI (sC V 1)) (nI (sC V 2)) (nI c) fuel s f) J (fun f => nI (fb_sm (fun f => pv_F V (5 * f + 3) * oo V (sp_bb V (sS V 0 (c / sC V 2 / sC V 1)) (sS V 1 (c / sC V 2 % sC V 1)) (sS V 2 (c % sC V 2)) (pv_F V (5 * f)) (pv_F V (5 * f + 1)) (pv_F V (5 * f + 2)) (pv_F V (5 * f + 4)))) f)) (pv_nf V) ?_ ?_ (fuel := fu) (by omega)
  · intro fuel f hf
    obtain ⟨f1, f2, f3, f4⟩ := hV.2.2.2.2.2.1 f hf
    have n0 : pv_F V (5 * f) ≤ 30 := f1 0 (by omega)
    have n1 := f1 1 (by omega)
    have n2 := f1 2 (by omega)
    have g0 : f_X10_of fu N (b + 110) (nI k) (nI f) (0 : Int32) = some (nI (pv_F V (5 * f))) := vm_fp fu hv hf (m := 0) (by omega)
    have g1 : f_X10_of fu N (b + 110) (nI k) (nI f) (1 : Int32) = some (nI (pv_F V (5 * f + 1))) := vm_fp fu hv hf (m := 1) (by omega)
    have g2 : f_X10_of fu N (b + 110) (nI k) (nI f) (2 : Int32) = some (nI (pv_F V (5 * f + 2))) := vm_fp fu hv hf (m := 2) (by omega)
    have g3 : f_X10_of fu N (b + 110) (nI k) (nI f) (3 : Int32) = some (nI (pv_F V (5 * f + 3))) := vm_fp fu hv hf (m := 3) (by omega)
    have g4 : f_X10_of fu N (b + 110) (nI k) (nI f) (4 : Int32) = some (nI (pv_F V (5 * f + 4))) := vm_fp fu hv hf (m := 4) (by omega)
    try dsimp only
    rw [lp_X10_corner_103, vm_nf fu hv, Option.bind_some, if_neg (pn_nle hf (by omega)), a1, Option.bind_some, a2', Option.bind_some, pu_d p2 (by omega), pu_d p1 (by omega), pk_div (show c < 2 ^ 31 by omega) p2 (by omega), pk_div (show c / sC V 2 < 2 ^ 31 by omega) p1 (by omega), pu_aI a3 (show c / sC V 2 / sC V 1 < 12 by omega) (by decide), hz 0 _ (by omega) i0, Option.bind_some, Option.bind_some, b2', Option.bind_some, pu_d p2 (by omega), pu_d p1 (by omega)]
    rw [show nI (c / sC V 2) - nI (c / sC V 2 / sC V 1) * nI (sC V 1) = nI (c / sC V 2 % sC V 1) by rw [← pk_div (show c / sC V 2 < 2 ^ 31 by omega) p1 (by omega)]; exact pk_rem (by omega) p1 (by omega)]
    rw [pu_aI b3 (show c / sC V 2 % sC V 1 < 12 by omega) (by decide), hz 1 _ (by omega) i1, Option.bind_some, Option.bind_some, d2', Option.bind_some, pu_d p2 (by omega)]
    rw [show nI c - nI (c / sC V 2) * nI (sC V 2) = nI (c % sC V 2) by rw [← pk_div (show c < 2 ^ 31 by omega) p2 (by omega)]; exact pk_rem (by omega) p2 (by omega)]
    rw [pu_aI d3 (show c % sC V 2 < 12 by omega) (by decide), hz 2 _ (by omega) i2, Option.bind_some, g0, Option.bind_some, g1, Option.bind_some, g2, Option.bind_some, g4, Option.bind_some, vm_by hfu hv (by omega) (by omega) (by omega) (by omega) (by omega) (by omega) (by omega), Option.bind_some, g3, Option.bind_some]
    simp only [gz_jn, vm_r12 hv, vm_v hv, vm_out hv, Option.bind_some, pn_1]
    rw [fb_sm_succ, ← nI_add (fb_sm (fun f => pv_F V (5 * f + 3) * oo V (sp_bb V (sS V 0 (c / sC V 2 / sC V 1)) (sS V 1 (c / sC V 2 % sC V 1)) (sS V 2 (c % sC V 2)) (pv_F V (5 * f)) (pv_F V (5 * f + 1)) (pv_F V (5 * f + 2)) (pv_F V (5 * f + 4)))) f), ← pk_mul]
    cases q : sp_bb V (sS V 0 (c / sC V 2 / sC V 1)) (sS V 1 (c / sC V 2 % sC V 1)) (sS V 2 (c % sC V 2)) (pv_F V (5 * f)) (pv_F V (5 * f + 1)) (pv_F V (5 * f + 2)) (pv_F V (5 * f + 4)) with
    | none => rw [if_pos pc_none]; rfl
    | some v =>
      have := sp_bb_le hV q
      rw [pc_some, if_neg (pn_neg (n := v) (by omega))]
      rfl
  · intro fuel
    try dsimp only
    rw [lp_X10_corner_103, vm_nf fu hv, Option.bind_some, if_pos (pn_le (Nat.le_refl _) (by omega))]
theorem vm_90 (hfu : 5000 ≤ fu) (hn : 0 < pv_nf V) (hO : iv_O (b + 110) N) (hv : vy_m (b + 110) k V N) (hz : m_z b V N) (J : Int32 → Int32 → Option (Int32 × gz_M)) : lp_X10_corner_90 J fu N (b + 110) (nI k) (nI (sC V 1)) (nI (sC V 2)) (nI (sC V 0)) fu (-1 : Int32) (0 : Int32) (0 : Int32) = J (pc_i (cn_b V (sC V 0 * sC V 1 * sC V 2))) (pc_z (cn_b V (sC V 0 * sC V 1 * sC V 2))) := by
  have hV := vm_ok hv
  have c0 := sC_le hV 0
  have c1 := sC_le hV 1
  have c2 := sC_le hV 2
  have hle : sC V 0 * sC V 1 * sC V 2 ≤ 12 * 12 * 12 := Nat.mul_le_mul (Nat.mul_le_mul c0 c1) c2
  refine pl_fn (fun fuel i s => lp_X10_corner_90 J fu N (b + 110) (nI k) (nI (sC V 1)) (nI (sC V 2)) (nI (sC V 0)) fuel s.1 s.2 i) (fun s => J s.1 s.2) (fun c => (pc_i (cn_b V c), pc_z (cn_b V c))) (sC V 0 * sC V 1 * sC V 2) ?_ ?_ (fuel := fu) (by omega)
  · intro fuel c hc
    have hS := cn_s_le hV c
    try dsimp only
    rw [lp_X10_corner_90, pk_mul, pk_mul, if_neg (pn_nle hc (by omega)), vm_103 hfu hn hO hv hz hc]
    simp only [gz_jn, pn_1]
    rw [show cn_b V (c + 1) = sp_add (cn_b V c) c (some (cn_s V c)) from rfl]
    cases e : cn_b V c with
    | none => rw [if_pos pc_i0, sa_0]; rfl
    | some p =>
      obtain ⟨i', s'⟩ := p
      have hok := cn_b_ok V c i' s' e
      have hs' : s' ≤ 962280 := by rw [hok.2]; exact cn_s_le hV i'
      rw [pc_i1, pc_z1, if_neg (pn_neg (n := i') (by omega)), sa_1]
      by_cases q : cn_s V c < s'
      · rw [if_neg (nI_ge q (by omega)), if_pos q]; rfl
      · rw [if_pos (nI_le (by omega) (by omega)), if_neg q]; rfl
  · intro fuel
    try dsimp only
    rw [lp_X10_corner_90, pk_mul, pk_mul, if_pos (pn_le (Nat.le_refl _) (by omega))]
end CM
theorem vm_co {fu b k : Nat} {V : pv_V} {M : gz_M} (hfu : 5000 ≤ fu) (hn : 0 < pv_nf V) (hO : iv_O (b + 110) M) (hv : vy_m (b + 110) k V M) {i s w : Nat} (hb : cn_b V (sC V 0 * sC V 1 * sC V 2) = some (i, s)) (hw : w ≤ 4) (hin : f_X10_isValley fu M (b + 110) (nI k) = some 1) : ∃ N, f_X10_corner fu M (b + 110) (nI k) (nI w) = some (if w = 0 then nI i else if w = 1 then nI s else if w = 2 then nI (sS V 0 (i / sC V 2 / sC V 1)) else if w = 3 then nI (sS V 1 (i / sC V 2 % sC V 1)) else nI (sS V 2 (i % sC V 2)), N) ∧ pf_f (fun c => b + 150 ≤ c ∧ c < b + 153) M N := by
  have hV := vm_ok hv
  have o1 := hV.1
  have c0 := sC_le hV 0
  have c1 := sC_le hV 1
  have c2 := sC_le hV 2
  have p1 := sC_pos hV hn (m := 1) (by omega)
  have p2 := sC_pos hV hn (m := 2) (by omega)
  have hle : sC V 0 * sC V 1 * sC V 2 ≤ 12 * 12 * 12 := Nat.mul_le_mul (Nat.mul_le_mul c0 c1) c2
  have hok := cn_b_ok V _ i s hb
  have hi := hok.1
  have i2 : i % sC V 2 < sC V 2 := Nat.mod_lt _ p2
  have i1 : i / sC V 2 % sC V 1 < sC V 1 := Nat.mod_lt _ p1
  have i0 : i / sC V 2 / sC V 1 < sC V 0 := by
    rw [Nat.div_lt_iff_lt_mul p1, Nat.div_lt_iff_lt_mul p2]
    exact hi
  have hcb : i / sC V 2 ≤ i := Nat.div_le_self _ _
  obtain ⟨x1, x2, x3⟩ := lm_c hO (m := 1) (by omega)
  have x2' : gz_aR M (b + 149) (1 : Int32) = some (b + 150 + 1) := x2
  obtain ⟨M7, a1, a2, a3⟩ := vm_ms hfu hv (m := 1) (r := b + 150 + 1) (by omega) x3 (by omega)
  have a1' : f_X10_measures fu M (b + 110) (nI k) (1 : Int32) (b + 150 + 1) = some (nI (sC V 1), M7) := a1
  have O7 := hO.same a2.2.1 a2.2.2.2.1
  have v7 : vy_m (b + 110) k V M7 := hv.fr a2 (fun c q1 q2 e => by omega)
  obtain ⟨y1, y2, y3⟩ := lm_c O7 (m := 2) (by omega)
  have y2' : gz_aR M7 (b + 149) (2 : Int32) = some (b + 150 + 2) := y2
  obtain ⟨M11, b1, b2, b3⟩ := vm_ms hfu v7 (m := 2) (r := b + 150 + 2) (by omega) y3 (by omega)
  have b1' : f_X10_measures fu M7 (b + 110) (nI k) (2 : Int32) (b + 150 + 2) = some (nI (sC V 2), M11) := b1
  have O11 := O7.same b2.2.1 b2.2.2.2.1
  have v11 : vy_m (b + 110) k V M11 := v7.fr b2 (fun c q1 q2 e => by omega)
  obtain ⟨z1, z2, z3⟩ := lm_c O11 (m := 0) (by omega)
  have z2' : gz_aR M11 (b + 149) (0 : Int32) = some (b + 150 + 0) := z2
  obtain ⟨N, d1, d2, d3⟩ := vm_ms hfu v11 (m := 0) (r := b + 150 + 0) (by omega) z3 (by omega)
  have d1' : f_X10_measures fu M11 (b + 110) (nI k) (0 : Int32) (b + 150 + 0) = some (nI (sC V 0), N) := d1
  have ON := O11.same d2.2.1 d2.2.2.2.1
  have vN : vy_m (b + 110) k V N := v11.fr d2 (fun c q1 q2 e => by omega)
  have hz : m_z b V N := fun m j hm hj => by
    have : m = 0 ∨ m = 1 ∨ m = 2 := by omega
    rcases this with rfl | rfl | rfl
    · exact d3 j hj
    · rw [d2.2.2.2.2 _ (by omega), b2.2.2.2.2 _ (by omega)]; exact a3 j hj
    · rw [d2.2.2.2.2 _ (by omega)]; exact b3 j hj
  have run : f_X10_corner fu M (b + 110) (nI k) (nI w) = (fun (x44 : Int32) (x45 : Int32) => if nI w = (0 : Int32) then some (x44, N) else if nI w = (1 : Int32) then some (x45, N) else if nI w = (2 : Int32) then (gz_gR N 10 29 (b + 110)).bind fun x52 => (gz_aR N x52 (0 : Int32)).bind fun x53 => gz_d (nI (sC V 2)) <| gz_d (nI (sC V 1)) <| (gz_aI N x53 ((x44 / (nI (sC V 2))) / (nI (sC V 1)))).bind fun x54 => some (x54, N) else if nI w = (3 : Int32) then (gz_gR N 10 29 (b + 110)).bind fun x49 => (gz_aR N x49 (1 : Int32)).bind fun x50 => gz_d (nI (sC V 2)) <| gz_d (nI (sC V 1)) <| (gz_aI N x50 ((x44 / (nI (sC V 2))) - (x44 / (nI (sC V 2))) / (nI (sC V 1)) * (nI (sC V 1)))).bind fun x51 => some (x51, N) else (gz_gR N 10 29 (b + 110)).bind fun x46 => (gz_aR N x46 (2 : Int32)).bind fun x47 => gz_d (nI (sC V 2)) <| (gz_aI N x47 (x44 - x44 / (nI (sC V 2)) * (nI (sC V 2)))).bind fun x48 => some (x48, N)) (nI i) (nI s) := by
    have c4 : (0 : Int32) ≤ nI w ∧ nI w ≤ 4 := ⟨nI_pos' (by omega), nI_le (b := 4) hw (by omega)⟩
    unfold f_X10_corner
    rw [hO.g, hin, Option.bind_some]
    simp only [gz_jn]
    rw [pu_10, pn_0_4, if_pos c4, Option.bind_some, pu_10, vm_nf fu hv, Option.bind_some, if_neg (nI_ne0 hn (by omega)), x1, Option.bind_some, x2', Option.bind_some, a1', pu_b2, y1, Option.bind_some, y2', Option.bind_some, b1', pu_b2, z1, Option.bind_some, z2', Option.bind_some, d1', pu_b2, vm_90 hfu hn ON vN hz, hb]
    rfl
  obtain ⟨r1, r2, r3⟩ := lm_c ON (m := 0) (by omega)
  obtain ⟨-, q2, q3⟩ := lm_c ON (m := 1) (by omega)
  obtain ⟨-, t2, t3⟩ := lm_c ON (m := 2) (by omega)
  have r2' : gz_aR N (b + 149) (0 : Int32) = some (b + 150 + 0) := r2
  have q2' : gz_aR N (b + 149) (1 : Int32) = some (b + 150 + 1) := q2
  have t2' : gz_aR N (b + 149) (2 : Int32) = some (b + 150 + 2) := t2
  have e1 : nI i / nI (sC V 2) = nI (i / sC V 2) := pk_div (by omega) p2 (by omega)
  have e2 : nI (i / sC V 2) / nI (sC V 1) = nI (i / sC V 2 / sC V 1) := pk_div (by omega) p1 (by omega)
  have e3 : nI (i / sC V 2) - nI (i / sC V 2) / nI (sC V 1) * nI (sC V 1) = nI (i / sC V 2 % sC V 1) := pk_rem (by omega) p1 (by omega)
  have e4 : nI i - nI i / nI (sC V 2) * nI (sC V 2) = nI (i % sC V 2) := pk_rem (by omega) p2 (by omega)
  refine ⟨N, ?_, (a2.trans b2 (S := fun c => b + 150 ≤ c ∧ c < b + 153) (fun c q => by omega) (fun c q => by omega)).trans d2 (fun _ q => q) (fun c q => by omega)⟩
  rw [run]
  have : w = 0 ∨ w = 1 ∨ w = 2 ∨ w = 3 ∨ w = 4 := by omega
  rcases this with rfl | rfl | rfl | rfl | rfl
  · rfl
  · rfl
  · show ((gz_gR N 10 29 (b + 110)).bind fun x52 => (gz_aR N x52 (0 : Int32)).bind fun x53 => gz_d (nI (sC V 2)) <| gz_d (nI (sC V 1)) <| (gz_aI N x53 ((nI i / (nI (sC V 2))) / (nI (sC V 1)))).bind fun x54 => some (x54, N)) = some (nI (sS V 0 (i / sC V 2 / sC V 1)), N)
    rw [r1, Option.bind_some, r2', Option.bind_some, pu_d p2 (by omega), pu_d p1 (by omega), e1, e2, pu_aI r3 (show i / sC V 2 / sC V 1 < 12 by omega) (by decide), hz 0 _ (by omega) i0, Option.bind_some]
  · show ((gz_gR N 10 29 (b + 110)).bind fun x49 => (gz_aR N x49 (1 : Int32)).bind fun x50 => gz_d (nI (sC V 2)) <| gz_d (nI (sC V 1)) <| (gz_aI N x50 ((nI i / (nI (sC V 2))) - (nI i / (nI (sC V 2))) / (nI (sC V 1)) * (nI (sC V 1)))).bind fun x51 => some (x51, N)) = some (nI (sS V 1 (i / sC V 2 % sC V 1)), N)
    rw [r1, Option.bind_some, q2', Option.bind_some, pu_d p2 (by omega), pu_d p1 (by omega), e1, e3, pu_aI q3 (show i / sC V 2 % sC V 1 < 12 by omega) (by decide), hz 1 _ (by omega) i1, Option.bind_some]
  · show ((gz_gR N 10 29 (b + 110)).bind fun x46 => (gz_aR N x46 (2 : Int32)).bind fun x47 => gz_d (nI (sC V 2)) <| (gz_aI N x47 (nI i - nI i / (nI (sC V 2)) * (nI (sC V 2)))).bind fun x48 => some (x48, N)) = some (nI (sS V 2 (i % sC V 2)), N)
    rw [r1, Option.bind_some, t2', Option.bind_some, pu_d p2 (by omega), e4, pu_aI t3 (show i % sC V 2 < 12 by omega) (by decide), hz 2 _ (by omega) i2, Option.bind_some]
theorem op_corner (b : Nat) {fu : Nat} (hfu : 5000 ≤ fu) : gz_op_corner (pi_I b) fu b (b + 110) := by
  intro M v w hI
  rcases pg_val hI v with ⟨k, V, rfl, hv⟩ | hz
  · have hok := hv.ok
    have o1 := hok.1
    have o2 := hok.2.1
    have op2 : 2 ^ pv_nl V ≤ 2 ^ 10 := Nat.pow_le_pow_right (by omega) o2
    by_cases hc : (0 ≤ w ∧ w ≤ 4)
    · have c1 := hc
      obtain ⟨w, hw, rfl⟩ := pu_num (n := 4) (by decide) c1
      by_cases hn : pv_nf V = 0
      · have hz0 : (nI (pv_nf V) = 0) = True := eq_true (by rw [hn]; rfl)
        obtain ⟨M1, M2, r1, r2, r3, hw⟩ := pu_rfw fu hI 0 (by decide) (-2) pu_k2
        refine ⟨-2, M1, M2, ?_, ?_, r3⟩
        · simp only [f_X9_corner, gz_jn, hv.gC, hv.vC fu, hv.fC fu, hv.lC fu, hv.sC fu, pu_within, pu_shelf, pu_count, Option.bind_some, pu_ii, pu_10, if_true, gz_b2, r1, if_pos c1, hv.p1, hv.p2, hv.p3, vc_nf hv.c, hz0, if_true]
        · have hv' := hv.same hw
          simp only [f_X10_corner, gz_jn, hv'.gM, hv'.vM fu, hv'.fM fu, hv'.lM fu, hv'.sM fu, hv'.nM fu, pn_0_1, pn_0_2, pn_0_3, pn_0_4, pn_0_5, pn_0_7, pn_0_10, pn_0_40, pn_1_4, pn_1_6, pn_1_9, Option.bind_some, pu_ii, pu_10, if_true, gz_b2, r2, if_pos c1, vm_nf fu hv'.m, hz0, if_true]
      · have hnp : 0 < pv_nf V := by omega
        have hk := hv.2.2.1
        have p0 := sC_pos hok hnp (m := 0) (by omega)
        have p1 := sC_pos hok hnp (m := 1) (by omega)
        have p2 := sC_pos hok hnp (m := 2) (by omega)
        have hpp : 0 < sC V 0 * sC V 1 * sC V 2 := Nat.mul_pos (Nat.mul_pos p0 p1) p2
        obtain ⟨i, s, hb⟩ := cn_b_some V (sC V 0 * sC V 1 * sC V 2 - 1)
        rw [show sC V 0 * sC V 1 * sC V 2 - 1 + 1 = sC V 0 * sC V 1 * sC V 2 by omega] at hb
        obtain ⟨M1, a1, w1, R1, C1⟩ := vc_sk hfu hv.1 hv.c (by omega) hI.2.2.2.1.2
        obtain ⟨g1, g2, g3⟩ := C1
        obtain ⟨y0, y1, y2⟩ := g3 i s hb
        rw [hb] at g1 g2
        have hw1 : pf_w b M M1 := ⟨w1.1, w1.2.1, w1.2.2.1, w1.2.2.2.1, fun c q1 q2 => w1.2.2.2.2 c (by omega)⟩
        have hI1 : pi_I b M1 := hI.scratch hw1 (w1.2.2.2.2 _ (by omega))
        have hv1 := hv.same hw1
        obtain ⟨M2, t1, w2⟩ := vm_co (b := b) hfu hnp hv1.2.1 hv1.m hb hw (hv1.vM fu)
        have hw2 : pf_w b M1 M2 := ⟨w2.1, w2.2.1, w2.2.2.1, w2.2.2.2.1, fun c q1 q2 => w2.2.2.2.2 c (by omega)⟩
        obtain ⟨k1, k2, -, -, -, -, k7, -⟩ := lk_r R1.1
        have l9 : gz_gR M1 9 9 b = some (b + 79) := lc_R R1.1 9 79 (by decide)
        refine ⟨_, M1, M2, ?_, t1, hI1.scratch hw2 (w2.2.2.2.2 _ (by omega))⟩
        have hz0 : (nI (pv_nf V) = 0) = False := eq_false (nI_ne0 hnp (by omega))
        simp only [f_X9_corner, gz_jn, hv.gC, hv.vC fu, hv.fC fu, hv.lC fu, hv.sC fu, pu_within, pu_shelf, pu_count, Option.bind_some, pu_ii, pu_10, if_true, gz_b2, if_pos c1, hv.p1, hv.p2, hv.p3, vc_nf hv.c, hz0, if_false, lc_R hv.1 9 79 (by decide), a1]
        have : w = 0 ∨ w = 1 ∨ w = 2 ∨ w = 3 ∨ w = 4 := by omega
        rcases this with rfl | rfl | rfl | rfl | rfl
        · show ((gz_gR M1 9 9 b).bind fun x17 => (gz_gI M1 0 1 x17).bind fun x18 => some (x18, M1)) = some (nI i, M1)
          rw [l9, Option.bind_some, pu_gI (ci := 0) 1 k1, g1, Option.bind_some]; rfl
        · show ((gz_gR M1 9 9 b).bind fun x17 => (gz_gI M1 0 2 x17).bind fun x18 => some (x18, M1)) = some (nI s, M1)
          rw [l9, Option.bind_some, pu_gI (ci := 0) 2 k1, g2, Option.bind_some]; rfl
        · show ((gz_gR M1 9 9 b).bind fun x12 => (gz_gR M1 0 0 x12).bind fun x13 => (gz_aI M1 x13 (nI 0)).bind fun x14 => some (x14, M1)) = some (nI (sS V 0 (i / sC V 2 / sC V 1)), M1)
          rw [l9, Option.bind_some, k2, Option.bind_some, pu_aI k7 (show 0 < 3 by omega) (by decide), y0, Option.bind_some]
        · show ((gz_gR M1 9 9 b).bind fun x12 => (gz_gR M1 0 0 x12).bind fun x13 => (gz_aI M1 x13 (nI 1)).bind fun x14 => some (x14, M1)) = some (nI (sS V 1 (i / sC V 2 % sC V 1)), M1)
          rw [l9, Option.bind_some, k2, Option.bind_some, pu_aI k7 (show 1 < 3 by omega) (by decide), y1, Option.bind_some]
        · show ((gz_gR M1 9 9 b).bind fun x12 => (gz_gR M1 0 0 x12).bind fun x13 => (gz_aI M1 x13 (nI 2)).bind fun x14 => some (x14, M1)) = some (nI (sS V 2 (i % sC V 2)), M1)
          rw [l9, Option.bind_some, k2, Option.bind_some, pu_aI k7 (show 2 < 3 by omega) (by decide), y2, Option.bind_some]
    · obtain ⟨M1, M2, r1, r2, r3, hw⟩ := pu_rfw fu hI 0 (by decide) (-2) pu_k2
      refine ⟨-2, M1, M2, ?_, ?_, r3⟩
      · simp only [f_X9_corner, gz_jn, hv.gC, hv.vC fu, hv.fC fu, hv.lC fu, hv.sC fu, pu_within, pu_shelf, pu_count, Option.bind_some, pu_ii, pu_10, if_true, gz_b2, r1, if_neg hc]
      · have hv' := hv.same hw
        simp only [f_X10_corner, gz_jn, hv'.gM, hv'.vM fu, hv'.fM fu, hv'.lM fu, hv'.sM fu, hv'.nM fu, pn_0_1, pn_0_2, pn_0_3, pn_0_4, pn_0_5, pn_0_7, pn_0_10, pn_0_40, pn_1_4, pn_1_6, pn_1_9, Option.bind_some, pu_ii, pu_10, if_true, gz_b2, r2, if_neg hc]
  · obtain ⟨M1, M2, r1, r2, r3, hw⟩ := pu_rfw fu hI 0 (by decide) (-2) pu_k2
    refine ⟨-2, M1, M2, ?_, ?_, r3⟩
    · simp only [f_X9_corner, gz_jn, hz.gC, hz.vC fu, hz.fC fu, hz.lC fu, hz.sC fu, pu_within, pu_shelf, pu_count, Option.bind_some, pu_ii, pu_10, if_true, gz_b2, r1]
    · have hv' := hz.same hw
      simp only [f_X10_corner, gz_jn, hv'.gM, hv'.vM fu, hv'.fM fu, hv'.lM fu, hv'.sM fu, hv'.nM fu, pn_0_1, pn_0_2, pn_0_3, pn_0_4, pn_0_5, pn_0_7, pn_0_10, pn_0_40, pn_1_4, pn_1_6, pn_1_9, Option.bind_some, pu_ii, pu_10, if_true, gz_b2, r2]
