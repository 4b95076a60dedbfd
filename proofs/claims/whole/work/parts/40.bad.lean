/-! badness by the reference -/
theorem vm_by1 {mo k : Nat} {V : pv_V} {M : gz_M} (j : Option Int32) (h : vy_m mo k V M) {l b t fl fb fh g s m n : Nat} (hl : l < 2 ^ 20) (hb : b < 2 ^ 20) (ht : t < 2 ^ 20) (hfl : fl < 2 ^ 20) (hfb : fb < 2 ^ 20) (hfh : fh < 2 ^ 20) (hg : g < 2 ^ 20) (hm : m < 3) (is own : Nat) (h0 : is = if m = 0 then l else if m = 1 then b else t) (h1 : own = if m = 0 then fl else if m = 1 then fb else fh) : lp_X10_badBy_6 j M mo (nI k) (nI l) (nI b) (nI t) (nI fl) (nI fb) (nI fh) (nI g) (n + 1) (nI s) (nI m) = match sp_sh V m own g is with
    | none => j
    | some x => lp_X10_badBy_6 j M mo (nI k) (nI l) (nI b) (nI t) (nI fl) (nI fb) (nI fh) (nI g) n (nI (s + x)) (nI (m + 1)) := by
  have his : is < 2 ^ 20 := by rw [h0]; (repeat' split) <;> assumption
  have how : own < 2 ^ 20 := by rw [h1]; (repeat' split) <;> assumption
  obtain ⟨o5, o5'⟩ := (vm_ok h).2.2.2.2.1 m hm
  have key : ∀ (A B : Int32), A = nI is → B = nI own → (if A < B - nI g then j else (gz_gR M 10 12 mo).bind fun x5 => (gz_aR M x5 (nI k)).bind fun x6 => (gz_aI M x6 ((7 : Int32) + nI m)).bind fun x7 => if A ≤ (B + x7) then (if A ≤ B then lp_X10_badBy_6 j M mo (nI k) (nI l) (nI b) (nI t) (nI fl) (nI fb) (nI fh) (nI g) n (nI s + 0) (nI m + (1 : Int32)) else (gz_gR M 10 12 mo).bind fun x8 => (gz_aR M x8 (nI k)).bind fun x9 => (gz_aI M x9 ((4 : Int32) + nI m)).bind fun x10 => lp_X10_badBy_6 j M mo (nI k) (nI l) (nI b) (nI t) (nI fl) (nI fb) (nI fh) (nI g) n (nI s + x10 * (A - B)) (nI m + (1 : Int32))) else j) = match sp_sh V m own g is with
      | none => j
      | some x => lp_X10_badBy_6 j M mo (nI k) (nI l) (nI b) (nI t) (nI fl) (nI fb) (nI fh) (nI g) n (nI (s + x)) (nI (m + 1)) := by
    rintro A B rfl rfl
    unfold sp_sh
    by_cases c1 : is + g < own
    · rw [if_pos ((pn_ltsub (by omega) (by omega) (by omega)).mpr c1), if_pos (Or.inl c1)]
    · rw [if_neg (fun q => c1 ((pn_ltsub (by omega) (by omega) (by omega)).mp q)), vm_r12 h, Option.bind_some, vm_v h, Option.bind_some, vm_ov h hm, Option.bind_some, nI_add]
      by_cases c2 : own + pv_ov V m < is
      · rw [if_neg (nI_ge c2 (by omega)), if_pos (Or.inr c2)]
      · have c4 : ¬ (is + g < own ∨ own + pv_ov V m < is) := by omega
        rw [if_pos (nI_le (by omega) (by omega)), if_neg c4]
        by_cases c3 : is ≤ own
        · rw [if_pos (nI_le c3 (by omega)), Nat.sub_eq_zero_of_le c3, Nat.mul_zero, show (0 : Int32) = nI 0 from rfl, nI_add, pn_1]
        · rw [if_neg (nI_ge (by omega) (by omega)), Option.bind_some, vm_v h, Option.bind_some, vm_wa h hm, Option.bind_some, pk_sub (by omega), pk_mul, nI_add, pn_1]
  rw [lp_X10_badBy_6]
  have c : ¬ (3 : Int32) ≤ nI m := nI_ge (b := 3) hm (by decide)
  rw [if_neg c]
  simp only [gz_jn]
  have : m = 0 ∨ m = 1 ∨ m = 2 := by omega
  rcases this with rfl | rfl | rfl
  · exact key _ _ (by rw [h0]; rfl) (by rw [h1]; rfl)
  · exact key _ _ (by rw [h0]; rfl) (by rw [h1]; rfl)
  · exact key _ _ (by rw [h0]; rfl) (by rw [h1]; rfl)
theorem vm_by {mo k : Nat} {V : pv_V} {M : gz_M} {fu : Nat} (hfu : 5000 ≤ fu) (h : vy_m mo k V M) {l b t fl fb fh g : Nat} (hl : l < 2 ^ 20) (hb : b < 2 ^ 20) (ht : t < 2 ^ 20) (hfl : fl < 2 ^ 20) (hfb : fb < 2 ^ 20) (hfh : fh < 2 ^ 20) (hg : g < 2 ^ 20) : f_X10_badBy fu M mo (nI k) (nI l) (nI b) (nI t) (nI fl) (nI fb) (nI fh) (nI g) = some (pc_o (sp_bb V l b t fl fb fh g)) := by
  obtain ⟨n, rfl⟩ : ∃ n, fu = n + 1 + 1 + 1 + 1 := ⟨fu - 4, by omega⟩
  unfold f_X10_badBy sp_bb
  rw [vm_gd h, show (0 : Int32) = nI 0 from rfl, vm_by1 _ h hl hb ht hfl hfb hfh hg (m := 0) (by omega) l fl rfl rfl]
  cases sp_sh V 0 fl g l with
  | none => rfl
  | some x =>
    simp only
    rw [vm_by1 _ h hl hb ht hfl hfb hfh hg (m := 0 + 1) (by omega) b fb rfl rfl]
    simp only [Option.bind_some, Nat.zero_add]
    cases sp_sh V 1 fb g b with
    | none => rfl
    | some y =>
      simp only
      rw [vm_by1 _ h hl hb ht hfl hfb hfh hg (m := 1 + 1) (by omega) t fh rfl rfl]
      simp only [Option.bind_some]
      show (match sp_sh V 2 fh g t with | none => _ | some x_1 => _) = _
      cases sp_sh V 2 fh g t with
      | none => rfl
      | some z => rfl
theorem vm_bad {mo k k' : Nat} {V W : pv_V} {M : gz_M} {fu : Nat} (hfu : 5000 ≤ fu) (h : vy_m mo k V M) (h' : vy_m mo k' W M) {l f : Nat} (hf : f < pv_nf V) (hl : l < pv_nl W) : f_X10_badOf fu M mo (nI k') (nI l) (nI k) (nI f) = some (pc_o (sp_bad V W l f)) := by
  obtain ⟨l1, l2⟩ := (vm_ok h').2.2.2.2.2.2 l hl
  obtain ⟨f1, f2, f3, f4⟩ := (vm_ok h).2.2.2.2.2.1 f hf
  have m0 := l1 0 (by omega)
  have m1 := l1 1 (by omega)
  have m2 := l1 2 (by omega)
  have n0 := f1 0 (by omega)
  have n1 := f1 1 (by omega)
  have n2 := f1 2 (by omega)
  rw [Nat.add_zero] at m0 n0
  have e0 : f_X10_lastIs fu M mo (nI k') (nI l) (0 : Int32) = some (nI (pv_L W (4 * l))) := vm_lp fu h' hl (m := 0) (by omega)
  have e1 : f_X10_lastIs fu M mo (nI k') (nI l) (1 : Int32) = some (nI (pv_L W (4 * l + 1))) := vm_lp fu h' hl (m := 1) (by omega)
  have e2 : f_X10_lastIs fu M mo (nI k') (nI l) (2 : Int32) = some (nI (pv_L W (4 * l + 2))) := vm_lp fu h' hl (m := 2) (by omega)
  have g0 : f_X10_of fu M mo (nI k) (nI f) (0 : Int32) = some (nI (pv_F V (5 * f))) := vm_fp fu h hf (m := 0) (by omega)
  have g1 : f_X10_of fu M mo (nI k) (nI f) (1 : Int32) = some (nI (pv_F V (5 * f + 1))) := vm_fp fu h hf (m := 1) (by omega)
  have g2 : f_X10_of fu M mo (nI k) (nI f) (2 : Int32) = some (nI (pv_F V (5 * f + 2))) := vm_fp fu h hf (m := 2) (by omega)
  have g4 : f_X10_of fu M mo (nI k) (nI f) (4 : Int32) = some (nI (pv_F V (5 * f + 4))) := vm_fp fu h hf (m := 4) (by omega)
  unfold f_X10_badOf
  rw [vm_gd h, e0, Option.bind_some, e1, Option.bind_some, e2, Option.bind_some, g0, Option.bind_some, g1, Option.bind_some, g2, Option.bind_some, g4, Option.bind_some, vm_by hfu h (by omega) (by omega) (by omega) (by omega) (by omega) (by omega) (by omega), Option.bind_some]
  rfl
/-! the own last: index and badness -/
def sp_add (s : Option (Nat × Nat)) (k : Nat) (x : Option Nat) : Option (Nat × Nat) := match s, x with
  | s, none => s
  | none, some x => some (k, x)
  | some (i, y), some x => if x < y then some (k, x) else some (i, y)
def sp_own (V W : pv_V) (f set : Nat) : Nat → Option (Nat × Nat)
  | 0 => none
  | k + 1 => sp_add (sp_own V W f set k) k (if set.testBit k then sp_bad V W k f else none)
theorem sp_own_ok {V W : pv_V} {f set : Nat} (hV : pv_ok V) : ∀ k i x, sp_own V W f set k = some (i, x) → i < k ∧ x ≤ 810 ∧ sp_bad V W i f = some x ∧ set.testBit i = true
  | 0, i, x, h => by cases h
  | k + 1, i, x, h => by
    unfold sp_own at h
    have ih := sp_own_ok (V := V) (W := W) (f := f) (set := set) hV k
    revert h ih
    cases hb : set.testBit k <;> cases e : sp_own V W f set k with
    | none =>
      intro h ih
      first
      | (simp [sp_add] at h; done)
      | (cases e2 : sp_bad V W k f with
         | none => simp [sp_add, e2] at h
         | some y =>
           simp [sp_add, e2] at h
           obtain ⟨rfl, rfl⟩ := h
           exact ⟨by omega, sp_bad_le hV e2, e2, hb⟩)
    | some p =>
      obtain ⟨i', y'⟩ := p
      intro h ih
      first
      | (simp [sp_add] at h
         obtain ⟨rfl, rfl⟩ := h
         obtain ⟨a1, a2⟩ := ih i' y' rfl
         exact ⟨by omega, a2⟩
         done)
      | (cases e2 : sp_bad V W k f with
         | none =>
           simp [sp_add, e2] at h
           obtain ⟨rfl, rfl⟩ := h
           obtain ⟨a1, a2⟩ := ih i' y' rfl
           exact ⟨by omega, a2⟩
         | some y =>
           simp [sp_add, e2] at h
           split at h
           · simp at h
             obtain ⟨rfl, rfl⟩ := h
             exact ⟨by omega, sp_bad_le hV e2, e2, hb⟩
           · simp at h
             obtain ⟨rfl, rfl⟩ := h
             obtain ⟨a1, a2⟩ := ih i' y' rfl
             exact ⟨by omega, a2⟩)
def pc_i (o : Option (Nat × Nat)) : Int32 := pc_o (o.map Prod.fst)
/-- its badness, or never -/
def pc_n : Option (Nat × Nat) → Int32
  | none => 2147483647
  | some (_, x) => nI x
/-- its badness, or 0 -/
def pc_z : Option (Nat × Nat) → Int32
  | none => 0
  | some (_, x) => nI x
theorem pc_i0 : pc_i none = -1 := rfl
theorem pc_i1 (i x : Nat) : pc_i (some (i, x)) = nI i := rfl
theorem pc_n0 : pc_n none = 2147483647 := rfl
theorem pc_n1 (i x : Nat) : pc_n (some (i, x)) = nI x := rfl
theorem pc_z0 : pc_z none = 0 := rfl
theorem pc_z1 (i x : Nat) : pc_z (some (i, x)) = nI x := rfl
theorem sa_n (s : Option (Nat × Nat)) (k : Nat) : sp_add s k none = s := by cases s <;> rfl
theorem sa_0 (k x : Nat) : sp_add none k (some x) = some (k, x) := rfl
theorem sa_1 (i y k x : Nat) : sp_add (some (i, y)) k (some x) = if x < y then some (k, x) else some (i, y) := rfl
theorem vc_ol {a : Nat} {V : pv_V} {M : gz_M} {fu : Nat} (hfu : 5000 ≤ fu) (h : vy_c a V M) {f set : Nat} (hf : f < pv_nf V) (hs : set < 2 ^ 20) : f_X7_ownLast fu M a (nI f) (nI set) = some (pc_i (sp_own V V f set (pv_nl V))) := by
  have hV := vc_ok h
  have o2 := hV.2.1
  unfold f_X7_ownLast
  rw [vc_gd h]
  refine pl_fn (fun fuel i s => lp_X7_ownLast_9 (fun x8 => some x8) fu M a (nI f) (nI set) fuel s.1 s.2 i) (fun s => some s.1) (fun k => (pc_i (sp_own V V f set k), pc_n (sp_own V V f set k))) (pv_nl V) ?_ ?_ (fuel := fu) (by omega)
  · intro fuel i hi
    try simp only
    rw [lp_X7_ownLast_9, vc_nl h, Option.bind_some, if_neg (pn_nle hi (by omega))]
    simp only [gz_jn, pn_1]
    rw [sp_own]
    have hold := sp_own_ok (V := V) (W := V) (f := f) (set := set) hV i
    cases hb : set.testBit i
    · rw [if_pos ((pn_and (by omega) (by omega)).mpr hb)]
      rfl
    · rw [if_neg (fun q => by rw [(pn_and (by omega) (by omega)).mp q] at hb; cases hb), vc_bf fu h hf hi, Option.bind_some]
      cases e2 : sp_bad V V i f with
      | none => rw [if_pos pc_none]; rfl
      | some y =>
        have hy := sp_bad_le hV e2
        rw [pc_some, if_neg (pn_neg (n := y) (by omega))]
        cases e : sp_own V V f set i with
        | none =>
          rw [pc_n0, if_neg (Int32.not_le.mpr (pn_mx (n := y) (by omega)).2)]
          rfl
        | some p =>
          obtain ⟨i', y'⟩ := p
          obtain ⟨a1, a2, a3⟩ := hold i' y' e
          show (if nI y' ≤ nI y then _ else _) = _
          by_cases c : y < y'
          · rw [if_neg (nI_ge c (by omega))]
            simp only [sp_add, if_pos c, if_true, pc_i, pc_n, Option.map_some, pc_some]
          · rw [if_pos (nI_le (by omega) (by omega))]
            simp only [sp_add, if_neg c, if_true, pc_i, pc_n, Option.map_some, pc_some]
  · intro fuel
    try simp only
    rw [lp_X7_ownLast_9, vc_nl h, Option.bind_some, if_pos (pn_le (Nat.le_refl _) (by omega))]
theorem vc_ob {a a' : Nat} {V W : pv_V} {M : gz_M} {fu : Nat} (hfu : 5000 ≤ fu) (h : vy_c a V M) (h' : vy_c a' W M) {f set : Nat} (hf : f < pv_nf V) (hs : set < 2 ^ 20) : f_X7_ownBadness fu M a (nI f) a' (nI set) = some (pc_n (sp_own V W f set (pv_nl W))) := by
  have hV := vc_ok h
  have o2 := (vc_ok h').2.1
  unfold f_X7_ownBadness
  rw [vc_gd h]
  refine pl_fn (fun fuel i s => lp_X7_ownBadness_7 (fun x8 => some x8) fu M a (nI f) a' (nI set) fuel s i) (fun s => some s) (fun k => pc_n (sp_own V W f set k)) (pv_nl W) ?_ ?_ (fuel := fu) (by omega)
  · intro fuel i hi
    try simp only
    rw [lp_X7_ownBadness_7, vc_nl h', Option.bind_some, if_neg (pn_nle hi (by omega))]
    simp only [gz_jn, pn_1]
    rw [sp_own]
    have hold := sp_own_ok (V := V) (W := W) (f := f) (set := set) hV i
    cases hb : set.testBit i
    · rw [if_pos ((pn_and (by omega) (by omega)).mpr hb)]
      rfl
    · rw [if_neg (fun q => by rw [(pn_and (by omega) (by omega)).mp q] at hb; cases hb), vc_bo fu h h' hf hi, Option.bind_some]
      cases e2 : sp_bad V W i f with
      | none => rw [if_pos pc_none]; rfl
      | some y =>
        have hy := sp_bad_le hV e2
        rw [pc_some, if_neg (pn_neg (n := y) (by omega))]
        cases e : sp_own V W f set i with
        | none =>
          rw [pc_n0, if_pos (pn_mx (n := y) (by omega)).2]
          rfl
        | some p =>
          obtain ⟨i', y'⟩ := p
          obtain ⟨a1, a2, a3⟩ := hold i' y' e
          show lp_X7_ownBadness_7 _ _ _ _ _ _ _ _ (if nI y < nI y' then _ else _) _ = _
          by_cases c : y < y'
          · rw [if_pos (nI_lt c (by omega))]
            simp only [sp_add, if_pos c, if_true, pc_n]
          · rw [if_neg (nI_nlt (by omega) (by omega))]
            simp only [sp_add, if_neg c, if_true, pc_n]
  · intro fuel
    try simp only
    rw [lp_X7_ownBadness_7, vc_nl h', Option.bind_some, if_pos (pn_le (Nat.le_refl _) (by omega))]
theorem vm_own {mo k : Nat} {V : pv_V} {M : gz_M} {fu : Nat} (hfu : 5000 ≤ fu) (h : vy_m mo k V M) {f set : Nat} (hf : f < pv_nf V) (hs : set < 2 ^ 20) : f_X10_ownOf fu M mo (nI k) (nI f) (nI set) = some (pc_i (sp_own V V f set (pv_nl V))) := by
  have hV := vm_ok h
  have o2 := hV.2.1
  unfold f_X10_ownOf
  rw [vm_gd h]
  refine pl_fn (fun fuel i s => lp_X10_ownOf_9 (fun x8 => some x8) fu M mo (nI k) (nI f) (nI set) fuel s.1 s.2 i) (fun s => some s.1) (fun k => (pc_i (sp_own V V f set k), pc_z (sp_own V V f set k))) (pv_nl V) ?_ ?_ (fuel := fu) (by omega)
  · intro fuel i hi
    try simp only
    rw [lp_X10_ownOf_9, vm_nl fu h, Option.bind_some, if_neg (pn_nle hi (by omega))]
    simp only [gz_jn, pn_1]
    rw [sp_own]
    have hold := sp_own_ok (V := V) (W := V) (f := f) (set := set) hV i
    cases hb : set.testBit i
    · rw [if_pos ((pn_bit (by omega) (by omega)).mpr hb)]
      simp only [if_true, Bool.false_eq_true, if_false, sa_n]
    · rw [if_neg (fun q => by rw [(pn_bit (by omega) (by omega)).mp q] at hb; cases hb), vm_bad hfu h h hf hi, Option.bind_some]
      cases e2 : sp_bad V V i f with
      | none => rw [if_pos pc_none]; rfl
      | some y =>
        have hy := sp_bad_le hV e2
        rw [pc_some, if_neg (pn_neg (n := y) (by omega))]
        cases e : sp_own V V f set i with
        | none =>
          rw [if_pos pc_i0]
          rfl
        | some p =>
          obtain ⟨i', y'⟩ := p
          obtain ⟨a1, a2, a3⟩ := hold i' y' e
          rw [pc_i1, if_neg (pn_neg (n := i') (by omega))]
          show (if nI y' ≤ nI y then _ else _) = _
          by_cases c : y < y'
          · rw [if_neg (nI_ge c (by omega))]
            simp only [sp_add, if_pos c, if_true, pc_i, pc_z, Option.map_some, pc_some]
          · rw [if_pos (nI_le (by omega) (by omega))]
            simp only [sp_add, if_neg c, if_true, pc_i, pc_z, Option.map_some, pc_some]
  · intro fuel
    try simp only
    rw [lp_X10_ownOf_9, vm_nl fu h, Option.bind_some, if_pos (pn_le (Nat.le_refl _) (by omega))]
