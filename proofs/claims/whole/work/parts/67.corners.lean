/-! the sizes that feet have -/
def sz_h (V : pv_V) (m v : Nat) : Nat → Bool
  | 0 => false
  | f + 1 => sz_h V m v f || decide (pv_F V (5 * f + m) = v)
theorem sz_h_iff (V : pv_V) (m v : Nat) : ∀ n, sz_h V m v n = true ↔ ∃ f, f < n ∧ pv_F V (5 * f + m) = v
  | 0 => ⟨fun h => absurd h (by simp [sz_h]), fun h => by obtain ⟨f, h, -⟩ := h; exact absurd h (Nat.not_lt_zero f)⟩
  | n + 1 => by
    simp only [sz_h, Bool.or_eq_true, decide_eq_true_eq, sz_h_iff V m v n]
    constructor
    · rintro (⟨f, h1, h2⟩ | h)
      · exact ⟨f, by omega, h2⟩
      · exact ⟨n, by omega, h⟩
    · rintro ⟨f, h1, h2⟩
      by_cases e : f = n
      · subst e
        exact Or.inr h2
      · exact Or.inl ⟨f, by omega, h2⟩
def sz_c (V : pv_V) (m n : Nat) : Nat → Nat
  | 0 => 0
  | v + 1 => sz_c V m n v + (sz_h V m v n).toNat
theorem sz_c_s (V : pv_V) (m n v : Nat) : sz_c V m n (v + 1) = sz_c V m n v + (sz_h V m v n).toNat := rfl
theorem sz_c_1 (V : pv_V) (m n : Nat) : ∀ v, sz_c V m (n + 1) v ≤ sz_c V m n v + (if pv_F V (5 * n + m) < v then 1 else 0)
  | 0 => Nat.zero_le _
  | v + 1 => by
    have ih := sz_c_1 V m n v
    have t1 : (sz_h V m v n || decide (pv_F V (5 * n + m) = v)).toNat ≤ (sz_h V m v n).toNat + (if pv_F V (5 * n + m) = v then 1 else 0) := by
      cases sz_h V m v n <;> by_cases e : pv_F V (5 * n + m) = v <;> simp [e]
    have e1 : sz_c V m (n + 1) (v + 1) = sz_c V m (n + 1) v + (sz_h V m v n || decide (pv_F V (5 * n + m) = v)).toNat := rfl
    rw [e1, sz_c_s]
    split at ih <;> split at t1 <;> split <;> omega
theorem sz_c_0 (V : pv_V) (m : Nat) : ∀ v, sz_c V m 0 v = 0
  | 0 => rfl
  | v + 1 => by
    rw [sz_c_s, sz_c_0 V m v]
    rfl
theorem sz_c_le (V : pv_V) (m : Nat) : ∀ n v, sz_c V m n v ≤ n
  | 0, v => by rw [sz_c_0]; exact Nat.le_refl _
  | n + 1, v => by
    have h1 := sz_c_1 V m n v
    have h2 := sz_c_le V m n v
    split at h1 <;> omega
theorem sz_c_mono (V : pv_V) (m n v : Nat) : ∀ d, sz_c V m n v ≤ sz_c V m n (v + d)
  | 0 => Nat.le_refl _
  | d + 1 => by
    have h := sz_c_mono V m n v d
    have e : sz_c V m n (v + (d + 1)) = sz_c V m n (v + d) + (sz_h V m (v + d) n).toNat := rfl
    omega
def sz_f (V : pv_V) (m n : Nat) : Nat → Nat → Nat
  | 0, _ => 0
  | v + 1, i => if sz_h V m v n = true ∧ i = sz_c V m n v then v else sz_f V m n v i
theorem sz_f_s (V : pv_V) (m n v i : Nat) : sz_f V m n (v + 1) i = if sz_h V m v n = true ∧ i = sz_c V m n v then v else sz_f V m n v i := rfl
theorem sz_f_keep {V : pv_V} {m n v i : Nat} (h : i < sz_c V m n v) : ∀ d, sz_f V m n (v + d) i = sz_f V m n v i
  | 0 => rfl
  | d + 1 => by
    have h1 := sz_c_mono V m n v d
    have e : sz_f V m n (v + (d + 1)) i = if sz_h V m (v + d) n = true ∧ i = sz_c V m n (v + d) then v + d else sz_f V m n (v + d) i := rfl
    rw [e, if_neg (by omega), sz_f_keep h d]
theorem sz_f_lt {V : pv_V} {m n : Nat} : ∀ v i, i < sz_c V m n v → sz_f V m n v i < v
  | 0, i, h => absurd h (Nat.not_lt_zero i)
  | v + 1, i, h => by
    rw [sz_c_s] at h
    rw [sz_f_s]
    by_cases e : sz_h V m v n = true ∧ i = sz_c V m n v
    · rw [if_pos e]; omega
    · rw [if_neg e]
      have : i < sz_c V m n v := by
        cases hb : sz_h V m v n
        · rw [hb] at h; exact h
        · rw [hb] at h
          have h' : i < sz_c V m n v + 1 := h
          have : i ≠ sz_c V m n v := fun q => e ⟨hb, q⟩
          omega
      have := sz_f_lt v i this
      omega
/-- how many sizes; the sizes -/
def sC (V : pv_V) (m : Nat) : Nat := sz_c V m (pv_nf V) 31
def sS (V : pv_V) (m i : Nat) : Nat := sz_f V m (pv_nf V) 31 i
theorem sC_le {V : pv_V} (hV : pv_ok V) (m : Nat) : sC V m ≤ 12 := Nat.le_trans (sz_c_le V m _ _) hV.1
theorem sS_le {V : pv_V} {m i : Nat} (h : i < sC V m) : sS V m i ≤ 30 := Nat.le_of_lt_succ (sz_f_lt 31 i h)
theorem nI_or1 (x : Bool) : nI x.toNat ||| (1 : Int32) = nI 1 := by cases x <;> decide
theorem nI_or0 (x : Bool) : nI x.toNat ||| (0 : Int32) = nI x.toNat := by cases x <;> decide
theorem vc_hf {fu : Nat} (hfu : 5000 ≤ fu) {a m v : Nat} {V : pv_V} {M : gz_M} (h : vy_c a V M) (hm : m < 3) (hv : v ≤ 30) : f_X7_hasFootOf fu M a (nI m) (nI v) = some (nI (sz_h V m v (pv_nf V)).toNat) := by
  have o1 := (vc_ok h).1
  have key : ∀ d i fuel, i + d = pv_nf V → d < fuel → sz_h V m v i = false → lp_X7_hasFootOf_2 (some (0 : Int32)) fu M a (nI m) (nI v) fuel (nI i) = some (nI (sz_h V m v (pv_nf V)).toNat) := by
    intro d
    induction d with
    | zero =>
      intro i fuel e hf hb
      obtain ⟨f, rfl⟩ : ∃ f, fuel = f + 1 := ⟨fuel - 1, by omega⟩
      have ei : i = pv_nf V := by omega
      rw [ei] at hb
      rw [lp_X7_hasFootOf_2, vc_nf h, Option.bind_some, if_pos (pn_le (show pv_nf V ≤ i by omega) (by omega)), hb]
      rfl
    | succ d ih =>
      intro i fuel e hf hb
      obtain ⟨f, rfl⟩ : ∃ f, fuel = f + 1 := ⟨fuel - 1, by omega⟩
      have fb := ((vc_ok h).2.2.2.2.2.1 i (by omega)).1 m hm
      rw [lp_X7_hasFootOf_2, vc_nf h, Option.bind_some, if_neg (pn_nle (show i < pv_nf V by omega) (by omega)), vc_fp fu h (by omega) (by omega), Option.bind_some]
      by_cases c : pv_F V (5 * i + m) = v
      · rw [if_pos (by rw [c]), (sz_h_iff V m v (pv_nf V)).mpr ⟨i, by omega, c⟩]
        rfl
      · rw [if_neg (fun q => c ((nI_eq (by omega) (by omega)).mp q)), pn_1]
        refine ih (i + 1) f (by omega) (by omega) ?_
        show (sz_h V m v i || decide (pv_F V (5 * i + m) = v)) = false
        rw [hb, decide_eq_false c]
        rfl
  unfold f_X7_hasFootOf
  rw [vc_gd h, pu_z0]
  exact key (pv_nf V) 0 fu (by omega) (by omega) rfl
theorem vc_sz {fu : Nat} (hfu : 5000 ≤ fu) {a r m : Nat} {V : pv_V} {M : gz_M} (h : vy_c a V M) (hm : m < 3) (hr : M.2.1 r = (20, 12)) (hd : r < a ∨ a + 5 ≤ r) : ∃ M', f_X7_sizesOf fu M a (nI m) r = some (nI (sC V m), M') ∧ pf_f (fun c => c = r) M M' ∧ ∀ i, i < sC V m → M'.2.2.1 r i = nI (sS V m i) := by
  have o1 := (vc_ok h).1
  obtain ⟨T, t1, t2⟩ := pk_least (fun v => 30 < v ∨ 12 ≤ sz_c V m (pv_nf V) v) ⟨31, Or.inl (by omega)⟩
  have hT : T ≤ 31 := Nat.le_of_not_lt (fun q => t2 31 q (Or.inl (by omega)))
  have h31 := sz_c_le V m (pv_nf V) 31
  have eT : sz_c V m (pv_nf V) T = sC V m := by
    have mono := sz_c_mono V m (pv_nf V) T (31 - T)
    rw [show T + (31 - T) = 31 by omega] at mono
    show _ = sz_c V m (pv_nf V) 31
    rcases t1 with q | q
    · rw [show T = 31 by omega]
    · omega
  obtain ⟨q, ⟨e1, e2, e3⟩, e4⟩ := pl_up (σ := Int32 × gz_M) (fun fuel i q => lp_X7_sizesOf_5 (fun x9 M10 => some (x9, M10)) fu a (nI m) r fuel q.1 i q.2) (fun q => some (q.1, q.2)) (fun v q => q.1 = nI (sz_c V m (pv_nf V) v) ∧ pf_f (fun c => c = r) M q.2 ∧ ∀ i, i < sz_c V m (pv_nf V) v → q.2.2.2.1 r i = nI (sz_f V m (pv_nf V) v i)) T (fun fuel v q hv hp => by
    obtain ⟨x, N⟩ := q
    obtain ⟨rfl, w, hp⟩ := hp
    have hp : ∀ i, i < sz_c V m (pv_nf V) v → N.2.2.1 r i = nI (sz_f V m (pv_nf V) v i) := hp
    have w : pf_f (fun c => c = r) M N := w
    have n1 : v ≤ 30 := Nat.le_of_not_lt (fun q => t2 v hv (Or.inl q))
    have n2 : sz_c V m (pv_nf V) v < 12 := Nat.lt_of_not_le (fun q => t2 v hv (Or.inr q))
    have hN : vy_c a V N := h.fr w (fun c q1 q2 e => by omega)
    have kN : N.2.1 r = (20, 12) := by rw [w.2.1]; exact hr
    cases hb : sz_h V m v (pv_nf V)
    · refine ⟨(nI (sz_c V m (pv_nf V) v), N), ⟨?_, w, fun i hi => ?_⟩, ?_⟩
      · show nI _ = nI (sz_c V m (pv_nf V) v + (sz_h V m v (pv_nf V)).toNat)
        rw [hb]; rfl
      · have hi' : i < sz_c V m (pv_nf V) v + (sz_h V m v (pv_nf V)).toNat := hi
        rw [hb] at hi'
        show N.2.2.1 r i = _
        rw [hp i hi', sz_f_s, if_neg (by rw [hb]; simp)]
      · dsimp only
        rw [lp_X7_sizesOf_5, if_neg (show ¬ (30 : Int32) < nI v from nI_nlt (a := 30) n1 (by omega)), pu_ln kN (by decide), Option.bind_some, if_neg (pn_nle n2 (by omega)), vc_hf hfu hN hm n1, Option.bind_some, hb]
        simp only [gz_jn, pn_1]
        rw [if_pos (show nI false.toNat = 0 from rfl)]
    · refine ⟨(nI (sz_c V m (pv_nf V) v + 1), gz_sI N r (sz_c V m (pv_nf V) v) (nI v)), ⟨?_, w.two rfl, fun i hi => ?_⟩, ?_⟩
      · show nI _ = nI (sz_c V m (pv_nf V) v + (sz_h V m v (pv_nf V)).toNat)
        rw [hb]; rfl
      · have hi' : i < sz_c V m (pv_nf V) v + (sz_h V m v (pv_nf V)).toNat := hi
        rw [hb] at hi'
        have hi2 : i < sz_c V m (pv_nf V) v + 1 := hi'
        show (gz_sI N r (sz_c V m (pv_nf V) v) (nI v)).2.2.1 r i = _
        rw [pu_sI_at, sz_f_s]
        by_cases e : i = sz_c V m (pv_nf V) v
        · rw [if_pos ⟨rfl, e⟩, if_pos ⟨hb, e⟩]
        · rw [if_neg (fun q => e q.2), if_neg (fun q => e q.2)]
          exact hp i (by omega)
      · dsimp only
        rw [lp_X7_sizesOf_5, if_neg (show ¬ (30 : Int32) < nI v from nI_nlt (a := 30) n1 (by omega)), pu_ln kN (by decide), Option.bind_some, if_neg (pn_nle n2 (by omega)), vc_hf hfu hN hm n1, Option.bind_some, hb]
        simp only [gz_jn, pn_1]
        rw [if_neg (show ¬ nI true.toNat = 0 by decide), pu_tI _ kN n2 (by decide), Option.bind_some]) (fun fuel q hp => by
    obtain ⟨x, N⟩ := q
    obtain ⟨rfl, w, hp⟩ := hp
    have w : pf_f (fun c => c = r) M N := w
    have kN : N.2.1 r = (20, 12) := by rw [w.2.1]; exact hr
    dsimp only
    rw [lp_X7_sizesOf_5]
    by_cases c : 30 < T
    · rw [if_pos (show (30 : Int32) < nI T from nI_lt (a := 30) c (by omega))]
    · have c2 : 12 ≤ sz_c V m (pv_nf V) T := by
        rcases t1 with q | q
        · exact absurd q c
        · exact q
      rw [if_neg (show ¬ (30 : Int32) < nI T from nI_nlt (a := 30) (by omega) (by omega)), pu_ln kN (by decide), Option.bind_some, if_pos (pn_le c2 (by have := sz_c_le V m (pv_nf V) T; omega))]) T 0 (0, M) fu (by omega) (by omega) ⟨rfl, pf_f.refl, fun i hi => absurd hi (Nat.not_lt_zero i)⟩
  refine ⟨q.2, ?_, e2, fun i hi => ?_⟩
  · unfold f_X7_sizesOf
    rw [vc_gd h, ← eT, ← e1]
    exact e4
  · have hk := sz_f_keep (V := V) (m := m) (n := pv_nf V) (v := T) (i := i) (by rw [eT]; exact hi) (31 - T)
    rw [show T + (31 - T) = 31 by omega] at hk
    rw [e3 i (by rw [eT]; exact hi), ← hk]
    rfl
theorem vm_h {fu : Nat} (hfu : 5000 ≤ fu) {mo k m v : Nat} {V : pv_V} {M : gz_M} (h : vy_m mo k V M) (hm : m < 3) (hv : v ≤ 30) (K : Int32 → Option (Int32 × gz_M)) : lp_X10_measures_19 K fu M mo (nI k) (nI m) (nI v) fu (0 : Int32) (0 : Int32) = K (nI (sz_h V m v (pv_nf V)).toNat) := by
  have o1 := (vm_ok h).1
  refine pl_fn (fun fuel i s => lp_X10_measures_19 K fu M mo (nI k) (nI m) (nI v) fuel s i) K (fun f => nI (sz_h V m v f).toNat) (pv_nf V) ?_ ?_ (fuel := fu) (by omega)
  · intro fuel i hi
    have fb := ((vm_ok h).2.2.2.2.2.1 i hi).1 m hm
    try dsimp only
    rw [lp_X10_measures_19, vm_nf fu h, Option.bind_some, if_neg (pn_nle hi (by omega)), vm_fp fu h hi (by omega), Option.bind_some]
    simp only [gz_jn, pn_1]
    show _ = lp_X10_measures_19 _ _ _ _ _ _ _ _ (nI (sz_h V m v i || decide (pv_F V (5 * i + m) = v)).toNat) _
    by_cases c : pv_F V (5 * i + m) = v
    · rw [if_pos (by rw [c]), nI_or1, decide_eq_true c, Bool.or_true]
      rfl
    · rw [if_neg (fun q => c ((nI_eq (by omega) (by omega)).mp q)), nI_or0, decide_eq_false c, Bool.or_false]
  · intro fuel
    try dsimp only
    rw [lp_X10_measures_19, vm_nf fu h, Option.bind_some, if_pos (pn_le (Nat.le_refl _) (by omega))]
theorem vm_ms {fu : Nat} (hfu : 5000 ≤ fu) {mo k r m : Nat} {V : pv_V} {M : gz_M} (h : vy_m mo k V M) (hm : m < 3) (hr : M.2.1 r = (20, 12)) (hd : r < mo + 20 ∨ mo + 37 ≤ r) : ∃ M', f_X10_measures fu M mo (nI k) (nI m) r = some (nI (sC V m), M') ∧ pf_f (fun c => c = r) M M' ∧ ∀ i, i < sC V m → M'.2.2.1 r i = nI (sS V m i) := by
  have o1 := (vm_ok h).1
  obtain ⟨q, ⟨e1, e2, e3⟩, e4⟩ := pl_up (σ := Int32 × gz_M) (fun fuel i q => lp_X10_measures_6 (fun x9 M10 => some (x9, M10)) fu mo (nI k) (nI m) r fuel q.1 i q.2) (fun q => some (q.1, q.2)) (fun v q => q.1 = nI (sz_c V m (pv_nf V) v) ∧ pf_f (fun c => c = r) M q.2 ∧ ∀ i, i < sz_c V m (pv_nf V) v → q.2.2.2.1 r i = nI (sz_f V m (pv_nf V) v i)) 31 (fun fuel v q hv hp => by
    obtain ⟨x, N⟩ := q
    obtain ⟨rfl, w, hp⟩ := hp
    have hp : ∀ i, i < sz_c V m (pv_nf V) v → N.2.2.1 r i = nI (sz_f V m (pv_nf V) v i) := hp
    have w : pf_f (fun c => c = r) M N := w
    have n1 : v ≤ 30 := by omega
    have hN : vy_m mo k V N := h.fr w (fun c q1 q2 e => by omega)
    have kN : N.2.1 r = (20, 12) := by rw [w.2.1]; exact hr
    cases hb : sz_h V m v (pv_nf V)
    · refine ⟨(nI (sz_c V m (pv_nf V) v), N), ⟨?_, w, fun i hi => ?_⟩, ?_⟩
      · show nI _ = nI (sz_c V m (pv_nf V) v + (sz_h V m v (pv_nf V)).toNat)
        rw [hb]; rfl
      · have hi' : i < sz_c V m (pv_nf V) v + (sz_h V m v (pv_nf V)).toNat := hi
        rw [hb] at hi'
        show N.2.2.1 r i = _
        rw [hp i hi', sz_f_s, if_neg (by rw [hb]; simp)]
      · dsimp only
        rw [lp_X10_measures_6, if_neg (show ¬ (30 : Int32) < nI v from nI_nlt (a := 30) n1 (by omega)), vm_h hfu hN hm n1, hb]
        simp only [gz_jn, pn_1]
        rw [if_pos (show nI false.toNat = 0 from rfl)]
    · have n2 : sz_c V m (pv_nf V) v < 12 := by
        have hl := sz_c_le V m (pv_nf V) (v + 1)
        rw [sz_c_s, hb] at hl
        have hl' : sz_c V m (pv_nf V) v + 1 ≤ pv_nf V := hl
        omega
      refine ⟨(nI (sz_c V m (pv_nf V) v + 1), gz_sI N r (sz_c V m (pv_nf V) v) (nI v)), ⟨?_, w.two rfl, fun i hi => ?_⟩, ?_⟩
      · show nI _ = nI (sz_c V m (pv_nf V) v + (sz_h V m v (pv_nf V)).toNat)
        rw [hb]; rfl
      · have hi' : i < sz_c V m (pv_nf V) v + (sz_h V m v (pv_nf V)).toNat := hi
        rw [hb] at hi'
        have hi2 : i < sz_c V m (pv_nf V) v + 1 := hi'
        show (gz_sI N r (sz_c V m (pv_nf V) v) (nI v)).2.2.1 r i = _
        rw [pu_sI_at, sz_f_s]
        by_cases e : i = sz_c V m (pv_nf V) v
        · rw [if_pos ⟨rfl, e⟩, if_pos ⟨hb, e⟩]
        · rw [if_neg (fun q => e q.2), if_neg (fun q => e q.2)]
          exact hp i (by omega)
      · dsimp only
        rw [lp_X10_measures_6, if_neg (show ¬ (30 : Int32) < nI v from nI_nlt (a := 30) n1 (by omega)), vm_h hfu hN hm n1, hb]
        simp only [gz_jn, pn_1]
        rw [if_neg (show ¬ nI true.toNat = 0 by decide), pu_tI _ kN n2 (by decide), Option.bind_some]) (fun fuel q hp => by
    obtain ⟨x, N⟩ := q
    dsimp only
    rw [lp_X10_measures_6, if_pos (show (30 : Int32) < nI 31 by decide)]) 31 0 (0, M) fu (by omega) (by omega) ⟨rfl, pf_f.refl, fun i hi => absurd hi (Nat.not_lt_zero i)⟩
  refine ⟨q.2, ?_, e2, e3⟩
  unfold f_X10_measures
  rw [vm_gd h]
  show _ = some (nI (sz_c V m (pv_nf V) 31), q.2)
  rw [← e1]
  exact e4
/-! corners -/
def sz_p (V : pv_V) : Nat → Nat
  | 0 => 1
  | m + 1 => sz_p V m * sC V m
theorem ly_k1 : ∀ m, m < 3 → (81, m, 82 + m) ∈ iv_RC ∧ iv_KC[82 + m]? = some (20, 12) := by decide +kernel
theorem lk_s {b m : Nat} {M : gz_M} (h : iv_L b M) (hm : m < 3) : gz_gR M 0 3 (b + 79) = some (b + 81) ∧ gz_aR M (b + 81) (nI m) = some (b + 82 + m) ∧ M.2.1 (b + 82 + m) = (20, 12) ∧ gz_gR M 0 5 (b + 79) = some (b + 89) ∧ M.2.1 (b + 89) = (20, 3) := by
  obtain ⟨q1, q2⟩ := ly_k1 m hm
  have e1 := h.2 _ _ _ q1
  have e2 := h.1 _ _ q2
  rw [← Nat.add_assoc] at e1 e2
  exact ⟨pu_gR (ci := 0) (h.1 79 _ rfl) (h.2 79 3 81 (by decide)), pu_aR (h.1 81 _ rfl) (by decide) hm (by decide) e1, e2, pu_gR (ci := 0) (h.1 79 _ rfl) (h.2 79 5 89 (by decide)), h.1 89 _ rfl⟩
def k_S (b c : Nat) : Prop := (b + 82 ≤ c ∧ c < b + 85) ∨ c = b + 89
theorem vc_ci {fu : Nat} (hfu : 5000 ≤ fu) {a b : Nat} {V : pv_V} {M : gz_M} (hL : iv_L b M) (h : vy_c a V M) (ha : a + 5 ≤ b + 61) : ∃ M', f_X0_countIn fu M (b + 79) a = some (nI (sz_p V 3), M') ∧ pf_f (k_S b) M M' ∧ ∀ m, m < 3 → M'.2.2.1 (b + 89) m = nI (sC V m) ∧ ∀ i, i < sC V m → M'.2.2.1 (b + 82 + m) i = nI (sS V m i) := by
  obtain ⟨q, ⟨e1, e2, e3⟩, e4⟩ := pl_up (σ := Int32 × gz_M) (fun fuel i q => lp_X0_countIn_4 (fun x12 M13 => some (x12, M13)) fu (b + 79) a fuel q.1 i q.2) (fun q => some (q.1, q.2)) (fun v q => q.1 = nI (sz_p V v) ∧ pf_f (k_S b) M q.2 ∧ ∀ m, m < v → q.2.2.2.1 (b + 89) m = nI (sC V m) ∧ ∀ i, i < sC V m → q.2.2.2.1 (b + 82 + m) i = nI (sS V m i)) 3 (fun fuel v q hv hp => by
    obtain ⟨x, N⟩ := q
    obtain ⟨rfl, w, hp⟩ := hp
    have hp : ∀ m, m < v → N.2.2.1 (b + 89) m = nI (sC V m) ∧ ∀ i, i < sC V m → N.2.2.1 (b + 82 + m) i = nI (sS V m i) := hp
    have w : pf_f (k_S b) M N := w
    have LN := hL.same w.2.1 w.2.2.2.1
    have hN : vy_c a V N := h.fr w (fun c q1 q2 e => by unfold k_S at e; omega)
    obtain ⟨l1, l2, l3, l4, l5⟩ := lk_s LN hv
    obtain ⟨N1, n1, n2, n3⟩ := vc_sz hfu hN hv l3 (by omega)
    have L1 := LN.same n2.2.1 n2.2.2.2.1
    obtain ⟨k1, k2, k3, k4, k5⟩ := lk_s L1 hv
    have k5' : (gz_sI N1 (b + 89) v (nI (sC V v))).2.1 (b + 89) = (20, 3) := k5
    have k4' := (lk_s (L1.same (M' := gz_sI N1 (b + 89) v (nI (sC V v))) rfl rfl) hv).2.2.2.1
    refine ⟨(nI (sz_p V (v + 1)), gz_sI N1 (b + 89) v (nI (sC V v))), ⟨rfl, ?_, fun m hm => ?_⟩, ?_⟩
    · exact (w.trans n2 (S := k_S b) (fun _ q => q) (fun c q => by unfold k_S; omega)).two (by unfold k_S; omega)
    · show (gz_sI N1 (b + 89) v (nI (sC V v))).2.2.1 (b + 89) m = _ ∧ ∀ i, i < sC V m → (gz_sI N1 (b + 89) v (nI (sC V v))).2.2.1 (b + 82 + m) i = _
      by_cases e : m = v
      · subst e
        refine ⟨pv_I9, fun i hi => ?_⟩
        rw [pv_I1 (by omega)]
        exact n3 i hi
      · refine ⟨?_, fun i hi => ?_⟩
        · rw [pv_I0 e, n2.2.2.2.2 _ (by omega)]
          exact (hp m (by omega)).1
        · rw [pv_I1 (by omega), n2.2.2.2.2 _ (by omega)]
          exact (hp m (by omega)).2 i hi
    · dsimp only
      rw [lp_X0_countIn_4, if_neg (show ¬ (3 : Int32) ≤ nI v from pn_nle (n := 3) hv (by omega)), l4, Option.bind_some, l1, Option.bind_some, l2, Option.bind_some, n1]
      show ((gz_tI N1 (b + 89) (nI v) (nI (sC V v))).bind fun M9 => (gz_gR M9 0 5 (b + 79)).bind fun x10 => (gz_aI M9 x10 (nI v)).bind fun x11 => lp_X0_countIn_4 (fun x12 M13 => some (x12, M13)) fu (b + 79) a fuel (nI (sz_p V v) * x11) (nI v + (1 : Int32)) M9) = _
      rw [pu_tI _ k5 hv (by decide), Option.bind_some, k4', Option.bind_some, pu_aI k5' hv (by decide), pv_I9, Option.bind_some, pk_mul, pn_1]
      rfl) (fun fuel q hp => by
    obtain ⟨x, N⟩ := q
    dsimp only
    rw [lp_X0_countIn_4, if_pos (show (3 : Int32) ≤ nI 3 by decide)]) 3 0 (1, M) fu (by omega) (by omega) ⟨rfl, pf_f.refl, fun m hm => absurd hm (Nat.not_lt_zero m)⟩
  refine ⟨q.2, ?_, e2, e3⟩
  unfold f_X0_countIn
  rw [pu_gd (ci := 0) (hL.1 79 _ rfl), ← e1]
  exact e4
theorem vm_cs {fu : Nat} (hfu : 5000 ≤ fu) {b k : Nat} {V : pv_V} {M : gz_M} (hO : iv_O (b + 110) M) (h : vy_m (b + 110) k V M) : ∃ M', lp_X10_corners_19 (fun x10 M11 => some (x10, M11)) fu (b + 110) (nI k) fu (1 : Int32) (0 : Int32) M = some (nI (sz_p V 3), M') ∧ pf_f (fun c => c = b + 147) M M' := by
  obtain ⟨q, ⟨e1, e2⟩, e4⟩ := pl_up (σ := Int32 × gz_M) (fun fuel i q => lp_X10_corners_19 (fun x12 M13 => some (x12, M13)) fu (b + 110) (nI k) fuel q.1 i q.2) (fun q => some (q.1, q.2)) (fun v q => q.1 = nI (sz_p V v) ∧ pf_f (fun c => c = b + 147) M q.2) 3 (fun fuel v q hv hp => by
    obtain ⟨x, N⟩ := q
    obtain ⟨rfl, w⟩ := hp
    have w : pf_f (fun c => c = b + 147) M N := w
    have ON := hO.same w.2.1 w.2.2.2.1
    have hN : vy_m (b + 110) k V N := h.fr w (fun c q1 q2 e => by omega)
    obtain ⟨N1, n1, n2, n3⟩ := vm_ms hfu hN hv (r := b + 110 + 37) (ON.1 37 _ rfl) (by omega)
    refine ⟨(nI (sz_p V (v + 1)), N1), ⟨rfl, w.trans n2 (fun _ q => q) (fun c q => by omega)⟩, ?_⟩
    dsimp only
    rw [lp_X10_corners_19, if_neg (show ¬ (3 : Int32) ≤ nI v from pn_nle (n := 3) hv (by omega)), lm_R ON 27 37 (by decide), Option.bind_some, n1]
    show lp_X10_corners_19 _ _ _ _ fuel (nI (sz_p V v) * nI (sC V v)) (nI v + (1 : Int32)) N1 = _
    rw [pk_mul, pn_1]
    rfl) (fun fuel q hp => by
    obtain ⟨x, N⟩ := q
    dsimp only
    rw [lp_X10_corners_19, if_pos (show (3 : Int32) ≤ nI 3 by decide)]) 3 0 (1, M) fu (by omega) (by omega) ⟨rfl, pf_f.refl⟩
  refine ⟨q.2, ?_, e2⟩
  rw [← e1]
  exact e4
theorem op_corners (b : Nat) {fu : Nat} (hfu : 5000 ≤ fu) : gz_op_corners (pi_I b) fu b (b + 110) := by
  intro M v  hI
  rcases pg_val hI v with ⟨k, V, rfl, hv⟩ | hz
  · have hok := hv.ok
    have o1 := hok.1
    have o2 := hok.2.1
    have op2 : 2 ^ pv_nl V ≤ 2 ^ 10 := Nat.pow_le_pow_right (by omega) o2
    have hk := hv.2.2.1
    obtain ⟨M1, a1, w1, a3⟩ := vc_ci hfu hv.1 hv.c (by omega)
    have hw1 : pf_w b M M1 := ⟨w1.1, w1.2.1, w1.2.2.1, w1.2.2.2.1, fun c q1 q2 => w1.2.2.2.2 c (by unfold k_S; omega)⟩
    have hI1 : pi_I b M1 := hI.scratch hw1 (w1.2.2.2.2 _ (by unfold k_S; omega))
    have hv1 := hv.same hw1
    obtain ⟨M2, t1, w2⟩ := vm_cs (b := b) hfu hv1.2.1 hv1.m
    have hw2 : pf_w b M1 M2 := ⟨w2.1, w2.2.1, w2.2.2.1, w2.2.2.2.1, fun c q1 q2 => w2.2.2.2.2 c (by omega)⟩
    refine ⟨nI (sz_p V 3), M1, M2, ?_, ?_, hI1.scratch hw2 (w2.2.2.2.2 _ (by omega))⟩
    · simp only [f_X9_corners, gz_jn, hv.gC, hv.vC fu, hv.fC fu, hv.lC fu, hv.sC fu, pu_within, pu_shelf, pu_count, Option.bind_some, pu_ii, pu_10, if_true, gz_b2, hv.p1, hv.p2, hv.p3, lc_R hv.1 9 79 (by decide), a1]
    · simp only [f_X10_corners, gz_jn, hv1.gM, hv1.vM fu, Option.bind_some, pu_10, t1]
  · obtain ⟨M1, M2, r1, r2, r3, hw⟩ := pu_rfw fu hI 0 (by decide) (-2) pu_k2
    refine ⟨-2, M1, M2, ?_, ?_, r3⟩
    · simp only [f_X9_corners, gz_jn, hz.gC, hz.vC fu, hz.fC fu, hz.lC fu, hz.sC fu, pu_within, pu_shelf, pu_count, Option.bind_some, pu_ii, pu_10, if_true, gz_b2, r1]
    · have hv' := hz.same hw
      simp only [f_X10_corners, gz_jn, hv'.gM, hv'.vM fu, hv'.fM fu, hv'.lM fu, hv'.sM fu, hv'.nM fu, pn_0_1, pn_0_2, pn_0_3, pn_0_4, pn_0_5, pn_0_7, pn_0_10, pn_0_40, pn_1_4, pn_1_6, pn_1_9, Option.bind_some, pu_ii, pu_10, if_true, gz_b2, r2]
