/-! tokens: words and numbers -/
def tk (T : Nat → Nat) (n : Nat) (t : tok) : Prop := t.2.1 ≤ t.2.2 ∧ t.2.2 ≤ n ∧ t.1 ≤ 4 ∧ (t.1 ≠ 0 → t.2.1 < t.2.2) ∧ (t.1 = 2 → ∀ j, t.2.1 ≤ j → j < t.2.2 → 48 ≤ T j ∧ T j ≤ 57)
theorem nx_ok {T : Nat → Nat} {n e : Nat} (he : e ≤ n) (hT : ∀ j, j < n → T j < 256) : tk T n (nx T n e) ∧ e ≤ (nx T n e).2.1 := by
  obtain ⟨s1, s2, s3, s4⟩ := sk_r (fun j => T j == 32) (n - e) e
  have hsk : ∃ s, s = sk (fun j => T j == 32) (n - e) e := ⟨_, rfl⟩
  obtain ⟨s, hs⟩ := hsk
  have hnx : nx T n e = (kp T n s, s, if kp T n s = 1 ∨ kp T n s = 2 then sk (fun j => kd (T j) == kp T n s) (n - s) s else if kp T n s = 0 then s else s + 1) := by rw [hs]; rfl
  rw [← hs] at s1 s2
  have hk4 := kp_le (T := T) (n := n) hT s
  obtain ⟨z1, z2, z3, z4⟩ := sk_r (fun j => kd (T j) == kp T n s) (n - s) s
  rw [hnx]
  unfold tk
  dsimp only
  have hlt : kp T n s ≠ 0 → s < n := fun q => Classical.byContradiction (fun c => q (if_neg c))
  have hkd : s < n → kp T n s = kd (T s) := fun q => if_pos q
  refine ⟨⟨?_, ?_, hk4, fun q => ?_, fun q j j1 j2 => ?_⟩, s1⟩
  · split
    · exact z1
    · split <;> omega
  · split
    · omega
    · split
      · omega
      · have := hlt (by assumption)
        omega
  · have h1 := hlt q
    split
    · refine Nat.lt_of_not_le (fun c => ?_)
      have e1 : sk (fun j => kd (T j) == kp T n s) (n - s) s = s := by omega
      have := z4 (by omega)
      rw [e1] at this
      simp [hkd h1] at this
    · first
      | omega
      | (rw [if_neg q]; omega)
  · rw [if_pos (Or.inr q)] at j2
    have := z3 j j1 j2
    simp at this
    have hjn : j < n := by omega
    exact (kd_r _ (hT j hjn)).2.2.1 (by omega)
def nk (T : Nat → Nat) (lo hi : Nat) (t : tok) : Prop := t.1 = 2 ∧ lo ≤ dv T t.2.1 (t.2.2 - t.2.1) ∧ dv T t.2.1 (t.2.2 - t.2.1) ≤ hi
def tv (T : Nat → Nat) (t : tok) : Nat := dv T t.2.1 (t.2.2 - t.2.1)
def wd (T : Nat → Nat) (t : tok) (a : Nat) : Prop := t.1 = 1 ∧ t.2.2 - t.2.1 = gz_le a ∧ ∀ i, i < gz_le a → nI (T (t.2.1 + i)) = gz_by a i
theorem wl_le : ∀ a, a < 18 → gz_le a ≤ 5 ∧ 1 ≤ gz_le a := by decide +kernel
theorem wl_9 : ∀ a, a < 9 → gz_le (a + 9) = gz_le a ∧ ∀ i, i < gz_le a → gz_by (a + 9) i = gz_by a i := by decide +kernel
theorem wl_ne : ∀ a, a ∈ [3, 5, 6, 7, 8] → gz_by 0 0 ≠ gz_by a 0 := by decide +kernel
theorem wl_ne3 : ∀ a, a ∈ [5, 6, 7, 8] → gz_by 3 0 ≠ gz_by a 0 := by decide +kernel
theorem wd_9 {T : Nat → Nat} {t : tok} {a : Nat} (ha : a < 9) : wd T t (a + 9) ↔ wd T t a := by
  obtain ⟨h1, h2⟩ := wl_9 a ha
  unfold wd
  rw [h1]
  constructor
  · rintro ⟨q1, q2, q3⟩
    exact ⟨q1, q2, fun i hi => by rw [q3 i hi, h2 i hi]⟩
  · rintro ⟨q1, q2, q3⟩
    exact ⟨q1, q2, fun i hi => by rw [q3 i hi, h2 i hi]⟩
theorem wd_ne {T : Nat → Nat} {t : tok} {a c : Nat} (ha : a < 18) (hc : c < 18) (h : wd T t a) (hn : gz_by a 0 ≠ gz_by c 0) : ¬ wd T t c := fun q => hn (by
  have e1 := h.2.2 0 (by have := (wl_le a ha).2; omega)
  have e2 := q.2.2 0 (by have := (wl_le c hc).2; omega)
  rw [← e1, ← e2])
section NUM
variable {fu b n : Nat} {T : Nat → Nat} {C D : gz_M} {t : tok}
theorem gz_sl_e {a : Nat} (ha : a < 18) : gz_sl a = some (nI (gz_le a)) := if_pos ha
theorem gz_sc_e {a i : Nat} (ha : a < 18) (hi : i < gz_le a) : gz_sc a (nI i) = some (gz_by a i) := by
  have h5 := (wl_le a ha).1
  unfold gz_sc
  rw [if_pos ⟨ha, nI_in hi (by omega)⟩, nI_clamp (by omega)]
theorem rc_wd (hfu : 5000 ≤ fu) (hL : iv_L b C) (hC : tC b T n C) (ht : tk T n t) (hr : rC b t C) {a : Nat} (ha : a < 18) : (wd T t a → f_X2_isWord fu C (b + 3) a = some 1) ∧ (¬ wd T t a → f_X2_isWord fu C (b + 3) a = some 0) := by
  obtain ⟨k1, k2, k3⟩ := lr_k hL
  obtain ⟨h5, h51⟩ := wl_le a ha
  obtain ⟨r1, r2, r3⟩ := hr
  obtain ⟨t1, t2, t3, t4, t5⟩ := ht
  have hn := hC.1
  have key : t.2.2 - t.2.1 = gz_le a → ∀ d i fuel, i + d = gz_le a → d < fuel → (∀ j, j < i → nI (T (t.2.1 + j)) = gz_by a j) → ((∀ j, j < gz_le a → nI (T (t.2.1 + j)) = gz_by a j) → lp_X2_isWord_28 (some (1 : Int32)) fu C (b + 3) a fuel (nI i) = some 1) ∧ (¬ (∀ j, j < gz_le a → nI (T (t.2.1 + j)) = gz_by a j) → lp_X2_isWord_28 (some (1 : Int32)) fu C (b + 3) a fuel (nI i) = some 0) := by
    intro hlen d
    induction d with
    | zero =>
      intro i fuel e hf hb
      obtain ⟨f, rfl⟩ : ∃ f, fuel = f + 1 := ⟨fuel - 1, by omega⟩
      have e1 : lp_X2_isWord_28 (some (1 : Int32)) fu C (b + 3) a (f + 1) (nI i) = some 1 := by
        rw [lp_X2_isWord_28, gz_sl_e ha, Option.bind_some, if_pos (pn_le (by omega) (by omega))]
      exact ⟨fun _ => e1, fun q => absurd (fun j hj => hb j (by omega)) q⟩
    | succ d ih =>
      intro i fuel e hf hb
      obtain ⟨f, rfl⟩ : ∃ f, fuel = f + 1 := ⟨fuel - 1, by omega⟩
      have hi : i < gz_le a := by omega
      have ea := rc_at fu hL hC (p := t.2.1 + i) (by omega)
      rw [if_pos (by omega)] at ea
      have e1 : lp_X2_isWord_28 (some (1 : Int32)) fu C (b + 3) a (f + 1) (nI i) = if nI (T (t.2.1 + i)) = gz_by a i then lp_X2_isWord_28 (some (1 : Int32)) fu C (b + 3) a f (nI (i + 1)) else some 0 := by
        rw [lp_X2_isWord_28, gz_sl_e ha, Option.bind_some, if_neg (pn_nle hi (by omega)), k2, Option.bind_some, pu_gI (ci := 2) 2 k1, r2, Option.bind_some, nI_add, ea, Option.bind_some, gz_sc_e ha hi, Option.bind_some, pn_1]
        rfl
      rw [e1]
      by_cases c : nI (T (t.2.1 + i)) = gz_by a i
      · rw [if_pos c]
        refine ih (i + 1) f (by omega) (by omega) (fun j hj => ?_)
        by_cases q : j = i
        · rw [q]; exact c
        · exact hb j (by omega)
      · rw [if_neg c]
        exact ⟨fun q => absurd (q i hi) c, fun _ => rfl⟩
  have hm : gz_gd C 2 (b + 3) ((gz_gI C 2 1 (b + 3)).bind fun x1 => gz_jn (gz_z (0 : Int32) (some (0 : Int32))) fun j24 => if x1 = (1 : Int32) then (gz_gI C 2 3 (b + 3)).bind fun x2 => (gz_gI C 2 2 (b + 3)).bind fun x3 => (gz_sl a).bind fun x4 => if (x2 - x3) = x4 then lp_X2_isWord_28 (gz_z (1 : Int32) (some (1 : Int32))) fu C (b + 3) a fu (0 : Int32) else j24 else j24) = if t.1 = 1 then (if t.2.2 - t.2.1 = gz_le a then lp_X2_isWord_28 (some (1 : Int32)) fu C (b + 3) a fu (nI 0) else some 0) else some 0 := by
    rw [pu_gd (ci := 2) k1, pu_gI (ci := 2) 1 k1, r1, Option.bind_some]
    simp only [gz_jn, pu_z0, pu_z1, pu_gI (ci := 2) 3 k1, pu_gI (ci := 2) 2 k1, r2, r3, Option.bind_some, gz_sl_e ha, pk_sub t1]
    by_cases c1 : t.1 = 1
    · rw [if_pos (show nI t.1 = (1 : Int32) by rw [c1]; rfl), if_pos c1]
      by_cases c2 : t.2.2 - t.2.1 = gz_le a
      · rw [if_pos (by rw [c2]), if_pos c2]
        rfl
      · rw [if_neg (fun q => c2 ((nI_eq (by omega) (by omega)).mp q)), if_neg c2]
    · rw [if_neg (show ¬ nI t.1 = (1 : Int32) from fun q => c1 ((nI_eq (b := 1) (by omega) (by omega)).mp q)), if_neg c1]
  unfold f_X2_isWord
  rw [hm]
  refine ⟨fun q => ?_, fun q => ?_⟩
  · obtain ⟨q1, q2, q3⟩ := q
    rw [if_pos q1, if_pos q2]
    exact (key q2 (gz_le a) 0 fu (by omega) (by omega) (fun j hj => absurd hj (Nat.not_lt_zero j))).1 q3
  · by_cases c1 : t.1 = 1
    · rw [if_pos c1]
      by_cases c2 : t.2.2 - t.2.1 = gz_le a
      · rw [if_pos c2]
        exact (key c2 (gz_le a) 0 fu (by omega) (by omega) (fun j hj => absurd hj (Nat.not_lt_zero j))).2 (fun q3 => q ⟨c1, c2, q3⟩)
      · rw [if_neg c2]
    · rw [if_neg c1]
theorem rm_wd (hfu : 5000 ≤ fu) (hO : iv_O (b + 110) D) (hD : tM b T n D) (ht : tk T n t) (hr : rM b T t D) {a : Nat} (ha : a < 18) : (wd T t a → f_X10_isWord fu D (b + 110) a = some 1) ∧ (¬ wd T t a → f_X10_isWord fu D (b + 110) a = some 0) := by
  obtain ⟨k1, k2, k3⟩ := lm_k hO
  obtain ⟨h5, h51⟩ := wl_le a ha
  obtain ⟨r1, r2, r3, -⟩ := hr
  obtain ⟨t1, t2, t3, t4, t5⟩ := ht
  have hn := hD.1
  have key : t.2.2 - t.2.1 = gz_le a → ∀ d i fuel, i + d = gz_le a → d < fuel → (∀ j, j < i → nI (T (t.2.1 + j)) = gz_by a j) → ((∀ j, j < gz_le a → nI (T (t.2.1 + j)) = gz_by a j) → lp_X10_isWord_28 (some (1 : Int32)) D (b + 110) a fuel (nI i) = some 1) ∧ (¬ (∀ j, j < gz_le a → nI (T (t.2.1 + j)) = gz_by a j) → lp_X10_isWord_28 (some (1 : Int32)) D (b + 110) a fuel (nI i) = some 0) := by
    intro hlen d
    induction d with
    | zero =>
      intro i fuel e hf hb
      obtain ⟨f, rfl⟩ : ∃ f, fuel = f + 1 := ⟨fuel - 1, by omega⟩
      have e1 : lp_X10_isWord_28 (some (1 : Int32)) D (b + 110) a (f + 1) (nI i) = some 1 := by
        rw [lp_X10_isWord_28, gz_sl_e ha, Option.bind_some, if_pos (pn_le (by omega) (by omega))]
      exact ⟨fun _ => e1, fun q => absurd (fun j hj => hb j (by omega)) q⟩
    | succ d ih =>
      intro i fuel e hf hb
      obtain ⟨f, rfl⟩ : ∃ f, fuel = f + 1 := ⟨fuel - 1, by omega⟩
      have hi : i < gz_le a := by omega
      have ea := rm_a hO hD (p := t.2.1 + i) (by omega)
      have e1 : lp_X10_isWord_28 (some (1 : Int32)) D (b + 110) a (f + 1) (nI i) = if nI (T (t.2.1 + i)) = gz_by a i then lp_X10_isWord_28 (some (1 : Int32)) D (b + 110) a f (nI (i + 1)) else some 0 := by
        rw [lp_X10_isWord_28, gz_sl_e ha, Option.bind_some, if_neg (pn_nle hi (by omega)), k2, Option.bind_some, pu_gI (ci := 10) 23 k1, r2, Option.bind_some, nI_add, ea, Option.bind_some, gz_sc_e ha hi, Option.bind_some, pn_1]
        rfl
      rw [e1]
      by_cases c : nI (T (t.2.1 + i)) = gz_by a i
      · rw [if_pos c]
        refine ih (i + 1) f (by omega) (by omega) (fun j hj => ?_)
        by_cases q : j = i
        · rw [q]; exact c
        · exact hb j (by omega)
      · rw [if_neg c]
        exact ⟨fun q => absurd (q i hi) c, fun _ => rfl⟩
  have hm : f_X10_isWord fu D (b + 110) a = if t.1 = 1 then (if t.2.2 - t.2.1 = gz_le a then lp_X10_isWord_28 (some (1 : Int32)) D (b + 110) a fu (nI 0) else some 0) else some 0 := by
    unfold f_X10_isWord
    rw [hO.g, pu_gI (ci := 10) 22 k1, r1, Option.bind_some]
    simp only [gz_jn, pu_z0, pu_z1, pu_gI (ci := 10) 21 k1, pu_gI (ci := 10) 23 k1, r2, r3, Option.bind_some, gz_sl_e ha, pk_sub t1]
    by_cases c1 : t.1 = 1
    · rw [if_pos (show nI t.1 = (1 : Int32) by rw [c1]; rfl), if_pos c1]
      by_cases c2 : t.2.2 - t.2.1 = gz_le a
      · rw [if_pos (by rw [c2]), if_pos c2]
        rfl
      · rw [if_neg (fun q => c2 ((nI_eq (by omega) (by omega)).mp q)), if_neg c2]
    · rw [if_neg (show ¬ nI t.1 = (1 : Int32) from fun q => c1 ((nI_eq (b := 1) (by omega) (by omega)).mp q)), if_neg c1]
  rw [hm]
  refine ⟨fun q => ?_, fun q => ?_⟩
  · obtain ⟨q1, q2, q3⟩ := q
    rw [if_pos q1, if_pos q2]
    exact (key q2 (gz_le a) 0 fu (by omega) (by omega) (fun j hj => absurd hj (Nat.not_lt_zero j))).1 q3
  · by_cases c1 : t.1 = 1
    · rw [if_pos c1]
      by_cases c2 : t.2.2 - t.2.1 = gz_le a
      · rw [if_pos c2]
        exact (key c2 (gz_le a) 0 fu (by omega) (by omega) (fun j hj => absurd hj (Nat.not_lt_zero j))).2 (fun q3 => q ⟨c1, c2, q3⟩)
      · rw [if_neg c2]
    · rw [if_neg c1]
/-! faults, numbers -/
theorem rc_fail (fu : Nat) (hL : iv_L b C) (hr : rC b t C) (h4 : C.2.2.1 (b + 3) 4 = -1) : f_X2_fail fu C (b + 3) = some (gz_sI C (b + 3) 4 (nI t.2.1)) := by
  obtain ⟨k1, k2, k3⟩ := lr_k hL
  unfold f_X2_fail
  rw [pu_gd (ci := 2) k1, pu_gI (ci := 2) 4 k1, h4, Option.bind_some]
  simp only [gz_jn]
  rw [if_pos trivial, pu_gI (ci := 2) 2 k1, hr.2.1, Option.bind_some, pu_pI (ci := 2) 4 _ k1, Option.bind_some]
theorem rc_num0 (fu : Nat) (hL : iv_L b C) (h4 : ¬ C.2.2.1 (b + 3) 4 = -1) (x y : Int32) : f_X2_number fu C (b + 3) x y = some (x, C) := by
  obtain ⟨k1, k2, k3⟩ := lr_k hL
  unfold f_X2_number
  rw [pu_gd (ci := 2) k1, pu_gI (ci := 2) 4 k1, Option.bind_some, if_neg h4]
theorem rc_45 (hL : iv_L b C) (hC : tC b T n C) (hr : rC b t C) (ht : tk T n t) (h2 : t.1 = 2) {f p v : Nat} (j : Int32 → Option (Int32 × gz_M)) (h1 : t.2.1 ≤ p) (hp : p < t.2.2) : lp_X2_number_45 j fu C (b + 3) (f + 1) (nI v) (nI p) = lp_X2_number_45 j fu C (b + 3) f (nI (v * 10 + (T p - 48))) (nI (p + 1)) := by
  obtain ⟨k1, k2, k3⟩ := lr_k hL
  obtain ⟨t1, t2, t3, t4, t5⟩ := ht
  have hn := hC.1
  have hd := t5 h2 p h1 hp
  have ea := rc_at fu hL hC (p := p) (by omega)
  rw [if_pos (by omega)] at ea
  rw [lp_X2_number_45, pu_gI (ci := 2) 3 k1, hr.2.2, Option.bind_some, if_neg (pn_nle hp (by omega)), k2, Option.bind_some, ea, Option.bind_some, pn_1, show (10 : Int32) = nI 10 from rfl, show (48 : Int32) = nI 48 from rfl, pk_mul, pk_sub hd.1, nI_add]
theorem rc_45e (hL : iv_L b C) (hC : tC b T n C) (hr : rC b t C) (ht : tk T n t) {f p v : Nat} (j : Int32 → Option (Int32 × gz_M)) (hp : p = t.2.2) : lp_X2_number_45 j fu C (b + 3) (f + 1) (nI v) (nI p) = j (nI v) := by
  obtain ⟨k1, k2, k3⟩ := lr_k hL
  obtain ⟨t1, t2, t3, t4, t5⟩ := ht
  have hn := hC.1
  rw [lp_X2_number_45, pu_gI (ci := 2) 3 k1, hr.2.2, Option.bind_some, if_pos (pn_le (by omega) (by omega))]
theorem tv_le (ht : tk T n t) (h2 : t.1 = 2) : tv T t ≤ 100000 := by
  obtain ⟨t1, t2, t3, t4, t5⟩ := ht
  have h4 := t4 (by omega)
  unfold tv dv
  split
  · omega
  · split
    · have := t5 h2 t.2.1 (Nat.le_refl _) h4
      omega
    · split
      · have := t5 h2 t.2.1 (Nat.le_refl _) h4
        have := t5 h2 (t.2.1 + 1) (by omega) (by omega)
        omega
      · omega
theorem rc_num (hfu : 5000 ≤ fu) (hL : iv_L b C) (hC : tC b T n C) (ht : tk T n t) (hr : rC b t C) (h4 : C.2.2.1 (b + 3) 4 = -1) {lo hi : Nat} (hlo : lo ≤ 1) (hhi : hi ≤ 99) : (nk T lo hi t → ∃ C', f_X2_number fu C (b + 3) (nI lo) (nI hi) = some (nI (tv T t), C') ∧ pf_f (fun c => c = b + 3) C C' ∧ rC b (nx T n t.2.2) C' ∧ C'.2.2.1 (b + 3) 4 = -1) ∧ (¬ nk T lo hi t → ∃ C', f_X2_number fu C (b + 3) (nI lo) (nI hi) = some (nI lo, C') ∧ pf_f (fun c => c = b + 3) C C' ∧ C'.2.2.1 (b + 3) 4 = nI t.2.1) := by
  obtain ⟨k1, k2, k3⟩ := lr_k hL
  obtain ⟨t1, t2, t3, t4, t5⟩ := id ht
  have hn := hC.1
  have hfail := rc_fail fu hL hr h4
  obtain ⟨C', n1, n2, n3, n4⟩ := rc_next hfu hL hC t2 hr.2.2
  have bad : f_X2_number fu C (b + 3) (nI lo) (nI hi) = some (nI lo, gz_sI C (b + 3) 4 (nI t.2.1)) → ∃ C', f_X2_number fu C (b + 3) (nI lo) (nI hi) = some (nI lo, C') ∧ pf_f (fun c => c = b + 3) C C' ∧ C'.2.2.1 (b + 3) 4 = nI t.2.1 := fun e => ⟨_, e, pf_f.one rfl, pv_I9⟩
  have body : f_X2_number fu C (b + 3) (nI lo) (nI hi) = if t.1 = 2 then (if t.2.2 - t.2.1 ≤ 2 then (if tv T t < lo then some (nI lo, gz_sI C (b + 3) 4 (nI t.2.1)) else if tv T t ≤ hi then some (nI (tv T t), C') else some (nI lo, gz_sI C (b + 3) 4 (nI t.2.1))) else some (nI lo, gz_sI C (b + 3) 4 (nI t.2.1))) else some (nI lo, gz_sI C (b + 3) 4 (nI t.2.1)) := by
    unfold f_X2_number
    rw [pu_gd (ci := 2) k1, pu_gI (ci := 2) 4 k1, h4, Option.bind_some, if_pos rfl, pu_gI (ci := 2) 1 k1, hr.1, Option.bind_some]
    simp only [gz_jn, hfail, Option.bind_some, pu_gI (ci := 2) 3 k1, pu_gI (ci := 2) 2 k1, hr.2.1, hr.2.2, pk_sub t1]
    by_cases c1 : t.1 = 2
    · rw [if_pos (show nI t.1 = (2 : Int32) by rw [c1]; rfl), if_pos c1]
      have hlt := t4 (by omega)
      have htv := tv_le ht c1
      by_cases c2 : t.2.2 - t.2.1 ≤ 2
      · rw [if_pos (show nI (t.2.2 - t.2.1) ≤ (2 : Int32) from nI_le (b := 2) c2 (by omega)), if_pos c2]
        have hval : ∀ j : Int32 → Option (Int32 × gz_M), lp_X2_number_45 j fu C (b + 3) fu (0 : Int32) (nI t.2.1) = j (nI (tv T t)) := by
          intro j
          obtain ⟨f, hf⟩ : ∃ f, fu = f + 1 + 1 + 1 := ⟨fu - 3, by omega⟩
          have e0 : ∀ F, F = f + 1 + 1 + 1 → lp_X2_number_45 j fu C (b + 3) F (0 : Int32) (nI t.2.1) = j (nI (tv T t)) := by
            rintro F rfl
            refine (rc_45 hL hC hr ht c1 (v := 0) j (Nat.le_refl _) hlt).trans ?_
            by_cases c3 : t.2.2 - t.2.1 = 1
            · rw [rc_45e hL hC hr ht j (by omega)]
              unfold tv dv
              rw [if_neg (by omega), if_pos c3, Nat.zero_mul, Nat.zero_add]
            · rw [rc_45 hL hC hr ht c1 j (by omega) (by omega), rc_45e hL hC hr ht j (by omega)]
              unfold tv dv
              rw [if_neg (by omega), if_neg c3, if_pos (by omega), Nat.zero_mul, Nat.zero_add]
          exact e0 fu hf
        rw [hval]
        by_cases c3 : tv T t < lo
        · rw [if_pos (nI_lt c3 (by omega)), if_pos c3]
        · rw [if_neg (nI_nlt (by omega) (by omega)), if_neg c3]
          by_cases c4 : tv T t ≤ hi
          · rw [if_pos (nI_le c4 (by omega)), if_pos c4, n1, Option.bind_some]
          · rw [if_neg (nI_ge (by omega) (by omega)), if_neg c4]
      · rw [if_neg (show ¬ nI (t.2.2 - t.2.1) ≤ (2 : Int32) from nI_ge (a := 2) (by omega) (by omega)), if_neg c2]
    · rw [if_neg (show ¬ nI t.1 = (2 : Int32) from fun q => c1 ((nI_eq (b := 2) (by omega) (by omega)).mp q)), if_neg c1]
  refine ⟨fun q => ?_, fun q => bad ?_⟩
  · obtain ⟨q1, q2, q3⟩ := q
    have q2' : ¬ tv T t < lo := Nat.not_lt.mpr q2
    have q3' : tv T t ≤ hi := q3
    have q4 : t.2.2 - t.2.1 ≤ 2 := by
      refine Nat.le_of_not_lt (fun c => ?_)
      have : tv T t = 100000 := by
        unfold tv dv
        rw [if_neg (by omega), if_neg (by omega), if_neg (by omega)]
      omega
    rw [if_pos q1, if_pos q4, if_neg q2', if_pos q3'] at body
    exact ⟨C', body, n2, n3, n4.trans h4⟩
  · rw [body]
    by_cases c1 : t.1 = 2
    · rw [if_pos c1]
      by_cases c2 : t.2.2 - t.2.1 ≤ 2
      · rw [if_pos c2]
        by_cases c3 : tv T t < lo
        · rw [if_pos c3]
        · rw [if_neg c3]
          by_cases c4 : tv T t ≤ hi
          · exact absurd ⟨c1, Nat.le_of_not_lt c3, c4⟩ q
          · rw [if_neg c4]
      · rw [if_neg c2]
    · rw [if_neg c1]
theorem rm_wrong (fu : Nat) (hO : iv_O (b + 110) D) (hr : rM b T t D) : f_X10_wrong fu D (b + 110) = some (0, gz_sI D (b + 110) 25 (nI t.2.1)) := by
  obtain ⟨k1, k2, k3⟩ := lm_k hO
  unfold f_X10_wrong
  rw [hO.g, pu_gI (ci := 10) 23 k1, hr.2.1, Option.bind_some, pu_pI (ci := 10) 25 _ k1, Option.bind_some, pu_z0]
theorem rm_num (hfu : 5000 ≤ fu) (hO : iv_O (b + 110) D) (hD : tM b T n D) (ht : tk T n t) (hr : rM b T t D) {r i len lo hi : Nat} (hrow : D.2.1 r = (20, len)) (hi' : i < len) (hlen : len ≤ 1024) (hrb : r ≠ b + 110) (hrt : r ≠ b + 127) (hlo : lo ≤ 1) (hhi : hi ≤ 99) : (nk T lo hi t → ∃ D', f_X10_number fu D (b + 110) r (nI i) (nI lo) (nI hi) = some (1, D') ∧ qM b (fun c => c = r) D D' ∧ rM b T (nx T n t.2.2) D' ∧ D'.2.2.1 r i = nI (tv T t) ∧ ∀ j, j ≠ i → D'.2.2.1 r j = D.2.2.1 r j) ∧ (¬ nk T lo hi t → ∃ D', f_X10_number fu D (b + 110) r (nI i) (nI lo) (nI hi) = some (0, D') ∧ qM b (fun _ => False) D D' ∧ D'.2.2.1 (b + 110) 25 = nI t.2.1) := by
  obtain ⟨k1, k2, k3⟩ := lm_k hO
  obtain ⟨t1, t2, t3, t4, t5⟩ := id ht
  obtain ⟨D', n1, n2, n3⟩ := rm_look hfu (D := gz_sI D r i (nI (tv T t))) (hO.same rfl rfl) (hD.same (by rw [pv_I1 (fun e => hrb e.symm)]) (pv_I1 (fun e => hrt e.symm))) t2 (by rw [pv_I1 (fun e => hrb e.symm)]; exact hr.2.2.1)
  have body : f_X10_number fu D (b + 110) r (nI i) (nI lo) (nI hi) = if t.1 = 2 then (if lo ≤ tv T t ∧ tv T t ≤ hi then some (1, D') else some (0, gz_sI D (b + 110) 25 (nI t.2.1))) else some (0, gz_sI D (b + 110) 25 (nI t.2.1)) := by
    unfold f_X10_number
    rw [hO.g, pu_gI (ci := 10) 22 k1, hr.1, Option.bind_some]
    simp only [gz_jn, rm_wrong fu hO hr, gz_b2, Option.bind_some, pu_z0]
    by_cases c1 : t.1 = 2
    · have htv := tv_le ht c1
      have hl : D.2.2.2.1 (b + 110) 24 = lN (tv T t) := hr.2.2.2 c1
      rw [if_pos (show nI t.1 = (2 : Int32) by rw [c1]; rfl), if_pos c1, pu_gL (ci := 10) 24 k1, hl]
      simp only [Option.bind_some, nI_l (show lo < 2 ^ 31 by omega), nI_l (show hi < 2 ^ 31 by omega), pu_in64, pu_ii, lN_le (show lo < 2 ^ 31 by omega) (show tv T t < 2 ^ 31 by omega), lN_le (show tv T t < 2 ^ 31 by omega) (show hi < 2 ^ 31 by omega), lN_i]
      rw [pu_tI _ hrow hi' (by omega), Option.bind_some, n1, Option.bind_some, pu_z1]
    · rw [if_neg (show ¬ nI t.1 = (2 : Int32) from fun q => c1 ((nI_eq (b := 2) (by omega) (by omega)).mp q)), if_neg c1]
  refine ⟨fun q => ?_, fun q => ?_⟩
  · obtain ⟨q1, q2, q3⟩ := q
    have q4 : lo ≤ tv T t ∧ tv T t ≤ hi := ⟨q2, q3⟩
    rw [if_pos q1, if_pos q4] at body
    refine ⟨D', body, ((qM.refl (P := fun c => c = r)).row i _ hrb rfl).trans n2 (fun _ q => q) (fun _ q => q.elim), n3, ?_, fun j hj => ?_⟩
    · rw [n2.2.2.2.2.1 r hrb (fun q => q)]
      exact pv_I9
    · rw [n2.2.2.2.2.1 r hrb (fun q => q), pv_I0 hj]
  · refine ⟨gz_sI D (b + 110) 25 (nI t.2.1), ?_, qM.refl.sI 25 _ (by omega), pv_I9⟩
    rw [body]
    by_cases c1 : t.1 = 2
    · rw [if_pos c1]
      by_cases c2 : lo ≤ tv T t ∧ tv T t ≤ hi
      · exact absurd ⟨c1, c2.1, c2.2⟩ q
      · rw [if_neg c2]
    · rw [if_neg c1]
end NUM
