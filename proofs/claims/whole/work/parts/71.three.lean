/-! one number, three numbers, a part that may be there -/
def pn (T : Nat → Nat) (n lo hi : Nat) (t : tok) : Option (Nat × tok) := if t.1 = 2 ∧ lo ≤ tv T t ∧ tv T t ≤ hi then some (tv T t, nx T n t.2.2) else none
def p3 (T : Nat → Nat) (n hi : Nat) (t : tok) : Nat ⊕ (Nat × Nat × Nat × tok) := match pn T n 0 hi t with
  | none => .inl t.2.1
  | some (x0, t1) => match pn T n 0 hi t1 with
    | none => .inl t1.2.1
    | some (x1, t2) => match pn T n 0 hi t2 with
      | none => .inl t2.2.1
      | some (x2, t3) => .inr (x0, x1, x2, t3)
noncomputable def po (T : Nat → Nat) (n w lo hi d : Nat) (t : tok) : Nat ⊕ (Nat × tok) := @ite _ (wd T t w) (Classical.propDecidable _) (match pn T n lo hi (nx T n t.2.2) with
  | none => .inl (nx T n t.2.2).2.1
  | some (x, t') => .inr (x, t')) (.inr (d, t))
theorem pn_ok {T : Nat → Nat} {n lo hi : Nat} {t : tok} (ht : tk T n t) (hT : ∀ j, j < n → T j < 256) {x : Nat} {t' : tok} (h : pn T n lo hi t = some (x, t')) : lo ≤ x ∧ x ≤ hi ∧ tk T n t' ∧ t.2.2 ≤ t'.2.1 := by
  unfold pn at h
  split at h
  · rename_i q
    cases h
    have := nx_ok (T := T) (n := n) (e := t.2.2) ht.2.1 hT
    exact ⟨q.2.1, q.2.2, this.1, this.2⟩
  · cases h
theorem p3_ok {T : Nat → Nat} {n hi : Nat} {t : tok} (ht : tk T n t) (hT : ∀ j, j < n → T j < 256) : (∀ f, p3 T n hi t = .inl f → f ≤ n) ∧ ∀ x0 x1 x2 t', p3 T n hi t = .inr (x0, x1, x2, t') → x0 ≤ hi ∧ x1 ≤ hi ∧ x2 ≤ hi ∧ tk T n t' ∧ t.2.2 ≤ t'.2.1 := by
  unfold p3
  cases h0 : pn T n 0 hi t with
  | none => exact ⟨fun f e => by cases e; have := ht.1; have := ht.2.1; omega, fun _ _ _ _ e => by cases e⟩
  | some p =>
    obtain ⟨x0, t1⟩ := p
    obtain ⟨-, a1, a2, a3⟩ := pn_ok ht hT h0
    have b1 := a2.1
    have b2 := a2.2.1
    cases h1 : pn T n 0 hi t1 with
    | none => exact ⟨fun f e => by simp only [h1] at e; cases e; omega, fun _ _ _ _ e => by simp only [h1] at e; cases e⟩
    | some p =>
      obtain ⟨x1, t2⟩ := p
      obtain ⟨-, c1, c2, c3⟩ := pn_ok a2 hT h1
      have d1 := c2.1
      have d2 := c2.2.1
      cases h2 : pn T n 0 hi t2 with
      | none => exact ⟨fun f e => by simp only [h1, h2] at e; cases e; omega, fun _ _ _ _ e => by simp only [h1, h2] at e; cases e⟩
      | some p =>
        obtain ⟨x2, t3⟩ := p
        obtain ⟨-, g1, g2, g3⟩ := pn_ok c2 hT h2
        exact ⟨fun f e => (by simp only [h1, h2] at e; cases e), fun _ _ _ _ e => by simp only [h1, h2] at e; cases e; exact ⟨a1, c1, g1, g2, by omega⟩⟩
theorem po_ok {T : Nat → Nat} {n w lo hi d : Nat} {t : tok} (ht : tk T n t) (hT : ∀ j, j < n → T j < 256) (hd : lo ≤ d ∧ d ≤ hi) : (∀ f, po T n w lo hi d t = .inl f → f ≤ n) ∧ ∀ x t', po T n w lo hi d t = .inr (x, t') → lo ≤ x ∧ x ≤ hi ∧ tk T n t' ∧ t.2.1 ≤ t'.2.1 := by
  unfold po
  by_cases c : wd T t w
  · rw [if_pos c]
    obtain ⟨a1, a2⟩ := nx_ok (T := T) (n := n) (e := t.2.2) ht.2.1 hT
    have b1 := a1.1
    have b2 := a1.2.1
    have b3 := ht.1
    cases h : pn T n lo hi (nx T n t.2.2) with
    | none => exact ⟨fun f e => by cases e; omega, fun _ _ e => by cases e⟩
    | some p =>
      obtain ⟨x, t1⟩ := p
      obtain ⟨q1, q2, q3, q4⟩ := pn_ok a1 hT h
      exact ⟨fun f e => (by cases e), fun _ _ e => by cases e; exact ⟨q1, q2, q3, by omega⟩⟩
  · rw [if_neg c]
    exact ⟨fun f e => (by cases e), fun _ _ e => by cases e; exact ⟨hd.1, hd.2, ht, Nat.le_refl _⟩⟩
section THREE
variable {fu b n : Nat} {T : Nat → Nat} {C D : gz_M} {t : tok}
theorem rc_n (hfu : 5000 ≤ fu) (hL : iv_L b C) (hC : tC b T n C) (ht : tk T n t) (hr : rC b t C) (h4 : C.2.2.1 (b + 3) 4 = -1) {lo hi : Nat} (hlo : lo ≤ 1) (hlh : lo ≤ hi) (hhi : hi ≤ 99) : ∃ x C', f_X2_number fu C (b + 3) (nI lo) (nI hi) = some (nI x, C') ∧ lo ≤ x ∧ x ≤ hi ∧ pf_f (fun c => c = b + 3) C C' ∧ (pn T n lo hi t = none → C'.2.2.1 (b + 3) 4 = nI t.2.1) ∧ ∀ y t', pn T n lo hi t = some (y, t') → x = y ∧ rC b t' C' ∧ C'.2.2.1 (b + 3) 4 = -1 := by
  obtain ⟨g1, g2⟩ := rc_num hfu hL hC ht hr h4 hlo hhi
  unfold pn
  by_cases c : t.1 = 2 ∧ lo ≤ tv T t ∧ tv T t ≤ hi
  · obtain ⟨C', e1, e2, e3, e4⟩ := g1 c
    rw [if_pos c]
    exact ⟨tv T t, C', e1, c.2.1, c.2.2, e2, fun e => (by cases e), fun y t' e => by cases e; exact ⟨rfl, e3, e4⟩⟩
  · obtain ⟨C', e1, e2, e3⟩ := g2 c
    rw [if_neg c]
    exact ⟨lo, C', e1, Nat.le_refl _, hlh, e2, fun _ => e3, fun y t' e => by cases e⟩
theorem rc_ns {C' : gz_M} (hL : iv_L b C) (hC : tC b T n C) (w : pf_f (fun c => c = b + 3) C C') : iv_L b C' ∧ tC b T n C' := ⟨hL.same w.2.1 w.2.2.2.1, hC.same (w.2.2.2.2 _ (by omega)) (w.2.2.2.2 _ (by omega))⟩
theorem nI_n1 {f : Nat} (h : f ≤ 250) : ¬ nI f = -1 := pn_neg (by omega)
theorem rc_3 (hfu : 5000 ≤ fu) (hL : iv_L b C) (hC : tC b T n C) (ht : tk T n t) (hr : rC b t C) (h4 : C.2.2.1 (b + 3) 4 = -1) {hi : Nat} (hhi : hi ≤ 99) : ∃ x0 x1 x2 C1 C2 C3, f_X2_number fu C (b + 3) (nI 0) (nI hi) = some (nI x0, C1) ∧ f_X2_number fu C1 (b + 3) (nI 0) (nI hi) = some (nI x1, C2) ∧ f_X2_number fu C2 (b + 3) (nI 0) (nI hi) = some (nI x2, C3) ∧ x0 ≤ hi ∧ x1 ≤ hi ∧ x2 ≤ hi ∧ pf_f (fun c => c = b + 3) C C3 ∧ (∀ f, p3 T n hi t = .inl f → C3.2.2.1 (b + 3) 4 = nI f) ∧ ∀ y0 y1 y2 t', p3 T n hi t = .inr (y0, y1, y2, t') → x0 = y0 ∧ x1 = y1 ∧ x2 = y2 ∧ rC b t' C3 ∧ C3.2.2.1 (b + 3) 4 = -1 := by
  have hn := hC.1
  have hT := hC.2.1
  obtain ⟨x0, C1, a1, -, a2, a3, a4, a5⟩ := rc_n hfu hL hC ht hr h4 (lo := 0) (hi := hi) (by omega) (by omega) hhi
  obtain ⟨L1, K1⟩ := rc_ns hL hC a3
  unfold p3
  cases h0 : pn T n 0 hi t with
  | none =>
    have e1 := a4 h0
    have e1' : ¬ C1.2.2.1 (b + 3) 4 = -1 := by rw [e1]; exact nI_n1 (by have := ht.1; have := ht.2.1; omega)
    exact ⟨x0, 0, 0, C1, C1, C1, a1, rc_num0 fu L1 e1' _ _, rc_num0 fu L1 e1' _ _, a2, by omega, by omega, a3, fun f e => by cases e; exact e1, fun _ _ _ _ e => by cases e⟩
  | some p =>
    obtain ⟨z0, t1⟩ := p
    obtain ⟨rfl, r1, f1⟩ := a5 z0 t1 h0
    have k1 := (pn_ok ht hT h0).2.2.1
    obtain ⟨x1, C2, b1, -, b2, b3, b4, b5⟩ := rc_n hfu L1 K1 k1 r1 f1 (lo := 0) (hi := hi) (by omega) (by omega) hhi
    obtain ⟨L2, K2⟩ := rc_ns L1 K1 b3
    have w2 : pf_f (fun c => c = b + 3) C C2 := a3.trans b3 (fun _ q => q) (fun _ q => q)
    cases h1 : pn T n 0 hi t1 with
    | none =>
      have e1 := b4 h1
      have e1' : ¬ C2.2.2.1 (b + 3) 4 = -1 := by rw [e1]; exact nI_n1 (by have := k1.1; have := k1.2.1; omega)
      exact ⟨x0, x1, 0, C1, C2, C2, a1, b1, rc_num0 fu L2 e1' _ _, a2, b2, by omega, w2, fun f e => by simp only [h1] at e; cases e; exact e1, fun _ _ _ _ e => by simp only [h1] at e; cases e⟩
    | some p =>
      obtain ⟨z1, t2⟩ := p
      obtain ⟨rfl, r2, f2⟩ := b5 z1 t2 h1
      have k2 := (pn_ok k1 hT h1).2.2.1
      obtain ⟨x2, C3, d1, -, d2, d3, d4, d5⟩ := rc_n hfu L2 K2 k2 r2 f2 (lo := 0) (hi := hi) (by omega) (by omega) hhi
      have w3 : pf_f (fun c => c = b + 3) C C3 := w2.trans d3 (fun _ q => q) (fun _ q => q)
      cases h2 : pn T n 0 hi t2 with
      | none => exact ⟨x0, x1, x2, C1, C2, C3, a1, b1, d1, a2, b2, d2, w3, fun f e => by simp only [h1, h2] at e; cases e; exact d4 h2, fun _ _ _ _ e => by simp only [h1, h2] at e; cases e⟩
      | some p =>
        obtain ⟨z2, t3⟩ := p
        obtain ⟨rfl, r3, f3⟩ := d5 z2 t3 h2
        exact ⟨x0, x1, x2, C1, C2, C3, a1, b1, d1, a2, b2, d2, w3, fun f e => (by simp only [h1, h2] at e; cases e), fun _ _ _ _ e => by simp only [h1, h2] at e; cases e; exact ⟨rfl, rfl, rfl, r3, f3⟩⟩
theorem rc_ms1 {C1 : gz_M} {r m x hi f : Nat} (J : gz_M → Option gz_M) (hm : m < 3) (h : C.2.1 r = (20, 3)) (h1 : C1.2.1 r = (20, 3)) (hx : f_X2_number fu C (b + 3) (nI 0) (nI hi) = some (nI x, C1)) : lp_X2_readMeasures_2 J fu (b + 3) r (nI hi) (f + 1) (nI m) C = lp_X2_readMeasures_2 J fu (b + 3) r (nI hi) f (nI (m + 1)) (gz_sI C1 r m (nI x)) := by
  have hx' : f_X2_number fu C (b + 3) (0 : Int32) (nI hi) = some (nI x, C1) := hx
  rw [lp_X2_readMeasures_2, if_neg (show ¬ (3 : Int32) ≤ nI m from pn_nle (n := 3) hm (by omega)), pu_ln h (by decide), Option.bind_some, if_neg (pn_nle hm (by omega)), hx']
  simp only [gz_b2, Option.bind_some]
  rw [pu_tI _ h1 hm (by decide), Option.bind_some, pn_1]
theorem rc_ms (hfu : 5000 ≤ fu) (hL : iv_L b C) (hC : tC b T n C) (ht : tk T n t) (hr : rC b t C) (h4 : C.2.2.1 (b + 3) 4 = -1) {r hi : Nat} (hhi : hi ≤ 99) (hrow : C.2.1 r = (20, 3)) (hrb : b + 4 ≤ r) : ∃ C', f_X2_readMeasures fu C (b + 3) r (nI hi) = some C' ∧ pf_f (fun c => c = b + 3 ∨ c = r) C C' ∧ (∀ f, p3 T n hi t = .inl f → C'.2.2.1 (b + 3) 4 = nI f) ∧ ∀ y0 y1 y2 t', p3 T n hi t = .inr (y0, y1, y2, t') → C'.2.2.1 r 0 = nI y0 ∧ C'.2.2.1 r 1 = nI y1 ∧ C'.2.2.1 r 2 = nI y2 ∧ rC b t' C' ∧ C'.2.2.1 (b + 3) 4 = -1 := by
  obtain ⟨k1, k2, k3⟩ := lr_k hL
  have hn := hC.1
  have hT := hC.2.1
  have s3 : ∀ (M : gz_M) m v, (gz_sI M r m v).2.2.1 (b + 3) = M.2.2.1 (b + 3) := fun M m v => pv_I1 (by omega)
  have sr : ∀ (M : gz_M) m v (t : tok), rC b t M → rC b t (gz_sI M r m v) := fun M m v t h => by unfold rC; rw [s3]; exact h
  have sL : ∀ (M : gz_M) m v, iv_L b M → tC b T n M → iv_L b (gz_sI M r m v) ∧ tC b T n (gz_sI M r m v) := fun M m v h h' => ⟨h.same rfl rfl, h'.same (pv_I1 (by omega)) (pv_I1 (by omega))⟩
  obtain ⟨f, hf⟩ : ∃ f, fu = f + 1 + 1 + 1 + 1 := ⟨fu - 4, by omega⟩
  have hend : ∀ (x : Nat) (N : gz_M), lp_X2_readMeasures_2 (fun M7 => some M7) fu (b + 3) r (nI hi) (x + 1) (nI 3) N = some N := fun x N => by
    rw [lp_X2_readMeasures_2, if_pos (show (3 : Int32) ≤ nI 3 by decide)]
  have run : ∀ (x0 x1 x2 : Nat) (C1 C2 C3 : gz_M), C1.2.1 r = (20, 3) → C2.2.1 r = (20, 3) → C3.2.1 r = (20, 3) → f_X2_number fu C (b + 3) (nI 0) (nI hi) = some (nI x0, C1) → f_X2_number fu (gz_sI C1 r 0 (nI x0)) (b + 3) (nI 0) (nI hi) = some (nI x1, C2) → f_X2_number fu (gz_sI C2 r 1 (nI x1)) (b + 3) (nI 0) (nI hi) = some (nI x2, C3) → f_X2_readMeasures fu C (b + 3) r (nI hi) = some (gz_sI C3 r 2 (nI x2)) := by
    intro x0 x1 x2 C1 C2 C3 q1 q2 q3 e1 e2 e3
    unfold f_X2_readMeasures
    rw [pu_gd (ci := 2) k1]
    have g : ∀ F, F = f + 1 + 1 + 1 + 1 → lp_X2_readMeasures_2 (fun M7 => some M7) fu (b + 3) r (nI hi) F (0 : Int32) C = some (gz_sI C3 r 2 (nI x2)) := by
      rintro F rfl
      refine (rc_ms1 (m := 0) _ (by omega) hrow q1 e1).trans ?_
      rw [rc_ms1 (m := 0 + 1) _ (by omega) (show (gz_sI C1 r 0 (nI x0)).2.1 r = (20, 3) from q1) q2 e2, rc_ms1 (m := 0 + 1 + 1) _ (by omega) (show (gz_sI C2 r (0 + 1) (nI x1)).2.1 r = (20, 3) from q2) q3 e3]
      exact hend f _
    exact g fu hf
  obtain ⟨x0, C1, a1, -, a2, a3, a4, a5⟩ := rc_n hfu hL hC ht hr h4 (lo := 0) (hi := hi) (by omega) (by omega) hhi
  obtain ⟨L1, K1⟩ := rc_ns hL hC a3
  obtain ⟨L1', K1'⟩ := sL C1 0 (nI x0) L1 K1
  have q1 : C1.2.1 r = (20, 3) := by rw [a3.2.1]; exact hrow
  have w1 : pf_f (fun c => c = b + 3 ∨ c = r) C (gz_sI C1 r 0 (nI x0)) := (a3.trans pf_f.refl (S := fun c => c = b + 3 ∨ c = r) (fun _ q => Or.inl q) (fun _ (q : False) => q.elim)).two (Or.inr rfl)
  have bad : ∀ (N : gz_M) (f' : Nat), f' ≤ 250 → N.2.2.1 (b + 3) 4 = nI f' → ¬ N.2.2.1 (b + 3) 4 = -1 := fun N f' h1 h2 => by rw [h2]; exact nI_n1 h1
  unfold p3
  cases h0 : pn T n 0 hi t with
  | none =>
    have e1 := a4 h0
    have f1 : t.2.1 ≤ 250 := by have := ht.1; have := ht.2.1; omega
    have n1 : ¬ (gz_sI C1 r 0 (nI x0)).2.2.1 (b + 3) 4 = -1 := bad _ _ f1 (by rw [s3]; exact e1)
    have n2 : ¬ (gz_sI (gz_sI C1 r 0 (nI x0)) r 1 (nI 0)).2.2.1 (b + 3) 4 = -1 := bad _ _ f1 (by rw [s3, s3]; exact e1)
    refine ⟨_, run x0 0 0 C1 (gz_sI C1 r 0 (nI x0)) (gz_sI (gz_sI C1 r 0 (nI x0)) r 1 (nI 0)) q1 q1 q1 a1 (rc_num0 fu L1' n1 _ _) (rc_num0 fu (show iv_L b (gz_sI (gz_sI C1 r 0 (nI x0)) r 1 (nI 0)) from L1'.same (M' := gz_sI (gz_sI C1 r 0 (nI x0)) r 1 (nI 0)) rfl rfl) n2 _ _), (w1.two (Or.inr rfl)).two (Or.inr rfl), fun f e => ?_, fun _ _ _ _ e => by cases e⟩
    cases e
    rw [s3, s3, s3]; exact e1
  | some p =>
    obtain ⟨z0, t1⟩ := p
    obtain ⟨rfl, r1, f1⟩ := a5 z0 t1 h0
    have kk1 := (pn_ok ht hT h0).2.2.1
    obtain ⟨x1, C2, b1, -, b2, b3, b4, b5⟩ := rc_n hfu L1' K1' kk1 (sr _ _ _ _ r1) (by rw [s3]; exact f1) (lo := 0) (hi := hi) (by omega) (by omega) hhi
    obtain ⟨L2, K2⟩ := rc_ns L1' K1' b3
    obtain ⟨L2', K2'⟩ := sL C2 1 (nI x1) L2 K2
    have q2 : C2.2.1 r = (20, 3) := by rw [b3.2.1]; exact q1
    have w2 : pf_f (fun c => c = b + 3 ∨ c = r) C (gz_sI C2 r 1 (nI x1)) := (w1.trans b3 (S := fun c => c = b + 3 ∨ c = r) (fun _ q => q) (fun _ q => Or.inl q)).two (Or.inr rfl)
    cases h1 : pn T n 0 hi t1 with
    | none =>
      have e1 := b4 h1
      have f2 : t1.2.1 ≤ 250 := by have := kk1.1; have := kk1.2.1; omega
      have n1 : ¬ (gz_sI C2 r 1 (nI x1)).2.2.1 (b + 3) 4 = -1 := bad _ _ f2 (by rw [s3]; exact e1)
      refine ⟨_, run x0 x1 0 C1 C2 (gz_sI C2 r 1 (nI x1)) q1 q2 q2 a1 b1 (rc_num0 fu L2' n1 _ _), w2.two (Or.inr rfl), fun f e => ?_, fun _ _ _ _ e => by simp only [h1] at e; cases e⟩
      simp only [h1] at e
      cases e
      rw [s3, s3]; exact e1
    | some p =>
      obtain ⟨z1, t2⟩ := p
      obtain ⟨rfl, r2, f2⟩ := b5 z1 t2 h1
      have kk2 := (pn_ok kk1 hT h1).2.2.1
      obtain ⟨x2, C3, d1, -, d2, d3, d4, d5⟩ := rc_n hfu L2' K2' kk2 (sr _ _ _ _ r2) (by rw [s3]; exact f2) (lo := 0) (hi := hi) (by omega) (by omega) hhi
      have q3 : C3.2.1 r = (20, 3) := by rw [d3.2.1]; exact q2
      have w3 : pf_f (fun c => c = b + 3 ∨ c = r) C (gz_sI C3 r 2 (nI x2)) := (w2.trans d3 (S := fun c => c = b + 3 ∨ c = r) (fun _ q => q) (fun _ q => Or.inl q)).two (Or.inr rfl)
      cases h2 : pn T n 0 hi t2 with
      | none =>
        refine ⟨_, run x0 x1 x2 C1 C2 C3 q1 q2 q3 a1 b1 d1, w3, fun f e => ?_, fun _ _ _ _ e => by simp only [h1, h2] at e; cases e⟩
        simp only [h1, h2] at e
        cases e
        rw [s3]; exact d4 h2
      | some p =>
        obtain ⟨z2, t3⟩ := p
        obtain ⟨rfl, r3, f3⟩ := d5 z2 t3 h2
        refine ⟨_, run x0 x1 x2 C1 C2 C3 q1 q2 q3 a1 b1 d1, w3, fun f e => (by simp only [h1, h2] at e; cases e), fun _ _ _ _ e => ?_⟩
        simp only [h1, h2] at e
        cases e
        have c3 : C3.2.2.1 r = (gz_sI C2 r 1 (nI x1)).2.2.1 r := d3.2.2.2.2 r (by omega)
        have c2 : C2.2.2.1 r = (gz_sI C1 r 0 (nI x0)).2.2.1 r := b3.2.2.2.2 r (by omega)
        refine ⟨?_, ?_, pv_I9, sr _ _ _ _ r3, by rw [s3]; exact f3⟩
        · rw [pv_I0 (by omega), c3, pv_I0 (by omega), c2]; exact pv_I9
        · rw [pv_I0 (by omega), c3]; exact pv_I9
/-! three numbers: the reference -/
theorem rm_n (hfu : 5000 ≤ fu) (hO : iv_O (b + 110) D) (hD : tM b T n D) (ht : tk T n t) (hr : rM b T t D) {r i len lo hi : Nat} (hrow : D.2.1 r = (20, len)) (hi' : i < len) (hlen : len ≤ 1024) (hrb : r ≠ b + 110) (hrt : r ≠ b + 127) (hlo : lo ≤ 1) (hhi : hi ≤ 99) : (pn T n lo hi t = none → ∃ D', f_X10_number fu D (b + 110) r (nI i) (nI lo) (nI hi) = some (0, D') ∧ qM b (fun _ => False) D D' ∧ D'.2.2.1 (b + 110) 25 = nI t.2.1) ∧ ∀ y t', pn T n lo hi t = some (y, t') → ∃ D', f_X10_number fu D (b + 110) r (nI i) (nI lo) (nI hi) = some (1, D') ∧ qM b (fun c => c = r) D D' ∧ rM b T t' D' ∧ D'.2.2.1 r i = nI y ∧ ∀ j, j ≠ i → D'.2.2.1 r j = D.2.2.1 r j := by
  obtain ⟨g1, g2⟩ := rm_num hfu hO hD ht hr hrow hi' hlen hrb hrt hlo hhi
  unfold pn
  by_cases c : t.1 = 2 ∧ lo ≤ tv T t ∧ tv T t ≤ hi
  · rw [if_pos c]
    exact ⟨fun e => (by cases e), fun y t' e => by cases e; exact g1 c⟩
  · rw [if_neg c]
    exact ⟨fun _ => g2 c, fun y t' e => by cases e⟩
theorem rm_ns {D' : gz_M} {P : Nat → Prop} (hO : iv_O (b + 110) D) (hD : tM b T n D) (w : qM b P D D') (hp : ¬ P (b + 127)) : iv_O (b + 110) D' ∧ tM b T n D' := ⟨hO.same w.2.1 w.2.2.1, hD.same (w.2.2.2.2.2 9 (by omega)) (w.2.2.2.2.1 _ (by omega) hp)⟩
theorem rm_3 (hfu : 5000 ≤ fu) (hO : iv_O (b + 110) D) (hD : tM b T n D) (ht : tk T n t) (hr : rM b T t D) {r i len hi : Nat} (hrow : D.2.1 r = (20, len)) (hi' : i + 2 < len) (hlen : len ≤ 1024) (hrb : r ≠ b + 110) (hrt : r ≠ b + 127) (hhi : hi ≤ 99) : (∀ f, p3 T n hi t = .inl f → ∃ D', f_X10_three fu D (b + 110) r (nI i) (nI hi) = some (0, D') ∧ qM b (fun c => c = r) D D' ∧ D'.2.2.1 (b + 110) 25 = nI f) ∧ ∀ y0 y1 y2 t', p3 T n hi t = .inr (y0, y1, y2, t') → ∃ D', f_X10_three fu D (b + 110) r (nI i) (nI hi) = some (1, D') ∧ qM b (fun c => c = r) D D' ∧ rM b T t' D' ∧ D'.2.2.1 r i = nI y0 ∧ D'.2.2.1 r (i + 1) = nI y1 ∧ D'.2.2.1 r (i + 2) = nI y2 ∧ ∀ j, ¬ (i ≤ j ∧ j < i + 3) → D'.2.2.1 r j = D.2.2.1 r j := by
  have hT := hD.2.1
  have e2' : nI i + (2 : Int32) = nI (i + 2) := nI_add i 2
  have hrt' : ¬ (b + 127 = r) := fun e => hrt e.symm
  obtain ⟨a1, a2⟩ := rm_n hfu hO hD ht hr hrow (show i < len by omega) hlen hrb hrt (lo := 0) (hi := hi) (by omega) hhi
  unfold p3
  cases h0 : pn T n 0 hi t with
  | none =>
    obtain ⟨D1, b1, b2, b3⟩ := a1 h0
    have b1' : f_X10_number fu D (b + 110) r (nI i) (0 : Int32) (nI hi) = some (0, D1) := b1
    refine ⟨fun f e => ?_, fun _ _ _ _ e => by cases e⟩
    cases e
    refine ⟨D1, ?_, b2.trans qM.refl (fun _ q => q.elim) (fun _ (q : False) => q.elim), b3⟩
    unfold f_X10_three
    rw [hO.g, b1']
    rfl
  | some p =>
    obtain ⟨z0, t1⟩ := p
    obtain ⟨D1, b1, b2, b3, b4, b5⟩ := a2 z0 t1 h0
    have b1' : f_X10_number fu D (b + 110) r (nI i) (0 : Int32) (nI hi) = some (1, D1) := b1
    have kk1 := (pn_ok ht hT h0).2.2.1
    obtain ⟨O1, K1⟩ := rm_ns hO hD b2 hrt'
    have q1 : D1.2.1 r = (20, len) := by rw [b2.2.1]; exact hrow
    obtain ⟨c1, c2⟩ := rm_n hfu O1 K1 kk1 b3 q1 (i := i + 1) (by omega) hlen hrb hrt (lo := 0) (hi := hi) (by omega) hhi
    cases h1 : pn T n 0 hi t1 with
    | none =>
      obtain ⟨D2, d1, d2, d3⟩ := c1 h1
      have d1' : f_X10_number fu D1 (b + 110) r (nI (i + 1)) (0 : Int32) (nI hi) = some (0, D2) := d1
      refine ⟨fun f e => ?_, fun _ _ _ _ e => by simp only [h1] at e; cases e⟩
      simp only [h1] at e
      cases e
      refine ⟨D2, ?_, b2.trans d2 (fun _ q => q) (fun _ q => q.elim), d3⟩
      unfold f_X10_three
      rw [hO.g, b1']
      simp only [gz_jn, gz_b2, Option.bind_some, pu_10, pn_1, d1', if_true, pu_z0]
    | some p =>
      obtain ⟨z1, t2⟩ := p
      obtain ⟨D2, d1, d2, d3, d4, d5⟩ := c2 z1 t2 h1
      have d1' : f_X10_number fu D1 (b + 110) r (nI (i + 1)) (0 : Int32) (nI hi) = some (1, D2) := d1
      have kk2 := (pn_ok kk1 hT h1).2.2.1
      obtain ⟨O2, K2⟩ := rm_ns O1 K1 d2 hrt'
      have q2 : D2.2.1 r = (20, len) := by rw [d2.2.1]; exact q1
      have w2 : qM b (fun c => c = r) D D2 := b2.trans d2 (fun _ q => q) (fun _ q => q)
      obtain ⟨g1, g2⟩ := rm_n hfu O2 K2 kk2 d3 q2 (i := i + 2) (by omega) hlen hrb hrt (lo := 0) (hi := hi) (by omega) hhi
      cases h2 : pn T n 0 hi t2 with
      | none =>
        obtain ⟨D3, s1, s2, s3⟩ := g1 h2
        have s1' : f_X10_number fu D2 (b + 110) r (nI (i + 2)) (0 : Int32) (nI hi) = some (0, D3) := s1
        refine ⟨fun f e => ?_, fun _ _ _ _ e => by simp only [h1, h2] at e; cases e⟩
        simp only [h1, h2] at e
        cases e
        refine ⟨D3, ?_, w2.trans s2 (fun _ q => q) (fun _ q => q.elim), s3⟩
        unfold f_X10_three
        rw [hO.g, b1']
        simp only [gz_jn, gz_b2, Option.bind_some, pu_10, pn_1, d1', e2', s1', if_true, pu_z0]
      | some p =>
        obtain ⟨z2, t3⟩ := p
        obtain ⟨D3, s1, s2, s3, s4, s5⟩ := g2 z2 t3 h2
        have s1' : f_X10_number fu D2 (b + 110) r (nI (i + 2)) (0 : Int32) (nI hi) = some (1, D3) := s1
        refine ⟨fun f e => (by simp only [h1, h2] at e; cases e), fun _ _ _ _ e => ?_⟩
        simp only [h1, h2] at e
        cases e
        refine ⟨D3, ?_, w2.trans s2 (fun _ q => q) (fun _ q => q), s3, ?_, ?_, s4, fun j hj => ?_⟩
        · unfold f_X10_three
          rw [hO.g, b1']
          simp only [gz_jn, gz_b2, Option.bind_some, pu_10, pn_1, d1', e2', s1', if_true, pu_z1]
        · rw [s5 _ (by omega), d5 _ (by omega)]; exact b4
        · rw [s5 _ (by omega)]; exact d4
        · rw [s5 _ (by omega), d5 _ (by omega), b5 _ (by omega)]
end THREE
