/-! from laws/COUNTS and laws/BITS (pasted) -/
def fb_sm (f : Nat → Nat) : Nat → Nat
  | 0 => 0
  | n + 1 => fb_sm f n + f n
theorem fb_sm_succ (f : Nat → Nat) (n : Nat) : fb_sm f (n + 1) = fb_sm f n + f n := rfl
theorem fb_sm_cong {f g : Nat → Nat} : ∀ {n : Nat}, (∀ k, k < n → f k = g k) → fb_sm f n = fb_sm g n
  | 0, _ => rfl
  | n + 1, h => by rw [fb_sm_succ, fb_sm_succ, fb_sm_cong (fun k hk => h k (by omega)), h n (by omega)]
theorem fb_sm_out (f : Nat → Nat) (v : Nat) {i n : Nat} (h : n ≤ i) : fb_sm (fun k => if k = i then v else f k) n = fb_sm f n :=
  fb_sm_cong fun k hk => if_neg (by omega)
theorem fb_sm_upd (f : Nat → Nat) (v : Nat) {i : Nat} : ∀ {n : Nat}, i < n → fb_sm (fun k => if k = i then v else f k) n + f i = fb_sm f n + v
  | 0, h => absurd h (Nat.not_lt_zero i)
  | n + 1, h => by
    rw [fb_sm_succ, fb_sm_succ]
    rcases Nat.lt_or_ge i n with q | q
    · have := fb_sm_upd f v q
      have e : (if n = i then v else f n) = f n := if_neg (by omega)
      rw [e]
      omega
    · have e : i = n := by omega
      subst e
      rw [fb_sm_out f v (Nat.le_refl _)]
      simp only [if_true]
      omega
theorem fb_sm_add (f g : Nat → Nat) : ∀ n, fb_sm (fun k => f k + g k) n = fb_sm f n + fb_sm g n
  | 0 => rfl
  | n + 1 => by
    have h := fb_sm_add f g n
    rw [fb_sm_succ, fb_sm_succ, fb_sm_succ, h]
    omega
theorem fb_sm_le {f g : Nat → Nat} : ∀ {n : Nat}, (∀ k, k < n → f k ≤ g k) → fb_sm f n ≤ fb_sm g n
  | 0, _ => Nat.le_refl _
  | n + 1, h => by
    have h1 := fb_sm_le (n := n) (f := f) (g := g) (fun k hk => h k (by omega))
    have h2 := h n (by omega)
    rw [fb_sm_succ, fb_sm_succ]
    omega
theorem fb_sm_const (c : Nat) : ∀ n, fb_sm (fun _ => c) n = n * c
  | 0 => by rw [Nat.zero_mul]; rfl
  | n + 1 => by rw [fb_sm_succ, fb_sm_const c n, Nat.succ_mul]
theorem fb_sm_bound {f : Nat → Nat} {c n : Nat} (h : ∀ k, k < n → f k ≤ c) : fb_sm f n ≤ n * c := by
  rw [← fb_sm_const c n]
  exact fb_sm_le h
theorem fb_sm_mono (f : Nat → Nat) (m : Nat) : ∀ n, fb_sm f m ≤ fb_sm f (m + n)
  | 0 => Nat.le_refl _
  | n + 1 => by
    have h := fb_sm_mono f m n
    show fb_sm f m ≤ fb_sm f (m + n + 1)
    rw [fb_sm_succ]
    omega
theorem fb_sm_part (f : Nat → Nat) {i n : Nat} (h : i < n) : fb_sm f i + f i ≤ fb_sm f n := by
  have := fb_sm_mono f (i + 1) (n - (i + 1))
  rw [fb_sm_succ, show i + 1 + (n - (i + 1)) = n by omega] at this
  exact this
theorem fb_sm_split (f : Nat → Nat) (m : Nat) : ∀ n, fb_sm f (m + n) = fb_sm f m + fb_sm (fun k => f (m + k)) n
  | 0 => rfl
  | n + 1 => by
    have h := fb_sm_split f m n
    show fb_sm f (m + n + 1) = _
    rw [fb_sm_succ, fb_sm_succ, h, Nat.add_assoc]
theorem fb_sm_zero {f : Nat → Nat} {n : Nat} (h : fb_sm f n = 0) : ∀ k, k < n → f k = 0 := fun k hk => by
  have := fb_sm_part f hk
  omega
theorem fb_bit_nat (n j : Nat) : n &&& 2 ^ j = 0 ↔ n.testBit j = false := by
  constructor
  · intro h
    have h1 : (n &&& 2 ^ j).testBit j = false := by rw [h]; simp
    rw [Nat.testBit_and] at h1
    simpa using h1
  · intro h
    apply Nat.eq_of_testBit_eq
    intro i
    rw [Nat.testBit_and]
    by_cases hi : j = i
    · subst hi; simp [h]
    · first | (simp [Nat.testBit_two_pow, hi]; done) | (simp [Nat.testBit_two_pow_of_ne hi]; done)
theorem nx_and (a b : Nat) : nI a &&& nI b = nI (a &&& b) := by
  apply Int32.toBitVec_inj.1
  show BitVec.ofNat 32 a &&& BitVec.ofNat 32 b = BitVec.ofNat 32 (a &&& b)
  apply BitVec.eq_of_getLsbD_eq
  intro i hi
  simp [hi]
theorem s_l : ∀ n, n < 32 → ((nI n &&& 31).toBitVec.smod 32).toNat = n := by decide +kernel
theorem s_u : ∀ n, n < 32 → (((nI n).toUInt32 &&& Int32.toUInt32 31).toBitVec % 32).toNat = n := by decide +kernel
/-! loops -/
theorem pl_up {σ β : Type} (lp : Nat → Int32 → σ → Option β) (cont : σ → Option β) (P : Nat → σ → Prop) (n : Nat) (hs : ∀ fuel i s, i < n → P i s → ∃ s', P (i + 1) s' ∧ lp (fuel + 1) (nI i) s = lp fuel (nI (i + 1)) s') (he : ∀ fuel s, P n s → lp (fuel + 1) (nI n) s = cont s) : ∀ d i s fuel, i + d = n → d < fuel → P i s → ∃ s', P n s' ∧ lp fuel (nI i) s = cont s'
  | 0, i, s, fuel, h, hf, hp => by
    obtain ⟨f, rfl⟩ : ∃ f, fuel = f + 1 := ⟨fuel - 1, by omega⟩
    obtain rfl : i = n := by omega
    exact ⟨s, hp, he f s hp⟩
  | d + 1, i, s, fuel, h, hf, hp => by
    obtain ⟨f, rfl⟩ : ∃ f, fuel = f + 1 := ⟨fuel - 1, by omega⟩
    obtain ⟨s', h1, h2⟩ := hs f i s (by omega) hp
    obtain ⟨s2, h3, h4⟩ := pl_up lp cont P n hs he d (i + 1) s' f (by omega) (by omega) h1
    exact ⟨s2, h3, h2.trans h4⟩
/-- the same, when the state after i rounds is told by a function -/
theorem pl_fn {σ β : Type} (lp : Nat → Int32 → σ → Option β) (cont : σ → Option β) (S : Nat → σ) (n : Nat) (hs : ∀ fuel i, i < n → lp (fuel + 1) (nI i) (S i) = lp fuel (nI (i + 1)) (S (i + 1))) (he : ∀ fuel, lp (fuel + 1) (nI n) (S n) = cont (S n)) {fuel : Nat} (hf : n < fuel) : lp fuel (nI 0) (S 0) = cont (S n) := by
  obtain ⟨s', h1, h2⟩ := pl_up lp cont (fun i s => s = S i) n (fun f i s hi hp => ⟨S (i + 1), rfl, by rw [hp]; exact hs f i hi⟩) (fun f s hp => by rw [hp]; exact he f) n 0 (S 0) fuel (by omega) hf rfl
  rw [h2, h1]
/-- a loop that may stop at round i with the answer Q i: it stops at the first i with p i -/
theorem pl_ex {σ β : Type} (lp : Nat → Int32 → σ → Option β) (R : Option β) (S : Nat → σ) (n : Nat) (hs : ∀ fuel i, i < n → lp (fuel + 1) (nI i) (S i) = lp fuel (nI (i + 1)) (S (i + 1)) ∨ lp (fuel + 1) (nI i) (S i) = R) (i : Nat) (hi : i < n) (hR : ∀ fuel, lp (fuel + 1) (nI i) (S i) = R) (hn : ∀ fuel j, j < i → lp (fuel + 1) (nI j) (S j) = lp fuel (nI (j + 1)) (S (j + 1))) : ∀ d j fuel, j + d = i → d < fuel → lp fuel (nI j) (S j) = R
  | 0, j, fuel, h, hf => by
    obtain ⟨f, rfl⟩ : ∃ f, fuel = f + 1 := ⟨fuel - 1, by omega⟩
    obtain rfl : j = i := by omega
    exact hR f
  | d + 1, j, fuel, h, hf => by
    obtain ⟨f, rfl⟩ : ∃ f, fuel = f + 1 := ⟨fuel - 1, by omega⟩
    rw [hn f j (by omega)]
    exact pl_ex lp R S n hs i hi hR hn d (j + 1) f (by omega) (by omega)
/-- two loops, side by side, that stop together -/
theorem pl_two {σ τ β γ : Type} (lp : Nat → Int32 → σ → Option β) (lq : Nat → Int32 → τ → Option γ) (Z : Option β → Option γ → Prop) (P : Nat → σ → τ → Prop) (n : Nat) (hs : ∀ f g i s t, i < n → P i s t → Z (lp (f + 1) (nI i) s) (lq (g + 1) (nI i) t) ∨ ∃ s' t', P (i + 1) s' t' ∧ lp (f + 1) (nI i) s = lp f (nI (i + 1)) s' ∧ lq (g + 1) (nI i) t = lq g (nI (i + 1)) t') (he : ∀ f g s t, P n s t → Z (lp (f + 1) (nI n) s) (lq (g + 1) (nI n) t)) : ∀ d i s t f g, i + d = n → d < f → d < g → P i s t → Z (lp f (nI i) s) (lq g (nI i) t)
  | 0, i, s, t, f, g, h, hf, hg, hp => by
    obtain ⟨f, rfl⟩ : ∃ f', f = f' + 1 := ⟨f - 1, by omega⟩
    obtain ⟨g, rfl⟩ : ∃ g', g = g' + 1 := ⟨g - 1, by omega⟩
    obtain rfl : i = n := by omega
    exact he f g s t hp
  | d + 1, i, s, t, f, g, h, hf, hg, hp => by
    obtain ⟨f, rfl⟩ : ∃ f', f = f' + 1 := ⟨f - 1, by omega⟩
    obtain ⟨g, rfl⟩ : ∃ g', g = g' + 1 := ⟨g - 1, by omega⟩
    rcases hs f g i s t (by omega) hp with h1 | ⟨s', t', h1, h2, h3⟩
    · exact h1
    · rw [h2, h3]
      exact pl_two lp lq Z P n hs he d (i + 1) s' t' f g (by omega) (by omega) (by omega) h1
/-! numbers -/
theorem pn_ltsub {s o g : Nat} (hs : s < 2 ^ 30) (ho : o < 2 ^ 30) (hg : g < 2 ^ 30) : nI s < nI o - nI g ↔ s + g < o := by
  rw [fa_lt, pk_sub_toInt ho hg, nI_toInt (by omega)]
  omega
theorem pn_neg {n : Nat} (h : n < 2 ^ 31) : ¬ nI n = -1 := by
  intro e
  have := nI_toInt h
  rw [e] at this
  have e2 : (-1 : Int32).toInt = -1 := by decide
  omega
theorem pn_mx {n : Nat} (h : n < 2 ^ 30) : ¬ nI n = 2147483647 ∧ nI n < 2147483647 := by
  have e2 : (2147483647 : Int32).toInt = 2147483647 := by decide
  have e1 := nI_toInt (n := n) (by omega)
  refine ⟨fun e => ?_, ?_⟩
  · rw [e, e2] at e1; omega
  · rw [fa_lt, e1, e2]; omega
theorem pn_lt {v : Int32} {n : Nat} (hn : n < 2 ^ 30) : (0 ≤ v ∧ v ≤ nI n - 1) ↔ ∃ k, k < n ∧ v = nI k := by
  have e : (nI n - 1).toInt = (n : Int) - 1 := by
    have := pk_sub_toInt (a := n) (b := 1) hn (by omega)
    exact this
  constructor
  · rintro ⟨h1, h2⟩
    obtain ⟨j, hj, rfl⟩ := nI_of (Int32.not_lt.mpr h1)
    rw [fa_le, e, nI_toInt hj] at h2
    exact ⟨j, by omega, rfl⟩
  · rintro ⟨k, hk, rfl⟩
    refine ⟨nI_pos' (by omega), ?_⟩
    rw [fa_le, e, nI_toInt (by omega)]
    omega
theorem pn_shl {n : Nat} (h : n < 31) : (1 : Int32) <<< (nI n &&& 31) = nI (2 ^ n) := by
  have := pk_shlN (n := 1) (nI n &&& 31) n (s_l n (by omega)) (by rw [Nat.one_mul]; exact Nat.pow_lt_pow_right (by omega) (by omega))
  rw [Nat.one_mul] at this
  exact this
theorem pn_and {s l : Nat} (hs : s < 2 ^ 30) (hl : l < 31) : (nI s &&& ((1 : Int32) <<< (nI l &&& 31))) = 0 ↔ s.testBit l = false := by
  rw [pn_shl hl, nx_and, ← fb_bit_nat, ← nI_0]
  have : s &&& 2 ^ l ≤ s := Nat.and_le_left
  exact nI_eq (by omega) (by omega)
theorem pn_bv {s l : Nat} (hs : s < 2 ^ 30) (hl : l < 31) : ((nI s >>> (nI l &&& 31)) &&& (1 : Int32)) = nI (s.testBit l).toNat := by
  rw [pk_shrN (by omega) _ l (s_l l (by omega)), pk_andN (n := s / 2 ^ l) (Nat.lt_of_le_of_lt (Nat.div_le_self _ _) (by omega)) 1 rfl, Nat.testBit_eq_decide_div_mod_eq]
  have h2 : s / 2 ^ l % 2 < 2 := Nat.mod_lt _ (by omega)
  generalize e : s / 2 ^ l % 2 = z at h2
  have : z = 0 ∨ z = 1 := by omega
  rcases this with rfl | rfl <;> rfl
theorem pn_bit {s l : Nat} (hs : s < 2 ^ 30) (hl : l < 31) : ((nI s >>> (nI l &&& 31)) &&& (1 : Int32)) = 0 ↔ s.testBit l = false := by
  rw [pn_bv hs hl]
  cases s.testBit l
  · simp [nI_0]
  · simp; decide
theorem pn_nle {i n : Nat} (h : i < n) (hn : n < 2 ^ 31) : ¬ nI n ≤ nI i := nI_ge h hn
theorem pn_le {i n : Nat} (h : n ≤ i) (hi : i < 2 ^ 31) : nI n ≤ nI i := nI_le h hi
theorem pn_1 (a : Nat) : nI a + (1 : Int32) = nI (a + 1) := nI_1 a
