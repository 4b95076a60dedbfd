/-! from laws/BITS (pasted) -/
def bt (x : Int32) (i : Nat) : Bool := x.toBitVec.getLsbD i
theorem b_ext {x y : Int32} (h : ∀ i, i < 32 → bt x i = bt y i) : x = y := Int32.toBitVec_inj.mp (BitVec.eq_of_getLsbD_eq (fun i hi => h i hi))
theorem b_and (x y : Int32) (i : Nat) : bt (x &&& y) i = (bt x i && bt y i) := by unfold bt; rw [Int32.toBitVec_and, BitVec.getLsbD_and]
theorem b_big {x : Int32} {i : Nat} (h : 32 ≤ i) : bt x i = false := BitVec.getLsbD_of_ge _ _ h
theorem b_255 (i : Nat) : bt 255 i = decide (i < 8) := by
  rcases Nat.lt_or_ge i 32 with h | h
  · exact (by decide +kernel : ∀ i, i < 32 → bt 255 i = decide (i < 8)) i h
  · rw [b_big h, decide_eq_false (by omega)]
theorem b_ushr (n : Nat) (hn : n < 32) (x : Int32) (i : Nat) : bt ((x.toUInt32 >>> ((nI n).toUInt32 &&& Int32.toUInt32 31)).toInt32) i = bt x (n + i) := by
  show (x.toUInt32 >>> ((nI n).toUInt32 &&& Int32.toUInt32 31)).toBitVec.getLsbD i = x.toUInt32.toBitVec.getLsbD (n + i)
  rw [UInt32.toBitVec_shiftRight]
  show (x.toUInt32.toBitVec >>> (((nI n).toUInt32 &&& Int32.toUInt32 31).toBitVec % 32).toNat).getLsbD i = _
  rw [s_u n hn, BitVec.getLsbD_ushiftRight]
theorem b_sshr (n : Nat) (hn : n < 32) (x : Int32) {i : Nat} (hi : i < 32) : bt (x >>> (nI n &&& 31)) i = if n + i < 32 then bt x (n + i) else bt x 31 := by
  unfold bt
  rw [Int32.toBitVec_shiftRight]
  show (x.toBitVec.sshiftRight ((nI n &&& 31).toBitVec.smod 32).toNat).getLsbD i = _
  rw [s_l n hn, BitVec.getLsbD_sshiftRight, BitVec.msb_eq_getLsbD_last]
  simp [hi]
/-! feed -/
theorem pl_dn {σ β : Type} (lp : Nat → Int32 → σ → Option β) (cont : σ → Option β) (P : Nat → σ → Prop) (n : Nat) (hs : ∀ fuel k s, k < n → P (k + 1) s → ∃ s', P k s' ∧ lp (fuel + 1) (nI k) s = lp fuel (nI k + (-1)) s') (he : ∀ fuel s, P 0 s → lp (fuel + 1) (-1) s = cont s) : ∀ k s fuel, k ≤ n → k < fuel → P k s → ∃ s', P 0 s' ∧ lp fuel (nI k + (-1)) s = cont s'
  | 0, s, fuel, h, hf, hp => by
    obtain ⟨f, rfl⟩ : ∃ f, fuel = f + 1 := ⟨fuel - 1, by omega⟩
    exact ⟨s, hp, he f s hp⟩
  | k + 1, s, fuel, h, hf, hp => by
    obtain ⟨f, rfl⟩ : ∃ f, fuel = f + 1 := ⟨fuel - 1, by omega⟩
    obtain ⟨s', h1, h2⟩ := hs f k s (by omega) hp
    obtain ⟨s2, h3, h4⟩ := pl_dn lp cont P n hs he k s' f (by omega) (by omega) h1
    exact ⟨s2, h3, by rw [pk_m1, h2, h4]⟩
def pb_y (v : Int32) (k : Nat) : Int32 := (v >>> (nI (8 * k) &&& 31)) &&& 255
theorem pb_eq (v : Int32) {k : Nat} (hk : k < 4) : ((v.toUInt32 >>> ((((8 : Int32) * nI k)).toUInt32 &&& Int32.toUInt32 31)).toInt32 &&& (255 : Int32)) = pb_y v k := by
  rw [show (8 : Int32) * nI k = nI (8 * k) from pk_mul 8 k]
  unfold pb_y
  apply b_ext
  intro i hi
  rw [b_and, b_and, b_ushr _ (by omega), b_sshr _ (by omega) _ hi, b_255]
  by_cases c : i < 8
  · rw [if_pos (by omega)]
  · simp [c]
theorem pb_c (v : Int32) (k : Nat) : ∃ c : Nat, c < 256 ∧ pb_y v k = nI c := pk_andE _ 8 rfl
/-- the row r of the object a, whose size is its field fl, got m more -/
def pfd (a fl r sz : Nat) (g : Nat → Int32) (M : gz_M) (m : Nat) (M' : gz_M) : Prop := M'.1 = M.1 ∧ M'.2.1 = M.2.1 ∧ M'.2.2.2.1 = M.2.2.2.1 ∧ M'.2.2.2.2 = M.2.2.2.2 ∧ (∀ c, c ≠ a → c ≠ r → M'.2.2.1 c = M.2.2.1 c) ∧ (∀ k, k ≠ fl → M'.2.2.1 a k = M.2.2.1 a k) ∧ M'.2.2.1 a fl = nI (sz + m) ∧ ∀ j, M'.2.2.1 r j = if sz ≤ j ∧ j < sz + m then g (j - sz) else M.2.2.1 r j
theorem pfd.zero {a fl r sz : Nat} {g : Nat → Int32} {M : gz_M} (h : M.2.2.1 a fl = nI sz) : pfd a fl r sz g M 0 M := ⟨rfl, rfl, rfl, rfl, fun _ _ _ => rfl, fun _ _ => rfl, h, fun j => (if_neg (by omega)).symm⟩
theorem pfd.step {a fl r sz m : Nat} {g : Nat → Int32} {M M' M'' : gz_M} (h : pfd a fl r sz g M m M') (har : a ≠ r) (h1 : M''.1 = M'.1) (h2 : M''.2.1 = M'.2.1) (h3 : M''.2.2.2.1 = M'.2.2.2.1) (h4 : M''.2.2.2.2 = M'.2.2.2.2) (h5 : ∀ c j, M''.2.2.1 c j = if c = a ∧ j = fl then nI (sz + m + 1) else if c = r ∧ j = sz + m then g m else M'.2.2.1 c j) : pfd a fl r sz g M (m + 1) M'' := by
  obtain ⟨q1, q2, q3, q4, q5, q6, q7, q8⟩ := h
  refine ⟨h1.trans q1, h2.trans q2, h3.trans q3, h4.trans q4, fun c hc hc' => ?_, fun k hk => ?_, ?_, fun j => ?_⟩
  · funext j
    rw [h5, if_neg (fun q => hc q.1), if_neg (fun q => hc' q.1), q5 c hc hc']
  · rw [h5, if_neg (fun q => hk q.2), if_neg (fun q => har q.1), q6 k hk]
  · rw [h5, if_pos ⟨rfl, rfl⟩, Nat.add_assoc]
  · rw [h5, if_neg (fun q => har q.1.symm), q8 j]
    by_cases e : j = sz + m
    · subst e
      rw [if_pos ⟨rfl, rfl⟩, if_pos (by omega), show sz + m - sz = m by omega]
    · rw [if_neg (fun q => e q.2)]
      by_cases c : sz ≤ j ∧ j < sz + m
      · rw [if_pos c, if_pos (by omega)]
      · rw [if_neg c, if_neg (by omega)]
theorem pu_add (fu : Nat) {b z : Nat} {M : gz_M} (h : iv_L b M) (hz : M.2.2.1 (b + 1) 1 = nI z) (hz2 : z < 250) (v : Int32) : f_X6_add fu M (b + 1) v = some (gz_sI (gz_sI M (b + 2) z v) (b + 1) 1 (nI (z + 1))) := by
  have k1 : M.2.1 (b + 1) = (7, 0) := h.1 1 _ rfl
  have k2 : M.2.1 (b + 2) = (20, 250) := h.1 2 _ rfl
  have r1 : gz_gR M 6 0 (b + 1) = some (b + 2) := pu_gR (ci := 6) k1 (h.2 1 0 2 (by decide))
  have e : (gz_sI M (b + 2) z v).2.2.1 (b + 1) 1 = nI z := by rw [pu_sI_at, if_neg (by omega)]; exact hz
  unfold f_X6_add
  simp only [gz_jn, pu_gd (ci := 6) k1, pu_gI (ci := 6) 1 k1, hz, Option.bind_some, if_neg (show ¬ (250 : Int32) ≤ nI z from pn_nle (n := 250) hz2 (by omega)), r1, pu_tI v k2 hz2 (by decide), pu_gI (M := gz_sI M (b + 2) z v) (ci := 6) 1 k1, e, pn_1, pu_pI (M := gz_sI M (b + 2) z v) (ci := 6) 1 (nI (z + 1)) k1]
theorem op_feed (b : Nat) {fu : Nat} (hfu : 5000 ≤ fu) : gz_op_feed (pi_I b) fu b (b + 110) := by
  intro M v p1 hI
  obtain ⟨h1, h2, h3, h4, ⟨sz, t1, t2, t3, t4⟩, h6, h7, h8⟩ := id hI
  have k1 : M.2.1 (b + 1) = (7, 0) := h1.1 1 _ rfl
  by_cases c : 1 ≤ p1 ∧ p1 ≤ 4
  · obtain ⟨n, hn, rfl⟩ := pu_num (n := 4) (by decide) ⟨Int32.le_trans (by decide) c.1, c.2⟩
    have hn1 : 1 ≤ n := (nI_leI (a := 1) (by decide) (by omega)).mp c.1
    have c' : (nI sz + nI n ≤ 250) ↔ sz + n ≤ 250 := by rw [nI_add]; exact nI_leI (b := 250) (by omega) (by decide)
    have c'' : (nI n ≤ (250 : Int32) - nI sz) ↔ sz + n ≤ 250 := by
      rw [show (250 : Int32) - nI sz = nI (250 - sz) from pk_sub (a := 250) t1, nI_leI (by omega) (by omega)]
      omega
    by_cases hf : sz + n ≤ 250
    · obtain ⟨M1, f1, f2⟩ := pl_dn (fun fuel i st => lp_X9_feed_42 (fun M12 => (gz_gR M12 9 0 b).bind fun x13 => (gz_gI M12 6 1 x13).bind fun x14 => some (x14, M12)) fu b v fuel i st) (fun M12 => (gz_gR M12 9 0 b).bind fun x13 => (gz_gI M12 6 1 x13).bind fun x14 => some (x14, M12)) (fun k M' => pfd (b + 1) 1 (b + 2) sz (fun m => pb_y v (n - 1 - m)) M (n - k) M') n (fun fuel k st hk hp => by
        have hL : iv_L b st := h1.same hp.2.1 hp.2.2.2.1
        refine ⟨gz_sI (gz_sI st (b + 2) (sz + (n - (k + 1))) (pb_y v k)) (b + 1) 1 (nI (sz + (n - (k + 1)) + 1)), ?_, ?_⟩
        · have := hp.step (M'' := gz_sI (gz_sI st (b + 2) (sz + (n - (k + 1))) (pb_y v k)) (b + 1) 1 (nI (sz + (n - (k + 1)) + 1))) (by omega) rfl rfl rfl rfl (fun c j => by rw [pu_sI_at, pu_sI_at, show n - 1 - (n - (k + 1)) = k by omega])
          rw [show n - (k + 1) + 1 = n - k by omega] at this
          exact this
        · rw [lp_X9_feed_42, if_neg (nI_pos (by omega)), lc_R hL 0 1 (by decide), Option.bind_some, pb_eq v (by omega), pu_add fu hL hp.2.2.2.2.2.2.1 (by omega), Option.bind_some]) (fun fuel st hp => by
        rw [lp_X9_feed_42, if_pos (by decide)]) n M fu (Nat.le_refl _) (by omega) (by rw [Nat.sub_self]; exact pfd.zero t2)
      rw [Nat.sub_zero] at f1
      have hL1 : iv_L b M1 := h1.same f1.2.1 f1.2.2.2.1
      have hO1 : iv_O (b + 110) M1 := h2.same f1.2.1 f1.2.2.2.1
      have t3' : M1.2.2.1 (b + 110) 9 = nI sz := by rw [f1.2.2.2.2.1 _ (by omega) (by omega)]; exact t3
      obtain ⟨M2, g1, g2⟩ := pl_dn (fun fuel i st => lp_X10_feed_42 (fun M13 => (gz_gI M13 10 9 (b + 110)).bind fun x14 => some (x14, M13)) (b + 110) v fuel i st) (fun M13 => (gz_gI M13 10 9 (b + 110)).bind fun x14 => some (x14, M13)) (fun k M' => pfd (b + 110) 9 (b + 127) sz (fun m => pb_y v (n - 1 - m)) M1 (n - k) M') n (fun fuel k st hk hp => by
        have hO : iv_O (b + 110) st := hO1.same hp.2.1 hp.2.2.2.1
        have q8 : gz_gR st 10 8 (b + 110) = some (b + 127) := lm_R hO 8 17 (by decide)
        have kk : st.2.1 (b + 127) = (20, 250) := hO.1 17 _ rfl
        refine ⟨gz_sI (gz_sI st (b + 110) 9 (nI (sz + (n - (k + 1)) + 1))) (b + 127) (sz + (n - (k + 1))) (pb_y v k), ?_, ?_⟩
        · have := hp.step (M'' := gz_sI (gz_sI st (b + 110) 9 (nI (sz + (n - (k + 1)) + 1))) (b + 127) (sz + (n - (k + 1))) (pb_y v k)) (by omega) rfl rfl rfl rfl (fun c j => by
            rw [pu_sI_at, pu_sI_at, show n - 1 - (n - (k + 1)) = k by omega]
            by_cases e : c = b + 110 ∧ j = 9
            · rw [if_pos e, if_pos e, if_neg (by omega)]
            · rw [if_neg e, if_neg e])
          rw [show n - (k + 1) + 1 = n - k by omega] at this
          exact this
        · rw [lp_X10_feed_42, if_neg (nI_pos (by omega)), q8, Option.bind_some, pu_gI (ci := 10) 9 (ly_m0 hO), hp.2.2.2.2.2.2.1, Option.bind_some, pu_pI (ci := 10) 9 _ (ly_m0 hO), Option.bind_some, pn_1, show (8 : Int32) * nI k = nI (8 * k) from pk_mul 8 k, pu_tI _ (M := gz_sI st (b + 110) 9 (nI (sz + (n - (k + 1)) + 1))) kk (by omega) (by decide), Option.bind_some]
          rfl) (fun fuel st hp => by
        rw [lp_X10_feed_42, if_pos (by decide)]) n M1 fu (Nat.le_refl _) (by omega) (by rw [Nat.sub_self]; exact pfd.zero t3')
      rw [Nat.sub_zero] at g1
      have hO2 : iv_O (b + 110) M2 := hO1.same g1.2.1 g1.2.2.2.1
      have en : nI n - 1 = nI n + (-1) := by
        obtain ⟨m, rfl⟩ : ∃ m, n = m + 1 := ⟨n - 1, by omega⟩
        rw [nI_pred, pk_m1]
      refine ⟨nI (sz + n), M1, M2, ?_, ?_, ?_⟩
      · simp only [f_X9_feed, h1.g, pu_within, if_pos c, Option.bind_some, pu_10, lc_R h1 0 1 (by decide), pu_gI (ci := 6) 1 k1, t2, if_pos (c'.mpr hf), en]
        rw [f2, lc_R hL1 0 1 (by decide), Option.bind_some, pu_gI (ci := 6) 1 (hL1.1 1 _ rfl), f1.2.2.2.2.2.2.1]
        rfl
      · simp only [f_X10_feed, hO1.g, pn_1_4, if_pos c, Option.bind_some, pu_10, pu_gI (ci := 10) 9 (ly_m0 hO1), t3', if_pos (c''.mpr hf), en]
        rw [g2, pu_gI (ci := 10) 9 (ly_m0 hO2), g1.2.2.2.2.2.2.1]
        rfl
      · have hI' : ∀ c, c ≠ b + 1 → c ≠ b + 2 → c ≠ b + 110 → c ≠ b + 127 → M2.2.2.1 c = M.2.2.1 c := fun c q1 q2 q3 q4 => (g1.2.2.2.2.1 c q3 q4).trans (f1.2.2.2.2.1 c q1 q2)
        have hf' : ∀ k, k ≠ 9 → M2.2.2.1 (b + 110) k = M.2.2.1 (b + 110) k := fun k q => by rw [g1.2.2.2.2.2.1 k q, f1.2.2.2.2.1 _ (by omega) (by omega)]
        refine ⟨hL1.same g1.2.1 g1.2.2.2.1, hO2, by rw [g1.1, f1.1]; exact h3, h4.same (hI' _ (by omega) (by omega) (by omega) (by omega)) (hI' _ (by omega) (by omega) (by omega) (by omega)) (hI' _ (by omega) (by omega) (by omega) (by omega)), ⟨sz + n, hf, ?_, g1.2.2.2.2.2.2.1, fun j hj => ?_⟩, h6.same (fun c q => ⟨hI' _ (by omega) (by omega) (by omega) (by omega), by rw [g1.2.2.1, f1.2.2.1]⟩), h7.same (fun c q1 q2 => hI' _ (by omega) (by omega) (by omega) (by omega)) (fun k q => hf' k (by omega)) (fun c q1 q2 => hI' _ (by omega) (by omega) (by omega) (by omega)), h8.same (by rw [g1.1, f1.1]; exact Nat.le_refl _) (g1.2.1.trans f1.2.1) (g1.2.2.2.1.trans f1.2.2.2.1) (by rw [hI' _ (by omega) (by omega) (by omega) (by omega)]) (fun c q => hI' _ (by omega) (by omega) (by omega) (by omega))⟩
        · rw [g1.2.2.2.2.1 _ (by omega) (by omega)]; exact f1.2.2.2.2.2.2.1
        · rw [g1.2.2.2.2.1 (b + 2) (by omega) (by omega), g1.2.2.2.2.2.2.2 j, f1.2.2.2.2.2.2.2 j, f1.2.2.2.2.1 (b + 127) (by omega) (by omega)]
          by_cases q : sz ≤ j ∧ j < sz + n
          · rw [if_pos q, if_pos q]
            exact ⟨rfl, pb_c v _⟩
          · rw [if_neg q, if_neg q]
            exact t4 j (by omega)
    · obtain ⟨M1, M2, r1, r2, r3, hw⟩ := pu_rfw fu hI 4 (by decide) (-6) pu_k6
      have hO := h2.same hw.2.1 hw.2.2.2.1
      have t3' : M1.2.2.1 (b + 110) 9 = nI sz := by rw [hw.2.2.2.2 _ (by omega) (by omega)]; exact t3
      refine ⟨-6, M1, M2, ?_, ?_, r3⟩
      · simp only [f_X9_feed, h1.g, pu_within, if_pos c, Option.bind_some, pu_10, lc_R h1 0 1 (by decide), pu_gI (ci := 6) 1 k1, t2, if_neg (fun q => hf (c'.mp q)), r1, gz_b2]
      · simp only [f_X10_feed, hO.g, pn_1_4, if_pos c, Option.bind_some, pu_10, pu_gI (ci := 10) 9 (ly_m0 hO), t3', if_neg (fun q => hf (c''.mp q)), r2, gz_b2]
  · obtain ⟨M1, M2, r1, r2, r3, hw⟩ := pu_rfw fu hI 0 (by decide) (-2) pu_k2
    have hO := h2.same hw.2.1 hw.2.2.2.1
    refine ⟨-2, M1, M2, ?_, ?_, r3⟩
    · simp only [f_X9_feed, h1.g, pu_within, if_neg c, Option.bind_some, r1, gz_b2, if_true]
    · simp only [f_X10_feed, hO.g, pn_1_4, if_neg c, Option.bind_some, r2, gz_b2, if_true]
/-! status -/
theorem op_status (b : Nat) {fu : Nat} (hfu : 5000 ≤ fu) : gz_op_status (pi_I b) fu b (b + 110) := by
  intro M p hI
  obtain ⟨h1, h2, h3, h4, ⟨sz, t1, t2, t3, t4⟩, h6, ⟨⟨n, hn, n1, n2, n3⟩, h7⟩, h8⟩ := id hI
  by_cases c : 12 ≤ p ∧ p ≤ 16
  · obtain ⟨w, hw, rfl⟩ := pu_num (n := 16) (by decide) ⟨Int32.le_trans (by decide) c.1, c.2⟩
    have hw1 : 12 ≤ w := (nI_leI (a := 12) (by decide) (by omega)).mp c.1
    have e1 : nI w - 12 = nI (w - 12) := pk_sub (b := 12) hw1
    have e2 : nI w - 10 = nI (w - 10) := pk_sub (b := 10) (by omega)
    have d0 : ¬ nI w = 0 := nI_ne0 (by omega) (by omega)
    have d1 : ¬ nI w = 1 := fun q => by have := (nI_eq (b := 1) (by omega) (by omega)).mp q; omega
    have d2 : ¬ nI w = 2 := fun q => by have := (nI_eq (b := 2) (by omega) (by omega)).mp q; omega
    have k61 : M.2.1 (b + 61) = (20, 5) := h1.1 61 _ rfl
    have k128 : M.2.1 (b + 128) = (20, 8) := h2.1 18 _ rfl
    have m10 : gz_gR M 10 10 (b + 110) = some (b + 128) := lm_R h2 10 18 (by decide)
    refine ⟨M.2.2.1 (b + 61) (w - 12), ?_, ?_, hI⟩
    · simp only [f_X9_status, h1.g, pu_within, if_pos c, Option.bind_some, pu_10, lc_R h1 6 61 (by decide), e1, pu_aI k61 (show w - 12 < 5 by omega) (by decide)]
    · simp only [f_X10_status, gz_jn, h2.g, pn_12_16, if_pos c, Option.bind_some, pu_10, if_neg d0, if_neg d1, if_neg d2, m10, e2, pu_aI k128 (show w - 10 < 8 by omega) (by decide)]
      rw [h4.1 (w - 12) (by omega), show w - 12 + 2 = w - 10 by omega]
  · by_cases e0 : p = 0
    · subst e0
      refine ⟨nI n, ?_, ?_, hI⟩
      · simp only [f_X9_status, h1.g, pu_within, if_neg c, Option.bind_some, if_true, lc_R h1 3 5 (by decide), pu_gI (ci := 8) 2 (h1.1 5 _ rfl), n1]
      · simp only [f_X10_status, h2.g, if_true, pu_gI (ci := 10) 11 (ly_m0 h2), n2, Option.bind_some]
    · by_cases e1 : p = 1
      · subst e1
        refine ⟨nI sz, ?_, ?_, hI⟩
        · simp only [f_X9_status, h1.g, pu_within, if_neg c, Option.bind_some, if_true, if_neg e0, lc_R h1 0 1 (by decide), pu_gI (ci := 6) 1 (h1.1 1 _ rfl), t2]
        · simp only [f_X10_status, h2.g, if_true, if_neg e0, pu_gI (ci := 10) 9 (ly_m0 h2), t3, Option.bind_some]
      · by_cases e2 : p = 2
        · subst e2
          let S : Nat → Int32 := fun m => Nat.rec (0 : Int32) (fun s r => if M.2.2.1 (b + 111) s = 0 then r else r + 1) m
          have hS : ∀ s, S (s + 1) = if M.2.2.1 (b + 111) s = 0 then S s else S s + 1 := fun s => rfl
          refine ⟨S 8, ?_, ?_, hI⟩
          · simp only [f_X9_status, h1.g, pu_within, if_neg c, Option.bind_some, if_true, if_neg e0, if_neg e1, f_X9_shelvesInUse]
            have : lp_X9_shelvesInUse_4 (fun x7 => some x7) fu M b fu 0 0 = some (S 8) := pl_fn (fun fuel i st => lp_X9_shelvesInUse_4 (fun x7 => some x7) fu M b fuel st i) (fun st => some st) S 8 (fun fuel s hs => by
              have hsh := pg_sh hI hs
              have hq : sq b s M := ⟨h1, h2, hs, (h6 s hs).1⟩
              rw [lp_X9_shelvesInUse_4, if_neg (show ¬ (8 : Int32) ≤ nI s from pn_nle (n := 8) hs (by omega)), hq.p1, Option.bind_some, hq.p2, Option.bind_some, hS]
              simp only [gz_jn, pn_1]
              rcases hsh with hf | ⟨t, m, hr⟩ | ⟨t, l, a, ht⟩
              · rw [(hf.rr fu).2.2, Option.bind_some, hf.2.2, if_pos rfl]; rfl
              · rw [(hr.rr fu).2.2, Option.bind_some, hr.2.2.2.2.2.1]; rfl
              · rw [(ht.rr fu).2.2, Option.bind_some, ht.2.2.2.2.2.2.2.2.1]; rfl) (fun fuel => by
              rw [lp_X9_shelvesInUse_4, if_pos (show (8 : Int32) ≤ nI 8 from pn_le (n := 8) (Nat.le_refl _) (by omega))]) (fuel := fu) (by omega)
            rw [this]
            rfl
          · simp only [f_X10_status, h2.g, if_true, if_neg e0, if_neg e1]
            exact pl_fn (fun fuel i st => lp_X10_status_42 (fun x7 => some x7) M (b + 110) fuel st i) (fun st => some st) S 8 (fun fuel s hs => by
              have hq : sq b s M := ⟨h1, h2, hs, (h6 s hs).1⟩
              rw [lp_X10_status_42, if_neg (show ¬ (8 : Int32) ≤ nI s from pn_nle (n := 8) hs (by omega)), hq.m0, Option.bind_some, hq.a0, Option.bind_some, hS]
              simp only [gz_jn, pn_1]
              by_cases q : M.2.2.1 (b + 111) s = 0
              · rw [if_pos q, if_pos q, Int32.add_zero]
              · rw [if_neg q, if_neg q]) (fun fuel => by
              rw [lp_X10_status_42, if_pos (show (8 : Int32) ≤ nI 8 from pn_le (n := 8) (Nat.le_refl _) (by omega))]) (fuel := fu) (by omega)
        · refine ⟨-1, ?_, ?_, hI⟩
          · simp only [f_X9_status, h1.g, pu_within, if_neg c, Option.bind_some, if_true, if_neg e0, if_neg e1, if_neg e2]
          · simp only [f_X10_status, gz_jn, h2.g, pn_12_16, if_neg c, Option.bind_some, if_true, if_neg e0, if_neg e1, if_neg e2]
