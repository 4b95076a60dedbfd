/-! the start meets the invariant -/
theorem kk9_eq : kk_X9 = iv_KC := by decide +kernel
theorem kk10_eq : kk_X10 = iv_KM := by decide +kernel
theorem kr9_eq : ∀ e, e ∈ iv_RC → lr kr_X9 e.1 e.2.1 = some e.2.2 := by decide +kernel
theorem kr10_eq : ∀ e, e ∈ iv_RM → lr kr_X10 e.1 e.2.1 = some e.2.2 := by decide +kernel
theorem iv_of {a n : Nat} {M0 M : gz_M} {K : List (Nat × Nat)} {I : List (Nat × Nat × Int32)} {R S : List (Nat × Nat × Nat)} (h : st a n M0 K I R M) (hs : ∀ e, e ∈ S → lr R e.1 e.2.1 = some e.2.2) : iv_k K a M ∧ iv_r S a M := by
  refine ⟨fun o p ho => h.2.2.1 o p ho, fun o k t ht => ?_⟩
  have e : lr R o k = some t := hs (o, k, t) ht
  have hlt : o < n := by
    refine Nat.lt_of_not_le (fun q => ?_)
    rw [lr_z h.2.2.2.2.2.2.2.2 q] at e
    cases e
  rw [h.2.2.2.2.2.1 o k hlt, e]
  rfl
theorem ki9_a : (∀ k, k < 5 → lk ki_X9 61 k = 0) ∧ lk ki_X9 1 1 = 0 ∧ (∀ s, s < 8 → lk ki_X9 (94 + 2 * s) 1 = -1) ∧ lk ki_X9 5 2 = 0 ∧ lk ki_X9 8 4 = 0 ∧ lk ki_X9 8 5 = 0 ∧ lk ki_X9 8 6 = 50 ∧ lk ki_X9 8 7 = 1 ∧ (∀ m, m < 3 → lk ki_X9 11 m = 0 ∧ lk ki_X9 12 m = 0) ∧ lk ki_X9 7 1 = 0 ∧ lk ki_X9 0 5 = 0 := by decide +kernel
theorem ki9_b : ∀ j, j < 12 → lk ki_X9 90 j = 0 := by decide +kernel
theorem ki10_a : (∀ k, k < 5 → lk ki_X10 18 (k + 2) = 0) ∧ lk ki_X10 0 9 = 0 ∧ (∀ s, s < 8 → lk ki_X10 1 s = 0) ∧ lk ki_X10 0 11 = 0 ∧ lk ki_X10 0 15 = -1 ∧ lr kr_X10 0 20 = none := by decide +kernel
/-- the reference's constructor -/
theorem st_new10 (fu : Nat) (M : gz_M) : ∃ M', f_X10_init fu (gz_nw M 10) M.1 = some M' ∧ st M.1 43 M iv_KM ki_X10 kr_X10 M' := by
  have h0 : st M.1 1 M [(11, 0)] [] [] (gz_nw M 10) := by
    have h : st M.1 0 M [] [] [] M := ⟨rfl, rfl, fun o p ho => by simp at ho, fun o k ho => by omega, fun o k ho => by omega, fun o k ho => by omega, fun c _ => ⟨rfl, rfl, rfl, rfl⟩, fun e he => (by cases he), fun e he => (by cases he)⟩
    exact h.nw 10
  obtain ⟨M', e, h⟩ := st_X10 fu h0 rfl
  rw [kk10_eq] at h
  exact ⟨M', e, h⟩
theorem st_new9 (fu b : Nat) : ∃ M', f_X9_init fu (gz_nw (gz_m0 b) 9) b = some M' ∧ st b 110 (gz_m0 b) iv_KC ki_X9 kr_X9 M' := by
  have h0 : st b 1 (gz_m0 b) [(10, 0)] [] [] (gz_nw (gz_m0 b) 9) := by
    have h : st b 0 (gz_m0 b) [] [] [] (gz_m0 b) := ⟨rfl, rfl, fun o p ho => by simp at ho, fun o k ho => by omega, fun o k ho => by omega, fun o k ho => by omega, fun c _ => ⟨rfl, rfl, rfl, rfl⟩, fun e he => (by cases he), fun e he => (by cases he)⟩
    exact h.nw 9
  obtain ⟨M', e, h⟩ := st_X9 fu h0 rfl
  rw [kk9_eq] at h
  exact ⟨M', e, h⟩
theorem pi_init (fu b0 : Nat) : ∃ M2 M4, f_X9_init fu (gz_nw (gz_m0 b0) 9) b0 = some M2 ∧ M2.1 = b0 + 110 ∧ f_X10_init fu (gz_nw M2 10) (b0 + 110) = some M4 ∧ pi_I b0 M4 := by
  obtain ⟨M2, e2, h2⟩ := st_new9 fu b0
  obtain ⟨M4, e4, h4⟩ := st_new10 fu M2
  have hz := h2.1
  rw [hz] at e4 h4
  refine ⟨M2, M4, e2, hz, e4, ?_⟩
  obtain ⟨a1, a2, a3, a4, a5, a6, a7, a8, a9, a10, a11⟩ := ki9_a
  obtain ⟨c1, c2, c3, c4, c5, c6⟩ := ki10_a
  have k2 := iv_of h2 kr9_eq
  have k4 := iv_of h4 kr10_eq
  obtain ⟨-, -, -, p4, p5, -, -, -, -⟩ := h2
  obtain ⟨q1, -, -, q4, q5, q6, q7, -, -⟩ := h4
  -- ints of the class's cells, and of the reference's
  have iC : ∀ o k, o < 110 → M4.2.2.1 (b0 + o) k = lk ki_X9 o k := fun o k ho => by rw [(q7 _ (by omega)).2.1]; exact p4 o k ho
  have lC : ∀ o k, o < 110 → M4.2.2.2.1 (b0 + o) k = 0 := fun o k ho => by rw [(q7 _ (by omega)).2.2.1]; exact p5 o k ho
  have iM : ∀ o k, o < 43 → M4.2.2.1 (b0 + 110 + o) k = lk ki_X10 o k := fun o k ho => q4 o k ho
  refine ⟨⟨fun o p ho => ?_, fun o k t ht => ?_⟩, k4, by omega, ⟨fun k hk => ?_, fun j hj => (iC 90 j (by omega)).trans (ki9_b j hj)⟩, ⟨0, by omega, ?_, ?_, fun j hj => by omega⟩, fun s hs => ⟨fun j hj => ?_, Or.inl ⟨?_, ?_⟩⟩, ⟨⟨0, by omega, ?_, ?_, fun v hv => by omega⟩, ⟨(0, 0, 50, 1, fun _ => 0, fun _ => 0, fun _ => 0, fun _ => 0), ?_, ?_, Or.inl ⟨?_, ?_⟩⟩⟩, Or.inl ⟨?_, ?_⟩⟩
  · have hl : o < 110 := by
      obtain ⟨h1, -⟩ := List.getElem?_eq_some_iff.mp ho
      exact h1
    rw [(q7 _ (by omega)).1]
    exact k2.1 o p ho
  · have e := k2.2 o k t ht
    have hl : o < 110 := by
      have : ∀ e, e ∈ iv_RC → e.1 < 110 := by decide +kernel
      exact this _ ht
    rw [(q7 _ (by omega)).2.2.2]
    exact e
  · rw [iC 61 k (by omega), a1 k hk, show b0 + 128 = b0 + 110 + 18 by omega, iM 18 _ (by omega), c1 k hk]
  · rw [iC 1 1 (by omega), a2]; rfl
  · exact (iM 0 9 (by omega)).trans (c2.trans rfl)
  · rw [show b0 + 95 + 2 * s = b0 + (95 + 2 * s) by omega, lC _ _ (by omega), show b0 + 115 + s = b0 + 110 + (5 + s) by omega, q5 _ _ (by omega)]
  · rw [show b0 + 94 + 2 * s = b0 + (94 + 2 * s) by omega, iC _ _ (by omega), a3 s hs]
  · rw [show b0 + 111 = b0 + 110 + 1 by omega, iM 1 _ (by omega), c3 s hs]
  · rw [iC 5 2 (by omega), a4]; rfl
  · exact (iM 0 11 (by omega)).trans (c4.trans rfl)
  · refine ⟨by show 0 ≤ 12; omega, by show 0 ≤ 10; omega, by show 50 ≤ 99; omega, by show 1 ≤ 9; omega, fun m hm => ⟨by show 0 ≤ 9; omega, by show 0 ≤ 30; omega⟩, fun f hf => absurd hf (Nat.not_lt_zero f), fun l hl => absurd hl (Nat.not_lt_zero l)⟩
  · refine ⟨?_, ?_, ?_, ?_, fun m hm => ?_, fun m hm => ?_, fun j hj => absurd hj (Nat.not_lt_zero j), fun j hj => absurd hj (Nat.not_lt_zero j)⟩
    · exact (iC 8 4 (by omega)).trans (a5.trans rfl)
    · exact (iC 8 5 (by omega)).trans (a6.trans rfl)
    · exact (iC 8 6 (by omega)).trans (a7.trans rfl)
    · exact (iC 8 7 (by omega)).trans (a8.trans rfl)
    · exact (iC 11 m (by omega)).trans ((a9 m hm).1.trans rfl)
    · exact (iC 12 m (by omega)).trans ((a9 m hm).2.trans rfl)
  · exact (iC 7 1 (by omega)).trans a10
  · exact (iM 0 15 (by omega)).trans c5
  · exact (iC 0 5 (by omega)).trans a11
  · have e := q6 0 20 (by omega)
    rw [c6] at e
    exact e
