/-! the start of the law lies in the kept world -/
theorem X3_init_eq (al : Nat → Nat → Bool) (N : Nat) (X : gM) : ∃ Y, X3_init al N X = some (0, Y) ∧ (∀ k p j, ¬ (k = 2 ∨ k = 3 ∨ k = 83) → Y k p j = X k p j) ∧ (∀ k, k < 3 → Y 2 0 k = 1) ∧ (∀ k, k < 3 → Y 3 0 k = 1) ∧ rk_1 0 (Y 83 0) = some 0 := by
  unfold X3_init
  simp (disch := omega) only [gl_eq, rd_l, Option.bind_some, rn_some]
  refine ⟨_, rfl, fun k p j hk => ?_, fun k hk => ?_, fun k hk => ?_, ?_⟩
  · simp only [mset_at, msl_at]
    repeat rw [if_neg (by omega)]
  · have hk3 : k = 0 ∨ k = 1 ∨ k = 2 := by omega
    rcases hk3 with rfl | rfl | rfl <;> simp [mset_at, msl_at]
  · have hk3 : k = 0 ∨ k = 1 ∨ k = 2 := by omega
    rcases hk3 with rfl | rfl | rfl <;> simp [mset_at, msl_at]
  · unfold rk_1
    rw [if_pos]
    have e0 : nI 0 = 0 := rfl
    simp [mset_at, msl_at, e0]
theorem X7_init_eq (al : Nat → Nat → Bool) (N p0 : Nat) (hp : p0 < 6) (p1 p2 : Int32) (h1 : p1 = 0 ∨ p1 = 1) (h2 : p2 = 0 ∨ p2 = 1) (X : gM) : ∃ Y, X7_init al N p0 p1 p2 X = some (0, Y) ∧ (∀ k p j, ¬ ((k = 87 ∨ (15 ≤ k ∧ k ≤ 21)) ∧ p = p0) → Y k p j = X k p j) ∧ (∀ j, Y 18 p0 j = -1) ∧ (∀ j, Y 19 p0 j = -1) ∧ (∀ j, Y 21 p0 j = -1) ∧ Y 87 p0 0 = p1 ∧ Y 87 p0 1 = p2 ∧ Y 87 p0 2 = 0 ∧ rk_14 p0 (Y 87 p0) = some 0 := by
  unfold X7_init
  simp (disch := omega) only [gl_eq, rd_l, Option.bind_some, rn_some, bz_01 h1, bz_01 h2]
  refine ⟨_, rfl, fun k p j hk => ?_, fun j => ?_, fun j => ?_, fun j => ?_, ?_, ?_, ?_, ?_⟩
  · simp only [mset_at, msl_at]
    repeat rw [if_neg (by omega)]
  · simp [mset_at, msl_at]
  · simp [mset_at, msl_at]
  · simp [mset_at, msl_at]
  · simp [mset_at, msl_at]
  · simp [mset_at, msl_at]
  · simp [mset_at, msl_at]
  · have q1 : ¬ nI p0 < 0 := zn_nn (by omega)
    have q2 : (nI p0).toNatClampNeg = p0 := zn_tN (by omega)
    unfold rk_14
    rw [if_pos]
    simp [mset_at, msl_at, q1, q2]
theorem X6_init_eq (al : Nat → Nat → Bool) (N : Nat) (X : gM) : ∃ Y, X6_init al N X = some (0, Y) ∧ (∀ k p j, ¬ (k = 90 ∨ (30 ≤ k ∧ k ≤ 39)) → Y k p j = X k p j) ∧ rk_29 0 (Y 90 0) = some 0 := by
  unfold X6_init
  simp (disch := omega) only [gl_eq, rd_l, Option.bind_some, rn_some]
  refine ⟨_, rfl, fun k p j hk => ?_, ?_⟩
  · simp only [mset_at, msl_at, mrows]
    repeat rw [if_neg (by omega)]
    simp only [mset_at, msl_at]
    repeat rw [if_neg (by omega)]
  · unfold rk_29
    rw [if_pos]
    have e0 : nI 0 = 0 := rfl
    simp [mset_at, msl_at, mrows, e0]
theorem X4_init_eq (al : Nat → Nat → Bool) (N : Nat) (X : gM) : ∃ Y, X4_init al N X = some (0, Y) ∧ (∀ k p j, ¬ (k = 91 ∨ k = 41) → Y k p j = X k p j) ∧ rk_40 0 (Y 91 0) = some 0 := by
  unfold X4_init
  simp (disch := omega) only [gl_eq, rd_l, Option.bind_some, rn_some]
  refine ⟨_, rfl, fun k p j hk => ?_, ?_⟩
  · simp only [mset_at, msl_at]
    repeat rw [if_neg (by omega)]
  · unfold rk_40
    rw [if_pos]
    have e0 : nI 0 = 0 := rfl
    simp [mset_at, msl_at, e0]
theorem X5_init_eq (al : Nat → Nat → Bool) (N p0 : Nat) (hp : p0 < 2) (X : gM) : ∃ Y, X5_init al N p0 X = some (0, Y) ∧ (∀ k p j, ¬ (((k = 86 ∨ k = 13) ∧ p = p0) ∨ ((k = 87 ∨ (14 ≤ k ∧ k ≤ 21)) ∧ p / 3 = p0)) → Y k p j = X k p j) ∧ Y 86 p0 0 = 4 ∧ Y 86 p0 2 = 0 ∧ (∀ j, Y 13 p0 j = -1) ∧ rk_12 p0 (Y 86 p0) = some 0 ∧
    ∀ r, r < 3 → Y 14 (3 * p0 + r) 0 = (if r = 1 then 1 else 0) ∧ Y 14 (3 * p0 + r) 1 = (if r = 2 then 1 else 0) ∧ Y 14 (3 * p0 + r) 2 = 0 ∧ Y 14 (3 * p0 + r) 9 = -1 ∧ (∀ j, Y 18 (3 * p0 + r) j = -1) ∧ (∀ j, Y 19 (3 * p0 + r) j = -1) ∧ (∀ j, Y 21 (3 * p0 + r) j = -1) := by
  obtain ⟨fa, ha⟩ := Classical.axiomOfChoice (fun X => X7_init_eq al N (3 * p0) (by omega) 0 0 (Or.inl rfl) (Or.inl rfl) X)
  obtain ⟨fb, hb⟩ := Classical.axiomOfChoice (fun X => X7_init_eq al N (3 * p0 + 1) (by omega) 1 0 (Or.inr rfl) (Or.inl rfl) X)
  obtain ⟨fc, hc⟩ := Classical.axiomOfChoice (fun X => X7_init_eq al N (3 * p0 + 2) (by omega) 0 1 (Or.inl rfl) (Or.inr rfl) X)
  have a1 := fun X => (ha X).1
  have a2 := fun X => (ha X).2.1
  have a3 := fun X => (ha X).2.2.1
  have a4 := fun X => (ha X).2.2.2.1
  have a5 := fun X => (ha X).2.2.2.2.1
  have a6 := fun X => (ha X).2.2.2.2.2.1
  have a7 := fun X => (ha X).2.2.2.2.2.2.1
  have a8 := fun X => (ha X).2.2.2.2.2.2.2.1
  have a9 := fun X => (ha X).2.2.2.2.2.2.2.2
  have b1 := fun X => (hb X).1
  have b2 := fun X => (hb X).2.1
  have b3 := fun X => (hb X).2.2.1
  have b4 := fun X => (hb X).2.2.2.1
  have b5 := fun X => (hb X).2.2.2.2.1
  have b6 := fun X => (hb X).2.2.2.2.2.1
  have b7 := fun X => (hb X).2.2.2.2.2.2.1
  have b8 := fun X => (hb X).2.2.2.2.2.2.2.1
  have b9 := fun X => (hb X).2.2.2.2.2.2.2.2
  have c1 := fun X => (hc X).1
  have c2 := fun X => (hc X).2.1
  have c3 := fun X => (hc X).2.2.1
  have c4 := fun X => (hc X).2.2.2.1
  have c5 := fun X => (hc X).2.2.2.2.1
  have c6 := fun X => (hc X).2.2.2.2.2.1
  have c7 := fun X => (hc X).2.2.2.2.2.2.1
  have c8 := fun X => (hc X).2.2.2.2.2.2.2.1
  have c9 := fun X => (hc X).2.2.2.2.2.2.2.2
  unfold X5_init
  simp (disch := omega) only [gl_eq, rd_l, Option.bind_some, rn_some, a1, a9, b1, b9, c1, c9, bind2_some]
  refine ⟨_, rfl, fun k p j hk => ?_, ?_, ?_, fun j => ?_, ?_, fun r hr => ?_⟩
  · simp (disch := omega) only [mset_at, msl_at, a2, b2, c2, if_neg]
  · simp (disch := omega) [mset_at, msl_at, a2, b2, c2]
  · simp (disch := omega) [mset_at, msl_at, a2, b2, c2]
  · simp (disch := omega) [mset_at, msl_at, a2, b2, c2]
  · have q1 : ∀ n, n < 10 → ¬ nI n < 0 := fun n hn => zn_nn (by omega)
    have q2 : ∀ n, n < 10 → (nI n).toNatClampNeg = n := fun n hn => zn_tN (by omega)
    unfold rk_12
    rw [if_pos]
    simp (disch := omega) [mset_at, msl_at, a2, b2, c2, q1, q2]
  · have hr3 : r = 0 ∨ r = 1 ∨ r = 2 := by omega
    rcases hr3 with rfl | rfl | rfl
    · refine ⟨?_, ?_, ?_, ?_, fun j => ?_, fun j => ?_, fun j => ?_⟩ <;> simp (disch := omega) [mset_at, msl_at, upd, a2, b2, c2, a3, a4, a5, a6, a7, a8]
    · refine ⟨?_, ?_, ?_, ?_, fun j => ?_, fun j => ?_, fun j => ?_⟩ <;> simp (disch := omega) [mset_at, msl_at, upd, a2, b2, c2, b3, b4, b5, b6, b7, b8]
    · refine ⟨?_, ?_, ?_, ?_, fun j => ?_, fun j => ?_, fun j => ?_⟩ <;> simp (disch := omega) [mset_at, msl_at, upd, a2, b2, c2, c3, c4, c5, c6, c7, c8]
