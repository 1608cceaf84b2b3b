/-! the start of the law lies in the kept world: the sheets' makings -/
theorem X10_init_R (al : Nat → Nat → Bool) (N : Nat) (X : gM) : ∃ R, X10_init al N X = X10_init_T al N R ∧ (∀ k p j, ¬ (44 ≤ k ∧ k ≤ 92) → R k p j = X k p j) ∧ (∀ j, (j = 0 ∨ j = 15 ∨ j = 17 ∨ j = 20 ∨ j = 23) → R 92 0 j = X 92 0 j) ∧ rk_43 0 (R 92 0) = some 0 ∧ (∀ j, (10 ≤ j ∧ j ≤ 13) → R 92 0 j = nI 0) ∧ (∀ k j, (k = 49 ∨ k = 50 ∨ k = 51 ∨ k = 57) → R k 0 j = 0) := by
  unfold X10_init
  simp (disch := omega) only [gl_eq, Option.bind_some, rn_some]
  refine ⟨_, rfl, fun k p j hk => ?_, fun j hj => ?_, ?_, fun j hj => ?_, fun k j hk => ?_⟩
  · simp (disch := omega) only [mset_at, msl_at, if_neg]
  · rcases hj with rfl | rfl | rfl | rfl | rfl <;> simp [mset_at, msl_at]
  · have e0 : nI 0 = 0 := rfl
    unfold rk_43
    rw [if_pos]
    simp [mset_at, msl_at, e0]
  · have hj4 : j = 10 ∨ j = 11 ∨ j = 12 ∨ j = 13 := by omega
    rcases hj4 with rfl | rfl | rfl | rfl <;> simp [mset_at, msl_at]
  · rcases hk with rfl | rfl | rfl | rfl <;> simp [mset_at, msl_at]
theorem X10_init_L343_eq {al : Nat → Nat → Bool} {N : Nat} (hN : 1000000 ≤ N) {X : gM} (h56 : al 56 0 = true) (h : X 92 0 13 = nI 0) (k : gM → Option (Int32 × gM)) (Q : Option (Int32 × gM) → Prop) (hQ : ∀ Y, (∀ k p j, ¬ (k = 56) → Y k p j = X k p j) → (∀ j, j < 960 → Y 56 0 j = -1) → Q (k Y)) : Q (X10_init_L343 al N k N 0 X) := by
  refine m_up0 960 (fun fu i (Y : gM) => X10_init_L343 al N k fu i Y)
    (fun i Y => (∀ k p j, ¬ (k = 56) → Y k p j = X k p j) ∧ (∀ j, j < i → Y 56 0 j = -1)) Q X (by omega) ?_ ?_ ⟨fun _ _ _ _ => rfl, fun j hj => absurd hj (Nat.not_lt_zero j)⟩
  · rintro i fu Y hi ⟨i1, i2⟩ ih
    have e92 : Y 92 0 13 = nI 0 := by rw [i1 92 0 13 (by omega), h]
    simp (disch := omega) only [X10_init_L343, e92, dr_nI h56 (by omega : 0 < 2147483648), zn_add, zn_mul, zn_addl, zn_ladd, zn_mull, zn_lmul, zn_le, zn_lt, zn_eq, zn_lel, zn_ltl, zn_eql, zn_lle, zn_llt, zn_leq, zn_sub, zn_subl, zn_m1, gl_eq, bind2_some, bind3_some, Option.bind_some, bz_0, bz_1, ib_0, ib_1, ib_bz, rd_nI, rd_l, if_pos, if_neg, if_true, if_false, ite_true, ite_false, eq_self, j00, j10, j20, j30, k00, k01, k02, k03, i20, i30, km0, i10, i01, im0, im1, i0m, i1m]
    refine ih (mset Y 56 0 i (-1)) ⟨fun k p j hk => ?_, fun j hj => ?_⟩
    · rw [mset_at, if_neg (by omega), i1 k p j hk]
    · by_cases hji : j = i
      · subst hji; exact mset_same ..
      · rw [mset_at, if_neg (by omega), i2 j (by omega)]
  · rintro fu Y ⟨i1, i2⟩
    simp (disch := omega) only [X10_init_L343, zn_add, zn_mul, zn_addl, zn_ladd, zn_mull, zn_lmul, zn_le, zn_lt, zn_eq, zn_lel, zn_ltl, zn_eql, zn_lle, zn_llt, zn_leq, zn_sub, zn_subl, zn_m1, gl_eq, bind2_some, bind3_some, Option.bind_some, bz_0, bz_1, ib_0, ib_1, ib_bz, rd_nI, rd_l, if_pos, if_neg, if_true, if_false, ite_true, ite_false, eq_self, j00, j10, j20, j30, k00, k01, k02, k03, i20, i30, km0, i10, i01, im0, im1, i0m, i1m]
    exact hQ Y i1 i2
theorem X10_init_T_eq {al : Nat → Nat → Bool} {N : Nat} (hN : 1000000 ≤ N) {X : gM} (h53 : al 53 0 = true) (h54 : al 54 0 = true) (h55 : al 55 0 = true) (h56 : al 56 0 = true) (h : ∀ j, (10 ≤ j ∧ j ≤ 13) → X 92 0 j = nI 0) :
    ∃ Y, X10_init_T al N X = some (0, Y) ∧ (∀ k p j, ¬ (53 ≤ k ∧ k ≤ 56) → Y k p j = X k p j) ∧ (∀ b, b < 2 → Y 53 0 b = 4) ∧ (∀ k, k < 3 → Y 54 0 k = 1) ∧ (∀ k, k < 3 → Y 55 0 k = 1) ∧ ∀ j, j < 960 → Y 56 0 j = -1 := by
  have c0 := h 10 (by omega)
  have c1 : (mset X 53 0 0 4) 92 0 10 = nI 0 := by rw [mset_at, if_neg (by omega), c0]
  have d53 : ∀ A : gM, dr al 53 (nI 0) = some 0 := fun _ => dr_nI h53 (by omega)
  have d54 : dr al 54 (nI 0) = some 0 := dr_nI h54 (by omega)
  have d55 : dr al 55 (nI 0) = some 0 := dr_nI h55 (by omega)
  simp (disch := omega) only [X10_init_T, c0, c1, d53 X, rd_l, Option.bind_some, gl_eq]
  generalize hR : mset (mset X 53 0 0 4) 53 0 1 4 = R
  have r1 : ∀ k p j, ¬ k = 53 → R k p j = X k p j := fun k p j hk => by
    rw [← hR, mset_at, if_neg (by omega), mset_at, if_neg (by omega)]
  refine m_up0 3 (fun fu i (Y : gM) => X10_init_L316 al N (fun Y => X10_init_J341 al N Y) fu i Y)
    (fun i Y => (∀ k p j, ¬ (k = 54 ∨ k = 55) → Y k p j = R k p j) ∧ (∀ k, k < i → Y 54 0 k = 1) ∧ (∀ k, k < i → Y 55 0 k = 1)) (fun o => ∃ Y, o = some (0, Y) ∧ (∀ k p j, ¬ (53 ≤ k ∧ k ≤ 56) → Y k p j = X k p j) ∧ (∀ b, b < 2 → Y 53 0 b = 4) ∧ (∀ k, k < 3 → Y 54 0 k = 1) ∧ (∀ k, k < 3 → Y 55 0 k = 1) ∧ ∀ j, j < 960 → Y 56 0 j = -1) R (by omega) ?_ ?_ ⟨fun _ _ _ _ => rfl, fun j hj => absurd hj (Nat.not_lt_zero j), fun j hj => absurd hj (Nat.not_lt_zero j)⟩
  · rintro i fu Y hi ⟨i1, i2, i3⟩ ih
    have e11 : Y 92 0 11 = nI 0 := by rw [i1 92 0 11 (by omega), r1 92 0 11 (by omega), h 11 (by omega)]
    have e12 : (mset Y 54 0 i 1) 92 0 12 = nI 0 := by rw [mset_at, if_neg (by omega), i1 92 0 12 (by omega), r1 92 0 12 (by omega), h 12 (by omega)]
    simp (disch := omega) only [X10_init_L316, e11, e12, d54, d55, zn_add, zn_mul, zn_addl, zn_ladd, zn_mull, zn_lmul, zn_le, zn_lt, zn_eq, zn_lel, zn_ltl, zn_eql, zn_lle, zn_llt, zn_leq, zn_sub, zn_subl, zn_m1, gl_eq, bind2_some, bind3_some, Option.bind_some, bz_0, bz_1, ib_0, ib_1, ib_bz, rd_nI, rd_l, if_pos, if_neg, if_true, if_false, ite_true, ite_false, eq_self, j00, j10, j20, j30, k00, k01, k02, k03, i20, i30, km0, i10, i01, im0, im1, i0m, i1m]
    refine ih _ ⟨fun k p j hk => ?_, fun j hj => ?_, fun j hj => ?_⟩
    · rw [mset_at, if_neg (by omega), mset_at, if_neg (by omega), i1 k p j hk]
    · rw [mset_at, if_neg (by omega)]
      by_cases hji : j = i
      · subst hji; exact mset_same ..
      · rw [mset_at, if_neg (by omega), i2 j (by omega)]
    · by_cases hji : j = i
      · subst hji; exact mset_same ..
      · rw [mset_at, if_neg (by omega), mset_at, if_neg (by omega), i3 j (by omega)]
  · rintro fu Y ⟨i1, i2, i3⟩
    simp (disch := omega) only [X10_init_L316, zn_add, zn_mul, zn_addl, zn_ladd, zn_mull, zn_lmul, zn_le, zn_lt, zn_eq, zn_lel, zn_ltl, zn_eql, zn_lle, zn_llt, zn_leq, zn_sub, zn_subl, zn_m1, gl_eq, bind2_some, bind3_some, Option.bind_some, bz_0, bz_1, ib_0, ib_1, ib_bz, rd_nI, rd_l, if_pos, if_neg, if_true, if_false, ite_true, ite_false, eq_self, j00, j10, j20, j30, k00, k01, k02, k03, i20, i30, km0, i10, i01, im0, im1, i0m, i1m]
    unfold X10_init_J341
    refine X10_init_L343_eq hN h56 (by rw [i1 92 0 13 (by omega), r1 92 0 13 (by omega), h 13 (by omega)]) _ _ (fun Z z1 z2 => ⟨Z, rfl, fun k p j hk => ?_, fun b hb => ?_, fun k hk => ?_, fun k hk => ?_, z2⟩)
    · rw [z1 k p j (by omega), i1 k p j (by omega), r1 k p j (by omega)]
    · rw [z1 53 0 b (by omega), i1 53 0 b (by omega), ← hR]
      have hb2 : b = 0 ∨ b = 1 := by omega
      rcases hb2 with rfl | rfl <;> simp [mset_at]
    · rw [z1 54 0 k (by omega), i2 k hk]
    · rw [z1 55 0 k (by omega), i3 k hk]
