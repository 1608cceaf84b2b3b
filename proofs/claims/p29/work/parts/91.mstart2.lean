/-! the start of the law lies in the kept world: the sheets' makings -/
/-- slices made one by one, each with its word -/
def bR (X Y : gM) (S T : List Nat) : Prop := (∀ k p j, ¬ (44 ≤ k ∧ k ≤ 92) → Y k p j = X k p j) ∧ (∀ j, j ∉ S → Y 92 0 j = X 92 0 j) ∧ (∀ j ∈ S, Y 92 0 j = nI 0) ∧ ∀ k ∈ T, k < 92 ∧ ∀ j, Y k 0 j = 0
theorem bR_nil (X : gM) : bR X X [] [] := ⟨fun _ _ _ _ => rfl, fun _ _ => rfl, fun j hj => (by cases hj), fun k hk => (by cases hk)⟩
theorem bR_sl {X Y : gM} {S T : List Nat} {K : Nat} (h1 : 44 ≤ K) (h2 : K < 92) (g : bR X Y S T) : bR X (msl Y K 0 (fun _ => 0)) S (K :: T) := by
  obtain ⟨g1, g2, g3, g4⟩ := g
  refine ⟨fun k p j hk => ?_, fun j hj => ?_, fun j hj => ?_, fun k hk => ?_⟩
  · rw [msl_at, if_neg (by omega), g1 k p j hk]
  · rw [msl_at, if_neg (by omega), g2 j hj]
  · rw [msl_at, if_neg (by omega), g3 j hj]
  · by_cases c : k = K
    · subst c
      exact ⟨h2, fun j => by rw [msl_at, if_pos ⟨rfl, rfl⟩]⟩
    · rcases List.mem_cons.mp hk with q | q
      · exact absurd q c
      · exact ⟨(g4 k q).1, fun j => by rw [msl_at, if_neg (fun z => c z.1), (g4 k q).2 j]⟩
theorem bR_st {X Y : gM} {S T : List Nat} {i : Nat} (g : bR X Y S T) : bR X (mset Y 92 0 i (nI 0)) (i :: S) T := by
  obtain ⟨g1, g2, g3, g4⟩ := g
  refine ⟨fun k p j hk => ?_, fun j hj => ?_, fun j hj => ?_, fun k hk => ?_⟩
  · rw [mset_at, if_neg (by omega), g1 k p j hk]
  · rw [List.mem_cons, not_or] at hj
    rw [mset_at, if_neg (fun z => hj.1 z.2.2), g2 j hj.2]
  · by_cases c : j = i
    · subst c
      exact mset_same ..
    · rcases List.mem_cons.mp hj with q | q
      · exact absurd q c
      · rw [mset_at, if_neg (fun z => c z.2.2), g3 j q]
  · have h4 := g4 k hk
    exact ⟨h4.1, fun j => by rw [mset_at, if_neg (by omega), h4.2 j]⟩
set_option maxHeartbeats 8000000 in
theorem X10_init_R0 (al : Nat → Nat → Bool) (N : Nat) (X : gM) : ∃ R, X10_init al N X = X10_init_T al N R ∧ bR X R [45, 44, 43, 41, 39, 38, 37, 36, 35, 34, 33, 32, 31, 28, 27, 26, 25, 24, 22, 21, 19, 18, 16, 14, 13, 12, 11, 10, 9, 8, 7, 6, 5, 4, 3, 2, 1] [80, 79, 78, 77, 76, 75, 74, 73, 72, 71, 70, 69, 68, 67, 66, 65, 64, 63, 62, 61, 60, 59, 58, 57, 56, 55, 54, 53, 52, 51, 50, 49, 48, 47, 46, 45, 44] := by
  unfold X10_init
  simp (disch := omega) only [gl_eq, Option.bind_some, rn_some]
  refine ⟨_, rfl, ?_⟩
  repeat (first | exact bR_nil X | refine bR_st ?_ | refine bR_sl (by decide) (by decide) ?_)
theorem X10_init_R (al : Nat → Nat → Bool) (N : Nat) (X : gM) : ∃ R, X10_init al N X = X10_init_T al N R ∧ (∀ k p j, ¬ (44 ≤ k ∧ k ≤ 92) → R k p j = X k p j) ∧ (∀ j, (j = 0 ∨ j = 15 ∨ j = 17 ∨ j = 20 ∨ j = 23) → R 92 0 j = X 92 0 j) ∧ rk_43 0 (R 92 0) = some 0 ∧ (∀ j, (10 ≤ j ∧ j ≤ 13) → R 92 0 j = nI 0) ∧ (∀ k j, (k = 49 ∨ k = 50 ∨ k = 51 ∨ k = 57) → R k 0 j = 0) := by
  obtain ⟨R, r0, r1, r2, r3, r4⟩ := X10_init_R0 al N X
  refine ⟨R, r0, r1, fun j hj => ?_, ?_, fun j hj => ?_, fun k j hk => ?_⟩
  · refine r2 j ?_
    rcases hj with rfl | rfl | rfl | rfl | rfl <;> decide
  · unfold rk_43
    rw [if_pos]
    refine List.all_eq_true.mpr fun j hj => ?_
    have hj2 : R 92 0 j = nI 0 := r3 j (by
      have := List.mem_reverse.mpr hj
      exact this)
    rw [hj2]
    rfl
  · refine r3 j ?_
    have hj4 : j = 10 ∨ j = 11 ∨ j = 12 ∨ j = 13 := by omega
    rcases hj4 with rfl | rfl | rfl | rfl <;> decide
  · refine (r4 k ?_).2 j
    rcases hk with rfl | rfl | rfl | rfl <;> decide
theorem X10_init_L343_eq {al : Nat → Nat → Bool} {N : Nat} (hN : 1000000 ≤ N) {X : gM} (h56 : al 56 0 = true) (h : X 92 0 13 = nI 0) (k : gM → Option (Int32 × gM)) (Q : Option (Int32 × gM) → Prop) (hQ : ∀ Y, (∀ k p j, ¬ (k = 56) → Y k p j = X k p j) → (∀ j, j < 960 → Y 56 0 j = -1) → Q (k Y)) : Q (X10_init_L343 al N k N 0 X) := by
  refine m_up0 960 (fun fu i (Y : gM) => X10_init_L343 al N k fu i Y)
    (fun i Y => (∀ k p j, ¬ (k = 56) → Y k p j = X k p j) ∧ (∀ j, j < i → Y 56 0 j = -1)) Q X (by omega) ?_ ?_ ⟨fun _ _ _ _ => rfl, fun j hj => absurd hj (Nat.not_lt_zero j)⟩
  · rintro i fu Y hi ⟨i1, i2⟩ ih
    have e92 : Y 92 0 13 = nI 0 := by rw [i1 92 0 13 (by omega), h]
    simp (disch := omega) only [X10_init_L343, e92, dr_nI h56 (by omega : 0 < 2147483648), zn_add, zn_mul, zn_addl, zn_ladd, zn_mull, zn_lmul, zn_le, zn_lt, zn_eq, zn_lel, zn_ltl, zn_eql, zn_lle, zn_llt, zn_leq, zn_sub, zn_subl, zn_m1, gl_eq, bind2_some, bind3_some, Option.bind_some, bz_0, bz_1, ib_0, ib_1, ib_bz, rd_nI, rd_l, if_pos, if_neg, if_true, if_false, ite_true, ite_false, eq_self, j00, j10, j20, j30, k00, k01, k02, k03, i20, i30, km0, i10, i01, im0, im1, i0m, i1m]
    refine ih (mset Y 56 0 i (-1)) ⟨fun k p j hk => ?_, fun j hj => ?_⟩
    · rw [mset_at, if_neg (by omega), i1 k p j hk]
    · by_cases hji : j = i
      · subst hji; exact mset_same ..
      · rw [mset_at, if_neg (by omega), i2 j (by omega)]
  · rintro fu Y ⟨i1, i2⟩
    simp (disch := omega) only [X10_init_L343, zn_add, zn_mul, zn_addl, zn_ladd, zn_mull, zn_lmul, zn_le, zn_lt, zn_eq, zn_lel, zn_ltl, zn_eql, zn_lle, zn_llt, zn_leq, zn_sub, zn_subl, zn_m1, gl_eq, bind2_some, bind3_some, Option.bind_some, bz_0, bz_1, ib_0, ib_1, ib_bz, rd_nI, rd_l, if_pos, if_neg, if_true, if_false, ite_true, ite_false, eq_self, j00, j10, j20, j30, k00, k01, k02, k03, i20, i30, km0, i10, i01, im0, im1, i0m, i1m]
    exact hQ Y i1 i2
theorem X10_init_T_eq {al : Nat → Nat → Bool} {N : Nat} (hN : 1000000 ≤ N) {X : gM} (h53 : al 53 0 = true) (h54 : al 54 0 = true) (h55 : al 55 0 = true) (h56 : al 56 0 = true) (h : ∀ j, (10 ≤ j ∧ j ≤ 13) → X 92 0 j = nI 0) :
    ∃ Y, X10_init_T al N X = some (0, Y) ∧ (∀ k p j, ¬ (53 ≤ k ∧ k ≤ 56) → Y k p j = X k p j) ∧ (∀ b, b < 2 → Y 53 0 b = 4) ∧ (∀ k, k < 3 → Y 54 0 k = 1) ∧ (∀ k, k < 3 → Y 55 0 k = 1) ∧ ∀ j, j < 960 → Y 56 0 j = -1 := by
  have c0 := h 10 (by omega)
  have c1 : (mset X 53 0 0 4) 92 0 10 = nI 0 := by rw [mset_at, if_neg (by omega), c0]
  have d53 : ∀ A : gM, dr al 53 (nI 0) = some 0 := fun _ => dr_nI h53 (by omega)
  have d54 : dr al 54 (nI 0) = some 0 := dr_nI h54 (by omega)
  have d55 : dr al 55 (nI 0) = some 0 := dr_nI h55 (by omega)
  simp (disch := omega) only [X10_init_T, c0, c1, d53 X, rd_l, Option.bind_some, gl_eq]
  generalize hR : mset (mset X 53 0 0 4) 53 0 1 4 = R
  have r1 : ∀ k p j, ¬ k = 53 → R k p j = X k p j := fun k p j hk => by
    rw [← hR, mset_at, if_neg (by omega), mset_at, if_neg (by omega)]
  refine m_up0 3 (fun fu i (Y : gM) => X10_init_L316 al N (fun Y => X10_init_J341 al N Y) fu i Y)
    (fun i Y => (∀ k p j, ¬ (k = 54 ∨ k = 55) → Y k p j = R k p j) ∧ (∀ k, k < i → Y 54 0 k = 1) ∧ (∀ k, k < i → Y 55 0 k = 1)) (fun o => ∃ Y, o = some (0, Y) ∧ (∀ k p j, ¬ (53 ≤ k ∧ k ≤ 56) → Y k p j = X k p j) ∧ (∀ b, b < 2 → Y 53 0 b = 4) ∧ (∀ k, k < 3 → Y 54 0 k = 1) ∧ (∀ k, k < 3 → Y 55 0 k = 1) ∧ ∀ j, j < 960 → Y 56 0 j = -1) R (by omega) ?_ ?_ ⟨fun _ _ _ _ => rfl, fun j hj => absurd hj (Nat.not_lt_zero j), fun j hj => absurd hj (Nat.not_lt_zero j)⟩
  · rintro i fu Y hi ⟨i1, i2, i3⟩ ih
    have e11 : Y 92 0 11 = nI 0 := by rw [i1 92 0 11 (by omega), r1 92 0 11 (by omega), h 11 (by omega)]
    have e12 : (mset Y 54 0 i 1) 92 0 12 = nI 0 := by rw [mset_at, if_neg (by omega), i1 92 0 12 (by omega), r1 92 0 12 (by omega), h 12 (by omega)]
    simp (disch := omega) only [X10_init_L316, e11, e12, d54, d55, zn_add, zn_mul, zn_addl, zn_ladd, zn_mull, zn_lmul, zn_le, zn_lt, zn_eq, zn_lel, zn_ltl, zn_eql, zn_lle, zn_llt, zn_leq, zn_sub, zn_subl, zn_m1, gl_eq, bind2_some, bind3_some, Option.bind_some, bz_0, bz_1, ib_0, ib_1, ib_bz, rd_nI, rd_l, if_pos, if_neg, if_true, if_false, ite_true, ite_false, eq_self, j00, j10, j20, j30, k00, k01, k02, k03, i20, i30, km0, i10, i01, im0, im1, i0m, i1m]
    refine ih _ ⟨fun k p j hk => ?_, fun j hj => ?_, fun j hj => ?_⟩
    · rw [mset_at, if_neg (by omega), mset_at, if_neg (by omega), i1 k p j hk]
    · rw [mset_at, if_neg (by omega)]
      by_cases hji : j = i
      · subst hji; exact mset_same ..
      · rw [mset_at, if_neg (by omega), i2 j (by omega)]
    · by_cases hji : j = i
      · subst hji; exact mset_same ..
      · rw [mset_at, if_neg (by omega), mset_at, if_neg (by omega), i3 j (by omega)]
  · rintro fu Y ⟨i1, i2, i3⟩
    simp (disch := omega) only [X10_init_L316, zn_add, zn_mul, zn_addl, zn_ladd, zn_mull, zn_lmul, zn_le, zn_lt, zn_eq, zn_lel, zn_ltl, zn_eql, zn_lle, zn_llt, zn_leq, zn_sub, zn_subl, zn_m1, gl_eq, bind2_some, bind3_some, Option.bind_some, bz_0, bz_1, ib_0, ib_1, ib_bz, rd_nI, rd_l, if_pos, if_neg, if_true, if_false, ite_true, ite_false, eq_self, j00, j10, j20, j30, k00, k01, k02, k03, i20, i30, km0, i10, i01, im0, im1, i0m, i1m]
    unfold X10_init_J341
    refine X10_init_L343_eq (X := Y) hN h56 (by rw [i1 92 0 13 (by omega), r1 92 0 13 (by omega), h 13 (by omega)]) (fun Z => X10_init_J363 al N Z) (fun o => ∃ Y, o = some (0, Y) ∧ (∀ k p j, ¬ (53 ≤ k ∧ k ≤ 56) → Y k p j = X k p j) ∧ (∀ b, b < 2 → Y 53 0 b = 4) ∧ (∀ k, k < 3 → Y 54 0 k = 1) ∧ (∀ k, k < 3 → Y 55 0 k = 1) ∧ ∀ j, j < 960 → Y 56 0 j = -1) (fun Z z1 z2 => ⟨Z, rfl, fun k p j hk => ?_, fun b hb => ?_, fun k hk => ?_, fun k hk => ?_, z2⟩)
    · rw [z1 k p j (by omega), i1 k p j (by omega), r1 k p j (by omega)]
    · rw [z1 53 0 b (by omega), i1 53 0 b (by omega), ← hR]
      have hb2 : b = 0 ∨ b = 1 := by omega
      rcases hb2 with rfl | rfl <;> simp [mset_at]
    · rw [z1 54 0 k (by omega), i2 k hk]
    · rw [z1 55 0 k (by omega), i3 k hk]
