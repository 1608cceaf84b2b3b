/-! word and work -/
theorem tx8_off {X : gM} {t k K i j : Nat} (h1 : ¬ (K = 26 ∧ i = t)) (h2 : ¬ (K = 27 ∧ i = t)) (h3 : ¬ K = 89) : tx8 X t k K i j = X K i j := by
  unfold tx8
  rw [msl_at, if_neg h1, mset_at, if_neg (fun q => h3 q.1), mset_at, if_neg (fun q => h3 q.1), msl_at, if_neg h2]
theorem tx8_26 (X : gM) (t k : Nat) : tx8 X t k 26 t 1 = nI k := by
  unfold tx8
  rw [msl_at, if_pos ⟨rfl, rfl⟩, mset_at, if_pos ⟨rfl, rfl, rfl⟩]
theorem tx8_27 (X : gM) (t k j : Nat) : tx8 X t k 27 t j = tsl k (X 24 0) j := by
  unfold tx8
  rw [msl_at, if_neg (by omega), mset_at, if_neg (by omega), mset_at, if_neg (by omega), msl_at, if_pos ⟨rfl, rfl⟩]
theorem avl_off {L F W W' K K' : Nat} {X Y : gM} (e45 : Y 45 = X 45) (e46 : Y 46 = X 46) {k i : Nat} (h1 : k ≠ 26) (h2 : k ≠ 27) : avl L F W' K' Y k i ↔ avl L F W K X k i := by
  unfold avl
  rw [e45, e46]
  split <;> first | exact Iff.rfl | contradiction | (split <;> first | exact Iff.rfl | contradiction)
theorem X10_work_eq {al : Nat → Nat → Bool} {N D K : Nat} {X : gM} (hN : 1000 ≤ N) (hD : D ≤ 40) (hK : K < 4) (h15 : X 43 0 15 = nI D) (h20 : X 43 0 20 = nI K) :
    ∃ Y, X10_work_L35 al N (fun Y => X10_work_J69 al N Y) N 0 X = some (nI K, Y) ∧ (∀ k p j, ¬ ((k = 62 ∧ 40 * K ≤ j ∧ j < 40 * K + 40) ∨ (k = 61 ∧ j = K) ∨ (k = 43 ∧ (j = 15 ∨ j = 20))) → Y k p j = X k p j) ∧ Y 43 0 15 = nI 0 ∧ Y 43 0 20 = nI (K + 1) ∧ Y 61 0 K = nI D ∧ ∀ j, j < D → Y 62 0 (40 * K + j) = X 58 0 j := by
  refine m_up0 D (fun fu i (Y : gM) => X10_work_L35 al N (fun Y => X10_work_J69 al N Y) fu i Y) (fun i Y => (∀ k p j, ¬ (k = 62 ∧ 40 * K ≤ j ∧ j < 40 * K + 40) → Y k p j = X k p j) ∧ ∀ j, j < i → Y 62 0 (40 * K + j) = X 58 0 j) (fun o => ∃ Y, o = some (nI K, Y) ∧ (∀ k p j, ¬ ((k = 62 ∧ 40 * K ≤ j ∧ j < 40 * K + 40) ∨ (k = 61 ∧ j = K) ∨ (k = 43 ∧ (j = 15 ∨ j = 20))) → Y k p j = X k p j) ∧ Y 43 0 15 = nI 0 ∧ Y 43 0 20 = nI (K + 1) ∧ Y 61 0 K = nI D ∧ ∀ j, j < D → Y 62 0 (40 * K + j) = X 58 0 j) X (by omega) ?_ ?_ ⟨fun _ _ _ _ => rfl, fun j hj => absurd hj (Nat.not_lt_zero j)⟩
  · rintro i fu Y hi ⟨hY, hc⟩ ih
    have e1 : Y 43 0 15 = nI D := (hY 43 0 15 (by omega)).trans h15
    have e2 : Y 43 0 20 = nI K := (hY 43 0 20 (by omega)).trans h20
    simp (disch := omega) only [X10_work_L35, e1, e2, zn_add, zn_mul, zn_addl, zn_ladd, zn_mull, zn_lmul, zn_le, zn_lt, zn_eq, zn_lel, zn_ltl, zn_eql, zn_lle, zn_llt, zn_leq, zn_sub, zn_subl, zn_m1, gl_eq, bind2_some, bind3_some, Option.bind_some, bz_0, bz_1, ib_0, ib_1, ib_bz, rd_nI, rd_l, if_pos, if_neg, if_true, if_false, ite_true, ite_false, eq_self, j00, j10, j20, j30, k00, k01, k02, k03, i20, i30, km0, i10, i01, im0, im1, i0m, i1m]
    refine ih _ ⟨fun k p j hk => ?_, fun j hj => ?_⟩
    · rw [mset_at, if_neg (by omega), hY k p j hk]
    · rw [mset_at]
      by_cases hji : j = i
      · subst hji
        rw [if_pos ⟨rfl, rfl, rfl⟩, hY 58 0 j (by omega)]
      · rw [if_neg (by omega)]; exact hc j (by omega)
  · rintro fu Y ⟨hY, hc⟩
    have e1 : Y 43 0 15 = nI D := (hY 43 0 15 (by omega)).trans h15
    have e2 : Y 43 0 20 = nI K := (hY 43 0 20 (by omega)).trans h20
    have r1 : (mset Y 61 0 K (nI D)) 43 0 20 = nI K := by simp [mset_at, e2]
    have r2 : (mset (mset Y 61 0 K (nI D)) 43 0 15 (0 : Int32)) 43 0 20 = nI K := by simp [mset_at, e2]
    have e3 : K + 1 - 1 = K := by omega
    simp (disch := omega) only [X10_work_L35, X10_work_J69, e1, e2, r1, r2, mset_same, e3, zn_add, zn_mul, zn_addl, zn_ladd, zn_mull, zn_lmul, zn_le, zn_lt, zn_eq, zn_lel, zn_ltl, zn_eql, zn_lle, zn_llt, zn_leq, zn_sub, zn_subl, zn_m1, gl_eq, bind2_some, bind3_some, Option.bind_some, bz_0, bz_1, ib_0, ib_1, ib_bz, rd_nI, rd_l, if_pos, if_neg, if_true, if_false, ite_true, ite_false, eq_self, j00, j10, j20, j30, k00, k01, k02, k03, i20, i30, km0, i10, i01, im0, im1, i0m, i1m]
    refine ⟨_, rfl, fun k p j hk => ?_, ?_, ?_, ?_, fun j hj => ?_⟩
    · simp only [mset_at]
      rw [if_neg (by omega), if_neg (by omega), if_neg (by omega), hY k p j (by omega)]
    · simp [mset_at]; rfl
    · simp [mset_at]
    · simp [mset_at]
    · simp [mset_at, hc j hj]
theorem case8 {NL : List (Nat × Nat)} {al : Nat → Nat → Bool} {N : Nat} {X : gM} (hN : 1000000 ≤ N) (a1 a2 a3 a4 a5 a6 : Int32) (h : gJ NL X) : ∃ (nw : List (Nat × Nat)) (rr : Int32) (X' : gM), gFr NL nw ∧ K8 (gal NL) al N nw a1 a2 a3 a4 a5 a6 X = some (rr, X') ∧ gJ (NL ++ nw) X' := by
  unfold K8
  obtain ⟨L, F, D, W, K, g1, g2, g3, g4, g5, g6, g7, g8, g9, g10, g11, g12⟩ := id h
  obtain ⟨hD, d1, d2, hd⟩ := id g8
  obtain ⟨hW, w1, w2, h25, hw⟩ := id g9
  obtain ⟨hK, k1, k2, h28, hk⟩ := id g10
  have hthr : (D = 0 ∨ K = 4) → ∃ (nw : List (Nat × Nat)) (rr : Int32) (X' : gM), gFr NL nw ∧ (bind2 (L_work (gal NL) N nw X) fun k1 X1 => bind2 (X10_work al N X1) fun k2 X2 => bind2 (X10_thrown al N X2) fun k3 X3 => if k3 = k1 then (if k1 = (0 : Int32) then (if X3 81 0 0 = k2 then some ((0 : Int32), X3) else none) else some ((0 : Int32), X3)) else none) = some (rr, X') ∧ gJ (NL ++ nw) X' := by
    intro hc
    refine ⟨[], 0, mset X 43 0 46 1, ⟨List.nodup_nil, fun n hn => by cases hn⟩, K_thrown (k := 1) (r := 0) (X1 := X) ?_ ?_ (mset_same ..) (by decide), by rw [List.append_nil]; exact gJ_th _ h⟩
    · by_cases h0 : D = 0
      · simp (disch := omega) only [L_work, X9_work, X9_work_J15, d2, h0, eqn_nil, zn_add, zn_mul, zn_addl, zn_ladd, zn_mull, zn_lmul, zn_le, zn_lt, zn_eq, zn_lel, zn_ltl, zn_eql, zn_lle, zn_llt, zn_leq, zn_sub, zn_subl, zn_m1, gl_eq, bind2_some, bind3_some, Option.bind_some, bz_0, bz_1, ib_0, ib_1, ib_bz, rd_nI, rd_l, if_pos, if_neg, if_true, if_false, ite_true, ite_false, eq_self, j00, j10, j20, j30, k00, k01, k02, k03, i20, i30, km0, i10, i01, im0, im1, i0m, i1m]
        try rfl
      · have h4 : K = 4 := by omega
        simp (disch := omega) only [L_work, X9_work, X9_work_J15, d2, k2, h4, eqn_nil, zn_add, zn_mul, zn_addl, zn_ladd, zn_mull, zn_lmul, zn_le, zn_lt, zn_eq, zn_lel, zn_ltl, zn_eql, zn_lle, zn_llt, zn_leq, zn_sub, zn_subl, zn_m1, gl_eq, bind2_some, bind3_some, Option.bind_some, bz_0, bz_1, ib_0, ib_1, ib_bz, rd_nI, rd_l, if_pos, if_neg, if_true, if_false, ite_true, ite_false, eq_self, j00, j10, j20, j30, k00, k01, k02, k03, i20, i30, km0, i10, i01, im0, im1, i0m, i1m]
        try rfl
    · by_cases h0 : D = 0
      · simp (disch := omega) only [X10_work, X10_work_J16, X10_work_J21, d1, h0, mset_same, zn_add, zn_mul, zn_addl, zn_ladd, zn_mull, zn_lmul, zn_le, zn_lt, zn_eq, zn_lel, zn_ltl, zn_eql, zn_lle, zn_llt, zn_leq, zn_sub, zn_subl, zn_m1, gl_eq, bind2_some, bind3_some, Option.bind_some, bz_0, bz_1, ib_0, ib_1, ib_bz, rd_nI, rd_l, if_pos, if_neg, if_true, if_false, ite_true, ite_false, eq_self, j00, j10, j20, j30, k00, k01, k02, k03, i20, i30, km0, i10, i01, im0, im1, i0m, i1m]
        try rfl
      · have h4 : K = 4 := by omega
        simp (disch := omega) only [X10_work, X10_work_J16, X10_work_J21, d1, k1, h4, mset_same, zn_add, zn_mul, zn_addl, zn_ladd, zn_mull, zn_lmul, zn_le, zn_lt, zn_eq, zn_lel, zn_ltl, zn_eql, zn_lle, zn_llt, zn_leq, zn_sub, zn_subl, zn_m1, gl_eq, bind2_some, bind3_some, Option.bind_some, bz_0, bz_1, ib_0, ib_1, ib_bz, rd_nI, rd_l, if_pos, if_neg, if_true, if_false, ite_true, ite_false, eq_self, j00, j10, j20, j30, k00, k01, k02, k03, i20, i30, km0, i10, i01, im0, im1, i0m, i1m]
        try rfl
  by_cases h0 : D = 0
  · exact hthr (Or.inl h0)
  · by_cases h4 : K = 4
    · exact hthr (Or.inr h4)
    · generalize hX1 : mset (mset (mset (tx8 (msl X 89 (12 + K) rz_89) (12 + K) D) 28 0 K (nI (12 + K))) 0 0 11 (nI (K + 1))) 0 0 7 0 = X1
      have x1 : ∀ k p j, ¬ ((k = 26 ∧ p = 12 + K) ∨ (k = 27 ∧ p = 12 + K) ∨ k = 89 ∨ (k = 28 ∧ j = K) ∨ (k = 0 ∧ (j = 7 ∨ j = 11))) → X1 k p j = X k p j := fun k p j hk => by
        rw [← hX1]
        simp only [mset_at]
        rw [if_neg (by omega), if_neg (by omega), if_neg (by omega), tx8_off (by omega) (by omega) (by omega), msl_at, if_neg (by omega)]
      have e1 : L_work (gal NL) N [(26, 12 + K), (27, 12 + K)] X = some (0, mset X1 81 0 0 (nI K)) := by
        have r1 : (msl X 89 (12 + K) rz_89) 0 0 7 = nI D := by simp [msl_at, d2]
        have r2 : (mset (tx8 (msl X 89 (12 + K) rz_89) (12 + K) D) 28 0 K (nI (12 + K))) 0 0 11 = nI K := by
          rw [mset_at, if_neg (by omega), tx8_off (by omega) (by omega) (by omega), msl_at, if_neg (by omega), k2]
        have r3 : eqn [(26, 12 + K), (27, 12 + K)] [(26, 12 + K), (27, 12 + K)] = some () := if_pos rfl
        have hK4 : K < 4 := by omega
        simp (disch := omega) only [L_work, X9_work, d2, k2, r3, rn_some, r1, r2, zn_add, zn_mul, zn_addl, zn_ladd, zn_mull, zn_lmul, zn_le, zn_lt, zn_eq, zn_lel, zn_ltl, zn_eql, zn_lle, zn_llt, zn_leq, zn_sub, zn_subl, zn_m1, gl_eq, bind2_some, bind3_some, Option.bind_some, bz_0, bz_1, ib_0, ib_1, ib_bz, rd_nI, rd_l, if_pos, if_neg, if_true, if_false, ite_true, ite_false, eq_self, j00, j10, j20, j30, k00, k01, k02, k03, i20, i30, km0, i10, i01, im0, im1, i0m, i1m, hX1]
      obtain ⟨Z, z1, z2, z3, z4, z5, z6⟩ := X10_work_eq (al := al) (N := N) (D := D) (K := K) (X := mset (mset X1 81 0 0 (nI K)) 43 0 46 0) (by omega) hD (by omega) (by simp [mset_at, x1, d1]) (by simp [mset_at, x1, k1])
      have e2 : X10_work al N (mset X1 81 0 0 (nI K)) = some (nI K, Z) := by
        have r1 : (mset X1 81 0 0 (nI K)) 43 0 15 = nI D := by simp [mset_at, x1, d1]
        have r2 : (mset X1 81 0 0 (nI K)) 43 0 20 = nI K := by simp [mset_at, x1, k1]
        simp (disch := omega) only [X10_work, X10_work_J21, r1, r2, mset_same, z1, zn_add, zn_mul, zn_addl, zn_ladd, zn_mull, zn_lmul, zn_le, zn_lt, zn_eq, zn_lel, zn_ltl, zn_eql, zn_lle, zn_llt, zn_leq, zn_sub, zn_subl, zn_m1, gl_eq, bind2_some, bind3_some, Option.bind_some, bz_0, bz_1, ib_0, ib_1, ib_bz, rd_nI, rd_l, if_pos, if_neg, if_true, if_false, ite_true, ite_false, eq_self, j00, j10, j20, j30, k00, k01, k02, k03, i20, i30, km0, i10, i01, im0, im1, i0m, i1m]
      have hZ1 : ∀ k p j, ¬ ((k = 62 ∧ 40 * K ≤ j ∧ j < 40 * K + 40) ∨ (k = 61 ∧ j = K) ∨ (k = 43 ∧ (j = 15 ∨ j = 20 ∨ j = 46)) ∨ k = 81) → Z k p j = X1 k p j := fun k p j hk => by
        rw [z2 k p j (by omega)]
        simp only [mset_at]
        rw [if_neg (by omega), if_neg (by omega)]
      have hZ : ∀ k p j, ¬ ((k = 62 ∧ 40 * K ≤ j ∧ j < 40 * K + 40) ∨ (k = 61 ∧ j = K) ∨ (k = 43 ∧ (j = 15 ∨ j = 20 ∨ j = 46)) ∨ k = 81 ∨ (k = 26 ∧ p = 12 + K) ∨ (k = 27 ∧ p = 12 + K) ∨ k = 89 ∨ (k = 28 ∧ j = K) ∨ (k = 0 ∧ (j = 7 ∨ j = 11))) → Z k p j = X k p j := fun k p j hk => by
        rw [hZ1 k p j (by omega), x1 k p j (by omega)]
      have hnew : ∀ n ∈ [(26, 12 + K), (27, 12 + K)], n ∉ NL := by
        intro n hn hin
        have hav := (g1 n.1 n.2).mp hin
        rcases List.mem_cons.mp hn with rfl | hn
        · change 12 + K < W ∨ (12 ≤ 12 + K ∧ 12 + K < 12 + K) at hav; omega
        · rw [List.mem_singleton] at hn
          subst hn
          change 12 + K < W ∨ (12 ≤ 12 + K ∧ 12 + K < 12 + K) at hav; omega
      refine ⟨[(26, 12 + K), (27, 12 + K)], 0, Z, ⟨by simp, fun n hn => ⟨hnew n hn, ?_⟩⟩, K_ans e1 e2 ?_ ?_, ?_⟩
      · rcases List.mem_cons.mp hn with rfl | hn
        · exact ⟨by show (26 : Nat) < 82; decide, by show (26 : Nat) ≠ 38; decide⟩
        · rw [List.mem_singleton] at hn
          subst hn
          exact ⟨by show (27 : Nat) < 82; decide, by show (27 : Nat) ≠ 38; decide⟩
      · rw [z2 43 0 46 (by omega)]; simp [mset_at]
      · rw [z2 81 0 0 (by omega)]; simp [mset_at]
      · have e45 : Z 45 = X 45 := funext fun p => funext fun j => hZ 45 p j (by omega)
        have e46 : Z 46 = X 46 := funext fun p => funext fun j => hZ 46 p j (by omega)
        refine ⟨L, F, 0, W, K + 1, ?_, jL_cg (fun k p j hd => hZ k p j (by simp only [djN, djL, djC, djZ, djH, djB, djF, djD, djW, djK, djI, djS, Bool.or_eq_true, Bool.and_eq_true, decide_eq_true_eq] at hd; omega)) g2, jC_cg (fun k p j hd => hZ k p j (by simp only [djN, djL, djC, djZ, djH, djB, djF, djD, djW, djK, djI, djS, Bool.or_eq_true, Bool.and_eq_true, decide_eq_true_eq] at hd; omega)) g3, jZ_cg (fun k p j hd => hZ k p j (by simp only [djN, djL, djC, djZ, djH, djB, djF, djD, djW, djK, djI, djS, Bool.or_eq_true, Bool.and_eq_true, decide_eq_true_eq] at hd; omega)) g4, jH_cg (fun k p j hd => hZ k p j (by simp only [djN, djL, djC, djZ, djH, djB, djF, djD, djW, djK, djI, djS, Bool.or_eq_true, Bool.and_eq_true, decide_eq_true_eq] at hd; omega)) g5, jB_cg (fun k p j hd => hZ k p j (by simp only [djN, djL, djC, djZ, djH, djB, djF, djD, djW, djK, djI, djS, Bool.or_eq_true, Bool.and_eq_true, decide_eq_true_eq] at hd; omega)) g6, jF_cg (fun k p j hd => hZ k p j (by simp only [djN, djL, djC, djZ, djH, djB, djF, djD, djW, djK, djI, djS, Bool.or_eq_true, Bool.and_eq_true, decide_eq_true_eq] at hd; omega)) g7, ?_, ?_, ?_, jI_cg (fun k p j hd => hZ k p j (by simp only [djN, djL, djC, djZ, djH, djB, djF, djD, djW, djK, djI, djS, Bool.or_eq_true, Bool.and_eq_true, decide_eq_true_eq] at hd; omega)) g11, jS_cg (fun k p j hd => hZ k p j (by simp only [djN, djL, djC, djZ, djH, djB, djF, djD, djW, djK, djI, djS, Bool.or_eq_true, Bool.and_eq_true, decide_eq_true_eq] at hd; omega)) g12⟩
        · intro k i
          rw [List.mem_append, g1 k i]
          by_cases h26 : k = 26
          · subst h26
            simp only [List.mem_cons, List.not_mem_nil, or_false, Prod.mk.injEq, avl, true_and]
            omega
          · by_cases h27 : k = 27
            · subst h27
              simp only [List.mem_cons, List.not_mem_nil, or_false, Prod.mk.injEq, avl, true_and]
              omega
            · rw [avl_off (K := K) (W := W) (X := X) e45 e46 h26 h27]
              simp only [List.mem_cons, List.not_mem_nil, or_false, Prod.mk.injEq]
              constructor
              · rintro (q | q | q)
                · exact q
                · exact absurd q.1 h26
                · exact absurd q.1 h27
              · exact Or.inl
        · refine ⟨by omega, z3, ?_, fun j hj => absurd hj (Nat.not_lt_zero j)⟩
          rw [hZ1 0 0 7 (by omega), ← hX1]; simp [mset_at]; rfl
        · refine ⟨hW, (hZ 43 0 17 (by omega)).trans w1, (hZ 0 0 9 (by omega)).trans w2, fun j => (hZ 25 0 j (by omega)).trans (h25 j), fun v hv => ?_⟩
          obtain ⟨n, n1, n2, q1, q2, q3, q4⟩ := hw v hv
          refine ⟨n, n1, n2, (hZ 59 0 v (by omega)).trans q1, (hZ 26 v 1 (by omega)).trans q2, (hZ 27 v 99 (by omega)).trans q3, fun k hk => ?_⟩
          obtain ⟨u, u1, u2, u3⟩ := q4 k hk
          exact ⟨u, u1, (hZ 60 0 _ (by omega)).trans u2, (hZ 27 v k (by omega)).trans u3⟩
        · refine ⟨by omega, z4, ?_, fun j => ?_, fun v hv => ?_⟩
          · rw [hZ1 0 0 11 (by omega), ← hX1]; simp [mset_at]
          · by_cases hjK : j = K
            · subst hjK
              rw [hZ1 28 0 j (by omega), ← hX1, if_pos (by omega)]; simp [mset_at]
            · rw [hZ 28 0 j (by omega), h28 j]
              by_cases hlt : j < K
              · rw [if_pos hlt, if_pos (by omega)]
              · rw [if_neg hlt, if_neg (by omega)]
          · by_cases hvK : v = K
            · subst hvK
              have r27 : ∀ j, Z 27 (12 + v) j = tsl D (X 24 0) j := fun j => by
                rw [hZ1 27 _ j (by omega), ← hX1]
                simp only [mset_at]
                rw [if_neg (by omega), if_neg (by omega), if_neg (by omega), tx8_27]
                have : (msl X 89 (12 + v) rz_89) 24 0 = X 24 0 := by funext j'; simp [msl_at]
                rw [this]
              refine ⟨D, by omega, hD, z5, ?_, ?_, fun k hk => ?_⟩
              · rw [hZ1 26 _ 1 (by omega), ← hX1]
                simp only [mset_at]
                rw [if_neg (by omega), if_neg (by omega), if_neg (by omega), tx8_26]
              · rw [r27]; unfold tsl; rw [if_neg (by omega), if_pos rfl]
              · obtain ⟨u, u1, u2, u3⟩ := hd k hk
                refine ⟨u, u1, ?_, ?_⟩
                · rw [z6 k hk]; simp [mset_at, x1, u2]
                · rw [r27]; unfold tsl; rw [if_pos hk, u3]
            · obtain ⟨n, n1, n2, q1, q2, q3, q4⟩ := hk v (by omega)
              refine ⟨n, n1, n2, (hZ 61 0 v (by omega)).trans q1, (hZ 26 _ 1 (by omega)).trans q2, (hZ 27 _ 99 (by omega)).trans q3, fun k hk => ?_⟩
              obtain ⟨u, u1, u2, u3⟩ := q4 k hk
              exact ⟨u, u1, (hZ 62 0 _ (by omega)).trans u2, (hZ 27 _ k (by omega)).trans u3⟩
