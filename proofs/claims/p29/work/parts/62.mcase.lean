/-! a round of the law: from what both sides answer -/
theorem eqn_nil : eqn [] [] = some () := rfl
theorem thr_eq (al : Nat → Nat → Bool) (N : Nat) (X : gM) : X10_thrown al N X = some (X 43 0 46, X) := rfl
theorem K_thrown {A : Option (Int32 × gM)} {B : gM → Option (Int32 × gM)} {al : Nat → Nat → Bool} {N : Nat} {k r : Int32} {X1 X2 : gM} (hA : A = some (k, X1)) (hB : B X1 = some (r, X2)) (ht : X2 43 0 46 = k) (hk : ¬ k = 0) :
    (bind2 A fun k1 X1 => bind2 (B X1) fun k2 X2 => bind2 (X10_thrown al N X2) fun k3 X3 => if k3 = k1 then (if k1 = (0 : Int32) then (if X3 81 0 0 = k2 then some ((0 : Int32), X3) else none) else some ((0 : Int32), X3)) else none) = some (0, X2) := by
  rw [hA, bind2_some, hB, bind2_some, thr_eq, bind2_some, if_pos ht, if_neg hk]
theorem K_ans {A : Option (Int32 × gM)} {B : gM → Option (Int32 × gM)} {al : Nat → Nat → Bool} {N : Nat} {r : Int32} {X1 X2 : gM} (hA : A = some (0, X1)) (hB : B X1 = some (r, X2)) (ht : X2 43 0 46 = 0) (hr : X2 81 0 0 = r) :
    (bind2 A fun k1 X1 => bind2 (B X1) fun k2 X2 => bind2 (X10_thrown al N X2) fun k3 X3 => if k3 = k1 then (if k1 = (0 : Int32) then (if X3 81 0 0 = k2 then some ((0 : Int32), X3) else none) else some ((0 : Int32), X3)) else none) = some (0, X2) := by
  rw [hA, bind2_some, hB, bind2_some, thr_eq, bind2_some, if_pos ht, if_pos rfl, if_pos hr]
theorem mset_same (X : gM) (K i j : Nat) (v : Int32) : mset X K i j v K i j = v := by rw [mset_at, if_pos ⟨rfl, rfl, rfl⟩]
theorem gJ_th {NL : List (Nat × Nat)} {X : gM} (v : Int32) (h : gJ NL X) : gJ NL (mset X 43 0 46 v) := gJ_sm (Sm.rfl.set rfl) h
theorem gJ_out {NL : List (Nat × Nat)} {X : gM} (v : Int32) (h : gJ NL X) : gJ NL (mset X 81 0 0 v) := gJ_sm (Sm.rfl.set rfl) h
theorem dset {d : Nat → Nat → Bool} {X Y : gM} {K i j : Nat} {v : Int32} (h : ∀ k i j, d k j = true → Y k i j = X k i j) (hd : d K j = false) : ∀ k i' j', d k j' = true → mset Y K i j v k i' j' = X k i' j' := by
  intro k i' j' hk
  rw [mset_at, if_neg, h k i' j' hk]
  rintro ⟨rfl, _, rfl⟩
  rw [hd] at hk
  cases hk
/-! type -/
theorem case6 {NL : List (Nat × Nat)} {al : Nat → Nat → Bool} {N : Nat} {X : gM} (a1 a2 a3 a4 a5 a6 : Int32) (h : gJ NL X) : ∃ (rr : Int32) (X' : gM), K6 (gal NL) al N [] a1 a2 a3 a4 a5 a6 X = some (rr, X') ∧ gJ NL X' := by
  unfold K6
  rw [eqn_nil, Option.bind_some]
  obtain ⟨L, F, D, W, K, g1, g2, g3, g4, g5, g6, g7, g8, g9, g10, g11, g12⟩ := id h
  obtain ⟨hD, e1, e2, hd⟩ := id g8
  by_cases hl : 0 ≤ a1 ∧ a1 ≤ 25
  · obtain ⟨v, hv, rfl⟩ := zn_ofl (k := 25) (by omega) hl.1 hl.2
    by_cases hm : D = 40
    · subst hm
      refine ⟨_, _, K_thrown (k := 2) (r := 0) (X1 := X) (X2 := mset X 43 0 46 2) ?_ ?_ (mset_same ..) (by decide), gJ_th _ h⟩
      · simp (disch := omega) only [L_type, X9_type, X9_isLetter_eq, if_pos hl, e2, zn_add, zn_mul, zn_addl, zn_ladd, zn_mull, zn_lmul, zn_le, zn_lt, zn_eq, zn_lel, zn_ltl, zn_eql, zn_lle, zn_llt, zn_leq, zn_sub, zn_subl, zn_m1, gl_eq, bind2_some, bind3_some, Option.bind_some, bz_0, bz_1, ib_0, ib_1, ib_bz, rd_nI, rd_l, if_pos, if_neg, if_true, if_false, ite_true, ite_false, eq_self, j00, j10, j20, j30, k00, k01, k02, k03, i20, i30, km0, i10, i01, im0, im1, i0m, i1m]
        try rfl
      · simp (disch := omega) only [X10_type, X10_type_J29, X10_in_eq, if_pos hl, e1, zn_add, zn_mul, zn_addl, zn_ladd, zn_mull, zn_lmul, zn_le, zn_lt, zn_eq, zn_lel, zn_ltl, zn_eql, zn_lle, zn_llt, zn_leq, zn_sub, zn_subl, zn_m1, gl_eq, bind2_some, bind3_some, Option.bind_some, bz_0, bz_1, ib_0, ib_1, ib_bz, rd_nI, rd_l, if_pos, if_neg, if_true, if_false, ite_true, ite_false, eq_self, j00, j10, j20, j30, k00, k01, k02, k03, i20, i30, km0, i10, i01, im0, im1, i0m, i1m, mset_same]
        try rfl
    · refine ⟨_, _, K_ans (r := nI (D + 1)) (X1 := mset (mset (mset X 24 0 D (nI v)) 0 0 7 (nI (D + 1))) 81 0 0 (nI (D + 1))) (X2 := mset (mset (mset (mset (mset (mset X 24 0 D (nI v)) 0 0 7 (nI (D + 1))) 81 0 0 (nI (D + 1))) 43 0 46 0) 58 0 D (nI v)) 43 0 15 (nI (D + 1))) ?_ ?_ ?_ ?_, ?_⟩
      · simp (disch := omega) only [L_type, X9_type, X9_isLetter_eq, if_pos hl, e2, zn_add, zn_mul, zn_addl, zn_ladd, zn_mull, zn_lmul, zn_le, zn_lt, zn_eq, zn_lel, zn_ltl, zn_eql, zn_lle, zn_llt, zn_leq, zn_sub, zn_subl, zn_m1, gl_eq, bind2_some, bind3_some, Option.bind_some, bz_0, bz_1, ib_0, ib_1, ib_bz, rd_nI, rd_l, if_pos, if_neg, if_true, if_false, ite_true, ite_false, eq_self, j00, j10, j20, j30, k00, k01, k02, k03, i20, i30, km0, i10, i01, im0, im1, i0m, i1m, mset_at, mset_row, and_true, true_and, and_self, and_false, false_and, if_true, if_false, reduceIte, reduceCtorEq]
        try rfl
      · simp (disch := omega) only [X10_type, X10_type_J29, X10_in_eq, if_pos hl, e1, zn_add, zn_mul, zn_addl, zn_ladd, zn_mull, zn_lmul, zn_le, zn_lt, zn_eq, zn_lel, zn_ltl, zn_eql, zn_lle, zn_llt, zn_leq, zn_sub, zn_subl, zn_m1, gl_eq, bind2_some, bind3_some, Option.bind_some, bz_0, bz_1, ib_0, ib_1, ib_bz, rd_nI, rd_l, if_pos, if_neg, if_true, if_false, ite_true, ite_false, eq_self, j00, j10, j20, j30, k00, k01, k02, k03, i20, i30, km0, i10, i01, im0, im1, i0m, i1m, mset_at, mset_row, and_true, true_and, and_self, and_false, false_and, if_true, if_false, reduceIte, reduceCtorEq]
        try simp (disch := omega) [mset_at, e1, zn_add, zn_mul, zn_addl, zn_ladd, zn_mull, zn_lmul, zn_le, zn_lt, zn_eq, zn_lel, zn_ltl, zn_eql, zn_lle, zn_llt, zn_leq, zn_sub, zn_subl, zn_m1, gl_eq, bind2_some, bind3_some, Option.bind_some, bz_0, bz_1, ib_0, ib_1, ib_bz, rd_nI, rd_l, if_pos, if_neg, if_true, if_false, ite_true, ite_false, eq_self, j00, j10, j20, j30, k00, k01, k02, k03, i20, i30, km0, i10, i01, im0, im1, i0m, i1m]
      · simp [mset_at, mset_row]
      · simp [mset_at, mset_row]
      · refine ⟨L, F, D + 1, W, K, jN_cg (by repeat (first | exact (fun _ _ _ _ => rfl) | refine dset ?_ rfl)) g1, jL_cg (by repeat (first | exact (fun _ _ _ _ => rfl) | refine dset ?_ rfl)) g2, jC_cg (by repeat (first | exact (fun _ _ _ _ => rfl) | refine dset ?_ rfl)) g3, jZ_cg (by repeat (first | exact (fun _ _ _ _ => rfl) | refine dset ?_ rfl)) g4, jH_cg (by repeat (first | exact (fun _ _ _ _ => rfl) | refine dset ?_ rfl)) g5, jB_cg (by repeat (first | exact (fun _ _ _ _ => rfl) | refine dset ?_ rfl)) g6, jF_cg (by repeat (first | exact (fun _ _ _ _ => rfl) | refine dset ?_ rfl)) g7, ?_, jW_cg (by repeat (first | exact (fun _ _ _ _ => rfl) | refine dset ?_ rfl)) g9, jK_cg (by repeat (first | exact (fun _ _ _ _ => rfl) | refine dset ?_ rfl)) g10, jI_cg (by repeat (first | exact (fun _ _ _ _ => rfl) | refine dset ?_ rfl)) g11, jS_cg (by repeat (first | exact (fun _ _ _ _ => rfl) | refine dset ?_ rfl)) g12⟩
        refine ⟨by omega, by simp [mset_at, mset_row], by simp [mset_at, mset_row], fun j hj => ?_⟩
        by_cases hjD : j = D
        · subst hjD
          exact ⟨v, by omega, by simp [mset_at, mset_row], by simp [mset_at, mset_row]⟩
        · obtain ⟨u, hu, h1, h2⟩ := hd j (by omega)
          exact ⟨u, hu, by simp [mset_at, mset_row, hjD, h1], by simp [mset_at, mset_row, hjD, h2]⟩
  · refine ⟨_, _, K_thrown (k := 1) (r := 0) (X1 := X) (X2 := mset X 43 0 46 1) ?_ ?_ (mset_same ..) (by decide), gJ_th _ h⟩
    · simp (disch := omega) only [L_type, X9_type, X9_isLetter_eq, if_neg hl, zn_add, zn_mul, zn_addl, zn_ladd, zn_mull, zn_lmul, zn_le, zn_lt, zn_eq, zn_lel, zn_ltl, zn_eql, zn_lle, zn_llt, zn_leq, zn_sub, zn_subl, zn_m1, gl_eq, bind2_some, bind3_some, Option.bind_some, bz_0, bz_1, ib_0, ib_1, ib_bz, rd_nI, rd_l, if_pos, if_neg, if_true, if_false, ite_true, ite_false, eq_self, j00, j10, j20, j30, k00, k01, k02, k03, i20, i30, km0, i10, i01, im0, im1, i0m, i1m]
      try rfl
    · simp (disch := omega) only [X10_type, X10_type_J29, X10_in_eq, if_neg hl, zn_add, zn_mul, zn_addl, zn_ladd, zn_mull, zn_lmul, zn_le, zn_lt, zn_eq, zn_lel, zn_ltl, zn_eql, zn_lle, zn_llt, zn_leq, zn_sub, zn_subl, zn_m1, gl_eq, bind2_some, bind3_some, Option.bind_some, bz_0, bz_1, ib_0, ib_1, ib_bz, rd_nI, rd_l, if_pos, if_neg, if_true, if_false, ite_true, ite_false, eq_self, j00, j10, j20, j30, k00, k01, k02, k03, i20, i30, km0, i10, i01, im0, im1, i0m, i1m, mset_same]
      try rfl
