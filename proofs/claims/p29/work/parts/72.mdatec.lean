/-! the cases date and dates -/
theorem itF_cg {X Y : gM} (h63 : Y 63 0 = X 63 0) (h64 : Y 64 0 = X 64 0) (h65 : Y 65 0 = X 65 0) (h66 : Y 66 0 = X 66 0) (h67 : Y 67 0 = X 67 0) (F : Nat) (s : Int32) (n : Nat) : itF Y F s n = itF X F s n := by
  have e1 : ∀ s f, st1 Y s f = st1 X s f := fun s f => by
    unfold st1 edg prF
    rw [h63, h64, h65, h66, h67]
  have e2 : ∀ s n, psF Y s n = psF X s n := fun s n => by
    induction n with
    | zero => rfl
    | succ n ih => unfold psF; rw [ih, e1]
  induction n with
  | zero => rfl
  | succ n ih => unfold itF; rw [ih, e2]
theorem dtF_cg {x y : Nat → Int32} {s : Int32} {n : Nat} (h : ∀ k, k < n → x k = y k) : dtF x s n = dtF y s n := by
  induction n with
  | zero => rfl
  | succ n ih => unfold dtF; rw [ih (fun k hk => h k (by omega)), h n (by omega)]
theorem jF_23 {L F : Nat} {X : gM} (g : jF L F X) : ∀ f, f < F → X 23 f 2 = X 63 0 f ∧ X 23 f 3 = X 64 0 f ∧ X 23 f 4 = X 65 0 f ∧ X 23 f 5 = X 66 0 f ∧ X 23 f 6 = X 67 0 f := by
  intro f hf
  obtain ⟨k, a, o, b, hk, ha, hb, f44, f63, f64, f65, q3, qn3, f0, f1, f2, f3, f4, f5, f6, f66, f67⟩ := g.2.2.2.2 f hf
  exact ⟨f2.trans f63.symm, f3.trans f64.symm, f4.trans f65.symm, f5, f6⟩
theorem jF_ed {L F : Nat} {X : gM} (g : jF L F X) (hL : L ≤ 10) : edR X F := by
  intro f hf he
  obtain ⟨k, a, o, b, hk, ha, hb, f44, f63, f64, f65, q3, qn3, -⟩ := g.2.2.2.2 f hf
  have h0 := (of_decide_eq_true he).2.2
  rw [f63] at h0
  have : k = 0 := (zn_eql (k := 0) (by omega) (by decide)).mp h0
  obtain ⟨r1, -, -⟩ := qn3 (by omega)
  exact ⟨a, o, by omega, by omega, f64, f65⟩
theorem case20 {NL : List (Nat × Nat)} {al : Nat → Nat → Bool} {N : Nat} {X : gM} (hN : 1000000 ≤ N) (a1 a2 a3 a4 a5 a6 : Int32) (h : gJ NL X) : ∃ (rr : Int32) (X' : gM), K20 (gal NL) al N [] a1 a2 a3 a4 a5 a6 X = some (rr, X') ∧ gJ NL X' := by
  unfold K20
  rw [eqn_nil, Option.bind_some]
  obtain ⟨L, F, D, W, K, g1, g2, g3, g4, g5, g6, g7, g8, g9, g10, g11, g12⟩ := id h
  obtain ⟨hL, h430, h002, h4, hlf⟩ := id g2
  obtain ⟨hF, h23, h5f, h22, hf⟩ := id g7
  rcases ir_or a1 (n := L) (by omega) with ⟨i, hi, rfl⟩ | h1
  · have hal : ∀ i, i < L → gal NL 5 i = true := fun i hi => gal_al g1 hi
    have hal23 : ∀ f, f < F → gal NL 23 f = true := fun f hf => gal_al g1 hf
    have h50 : ∀ i, i < L → X 5 i 0 = nI i := fun i hi => by
      obtain ⟨b, ln, w, hb, l1, l2, w1, w2, f44, f45, f46, f50, -⟩ := hlf i hi
      exact f50
    have h512 : ∀ i, i < L → X 5 i 12 = X 52 0 i := fun i hi => by
      obtain ⟨b, ln, w, hb, l1, l2, w1, w2, f44, f45, f46, f50, f51, f52, f53, f6, f55, f55b, f56, f56b, f57, f58, f59, f510, f511, f511b, f512⟩ := hlf i hi
      exact f512
    have y1 := X9_spansOf_eq (al := gal NL) (N := N) (by omega) hF hL h22 hal23 (jF_23 g7) h4 h50 hal hi
    rw [dtF_cg (y := X 52 0) h512] at y1
    generalize hv : dtF (X 52 0) (itF X F ((1 : Int32) <<< (nI i &&& 31)) 10) L = v at y1
    have e1 : L_dates (gal NL) N (nI i) X = some (0, mset X 81 0 0 v) := by
      simp (disch := omega) only [L_dates, X9_dates, X9_leafOf_yes hL h4 hi, if_neg (zn_nn (a := i) (by omega)), dr_nI (hal i hi) (by omega : i < 2147483648), y1, zn_add, zn_mul, zn_addl, zn_ladd, zn_mull, zn_lmul, zn_le, zn_lt, zn_eq, zn_lel, zn_ltl, zn_eql, zn_lle, zn_llt, zn_leq, zn_sub, zn_subl, zn_m1, gl_eq, bind2_some, bind3_some, Option.bind_some, bz_0, bz_1, ib_0, ib_1, ib_bz, rd_nI, rd_l, if_pos, if_neg, if_true, if_false, ite_true, ite_false, eq_self, j00, j10, j20, j30, k00, k01, k02, k03, i20, i30, km0, i10, i01, im0, im1, i0m, i1m]
    have z1 := X10_datesOf_eq (al := al) (N := N) (F := F) (L := L) (i := i) (X := mset (mset X 81 0 0 v) 43 0 46 0) (by omega) hF hL (by simp [mset_at, h430]) (by simp [mset_at, h23])
      (fun f hf he => by
        obtain ⟨a, b, q1, q2, q3, q4⟩ := jF_ed g7 hL f hf (by simpa [edg, mset_at] using he)
        exact ⟨a, b, q1, q2, by simpa [mset_at] using q3, by simpa [mset_at] using q4⟩) hi
    rw [itF_cg (X := X) (by funext j; simp [mset_at]) (by funext j; simp [mset_at]) (by funext j; simp [mset_at]) (by funext j; simp [mset_at]) (by funext j; simp [mset_at]), dtF_cg (y := X 52 0) (fun k _ => by simp [mset_at]), hv] at z1
    have e2 : X10_dates al N (nI i) (mset X 81 0 0 v) = some (v, mset (mset X 81 0 0 v) 43 0 46 0) := by
      have r1 : (mset X 81 0 0 v) 43 0 0 = nI L := by simp [mset_at, h430]
      simp (disch := omega) only [X10_dates, X10_dates_J14, X10_dates_J33, X10_isLeaf_eq al N _ r1 (by omega : L < 2147483648), if_pos (ir_nI (by omega) hi : ir (nI i) L), mset_same, z1, zn_add, zn_mul, zn_addl, zn_ladd, zn_mull, zn_lmul, zn_le, zn_lt, zn_eq, zn_lel, zn_ltl, zn_eql, zn_lle, zn_llt, zn_leq, zn_sub, zn_subl, zn_m1, gl_eq, bind2_some, bind3_some, Option.bind_some, bz_0, bz_1, ib_0, ib_1, ib_bz, rd_nI, rd_l, if_pos, if_neg, if_true, if_false, ite_true, ite_false, eq_self, j00, j10, j20, j30, k00, k01, k02, k03, i20, i30, km0, i10, i01, im0, im1, i0m, i1m]
    refine ⟨0, _, K_ans e1 e2 ?_ ?_, gJ_th _ (gJ_out _ h)⟩
    · simp [mset_at]
    · simp [mset_at]
  · refine ⟨_, _, K_thrown (k := 1) (r := 0) (X1 := X) (X2 := mset X 43 0 46 1) ?_ ?_ (mset_same ..) (by decide), gJ_th _ h⟩
    · simp (disch := omega) only [L_dates, X9_dates, X9_leafOf_no hL h4 h1, zn_add, zn_mul, zn_addl, zn_ladd, zn_mull, zn_lmul, zn_le, zn_lt, zn_eq, zn_lel, zn_ltl, zn_eql, zn_lle, zn_llt, zn_leq, zn_sub, zn_subl, zn_m1, gl_eq, bind2_some, bind3_some, Option.bind_some, bz_0, bz_1, ib_0, ib_1, ib_bz, rd_nI, rd_l, if_pos, if_neg, if_true, if_false, ite_true, ite_false, eq_self, j00, j10, j20, j30, k00, k01, k02, k03, i20, i30, km0, i10, i01, im0, im1, i0m, i1m]
      try rfl
    · simp (disch := omega) only [X10_dates, X10_dates_J14, X10_dates_J33, X10_isLeaf_eq al N _ h430 (by omega : L < 2147483648), if_neg h1, mset_same, zn_add, zn_mul, zn_addl, zn_ladd, zn_mull, zn_lmul, zn_le, zn_lt, zn_eq, zn_lel, zn_ltl, zn_eql, zn_lle, zn_llt, zn_leq, zn_sub, zn_subl, zn_m1, gl_eq, bind2_some, bind3_some, Option.bind_some, bz_0, bz_1, ib_0, ib_1, ib_bz, rd_nI, rd_l, if_pos, if_neg, if_true, if_false, ite_true, ite_false, eq_self, j00, j10, j20, j30, k00, k01, k02, k03, i20, i30, km0, i10, i01, im0, im1, i0m, i1m]
      try rfl
theorem case19 {NL : List (Nat × Nat)} {al : Nat → Nat → Bool} {N : Nat} {X : gM} (hN : 1000000 ≤ N) (a1 a2 a3 a4 a5 a6 : Int32) (h : gJ NL X) : ∃ (rr : Int32) (X' : gM), K19 (gal NL) al N [] a1 a2 a3 a4 a5 a6 X = some (rr, X') ∧ gJ NL X' := by
  unfold K19
  rw [eqn_nil, Option.bind_some]
  obtain ⟨L, F, D, W, K, g1, g2, g3, g4, g5, g6, g7, g8, g9, g10, g11, g12⟩ := id h
  obtain ⟨hL, h430, h002, h4, hlf⟩ := id g2
  obtain ⟨hF, h23, h5f, h22, hf⟩ := id g7
  rcases ir_or a1 (n := L) (by omega) with ⟨i, hi, rfl⟩ | h1
  · have hil : ir (nI i) L := ir_nI (by omega) hi
    have hal : ∀ i, i < L → gal NL 5 i = true := fun i hi => gal_al g1 hi
    by_cases c2 : 0 ≤ a2 ∧ a2 ≤ 4095
    · obtain ⟨b, ln, w, hb, l1, l2, w1, w2, f44, f45, f46, f50, f51, f52, f53, f6, f55, f55b, f56, f56b, f57, f58, f59, f510, ⟨t, ht, f511⟩, f511b, f512⟩ := hlf i hi
      by_cases ht4 : t = 4
      · subst ht4
        have r511 : X 5 i 11 = nI 4 := f511b.trans f511
        refine ⟨_, _, K_thrown (k := 3) (r := 0) (X1 := X) (X2 := mset (mset X 43 0 46 0) 43 0 46 3) ?_ ?_ (mset_same ..) (by decide), gJ_th _ (gJ_th _ h)⟩
        · simp (disch := omega) only [L_date, X9_date, X9_leafOf_yes hL h4 hi, if_neg (zn_nn (a := i) (by omega)), X9_isWithin_eq, if_pos c2, dr_nI (hal i hi) (by omega : i < 2147483648), r511, zn_add, zn_mul, zn_addl, zn_ladd, zn_mull, zn_lmul, zn_le, zn_lt, zn_eq, zn_lel, zn_ltl, zn_eql, zn_lle, zn_llt, zn_leq, zn_sub, zn_subl, zn_m1, gl_eq, bind2_some, bind3_some, Option.bind_some, bz_0, bz_1, ib_0, ib_1, ib_bz, rd_nI, rd_l, if_pos, if_neg, if_true, if_false, ite_true, ite_false, eq_self, j00, j10, j20, j30, k00, k01, k02, k03, i20, i30, km0, i10, i01, im0, im1, i0m, i1m]
          try rfl
        · have r51 : (mset X 43 0 46 0) 51 0 i = nI 4 := by simp [mset_at, f511]
          simp (disch := omega) only [X10_date, X10_date_J29, X10_date_J62, X10_isLeaf_eq al N _ h430 (by omega : L < 2147483648), if_pos hil, X10_in_eq, if_pos c2, mset_same, r51, zn_add, zn_mul, zn_addl, zn_ladd, zn_mull, zn_lmul, zn_le, zn_lt, zn_eq, zn_lel, zn_ltl, zn_eql, zn_lle, zn_llt, zn_leq, zn_sub, zn_subl, zn_m1, gl_eq, bind2_some, bind3_some, Option.bind_some, bz_0, bz_1, ib_0, ib_1, ib_bz, rd_nI, rd_l, if_pos, if_neg, if_true, if_false, ite_true, ite_false, eq_self, j00, j10, j20, j30, k00, k01, k02, k03, i20, i30, km0, i10, i01, im0, im1, i0m, i1m]
          try rfl
      · have r511 : X 5 i 11 = nI t := f511b.trans f511
        have hal23 : ∀ f, f < F → gal NL 23 f = true := fun f hf => gal_al g1 hf
        have h50 : ∀ i, i < L → X 5 i 0 = nI i := fun i hi => by
          obtain ⟨b, ln, w, hb, l1, l2, w1, w2, f44, f45, f46, f50, -⟩ := hlf i hi
          exact f50
        have h512 : ∀ i, i < L → X 5 i 12 = X 52 0 i := fun i hi => by
          obtain ⟨b, ln, w, hb, l1, l2, w1, w2, f44, f45, f46, f50, f51, f52, f53, f6, f55, f55b, f56, f56b, f57, f58, f59, f510, f511, f511b, f512⟩ := hlf i hi
          exact f512
        generalize hX1 : mset (mset X 5 i 11 (nI (t + 1))) 5 i 12 (X 5 i 12 &&& a2) = X1
        have x1 : ∀ k p j, ¬ (k = 5 ∧ p = i ∧ (j = 11 ∨ j = 12)) → X1 k p j = X k p j := fun k p j hk => by
          rw [← hX1]
          simp only [mset_at]
          rw [if_neg (by omega), if_neg (by omega)]
        have y1 := X9_spansOf_eq (al := gal NL) (N := N) (F := F) (L := L) (i := i) (X := X1) (by omega) hF hL (fun j => (x1 22 0 j (by omega)).trans (h22 j)) hal23 (fun f hf => by
          rw [x1 23 f 2 (by omega), x1 23 f 3 (by omega), x1 23 f 4 (by omega), x1 23 f 5 (by omega), x1 23 f 6 (by omega), x1 63 0 f (by omega), x1 64 0 f (by omega), x1 65 0 f (by omega), x1 66 0 f (by omega), x1 67 0 f (by omega)]
          exact jF_23 g7 f hf) (fun j => (x1 4 0 j (by omega)).trans (h4 j)) (fun i' hi' => (x1 5 i' 0 (by omega)).trans (h50 i' hi')) hal hi
        rw [itF_cg (X := X) (funext fun j => x1 63 0 j (by omega)) (funext fun j => x1 64 0 j (by omega)) (funext fun j => x1 65 0 j (by omega)) (funext fun j => x1 66 0 j (by omega)) (funext fun j => x1 67 0 j (by omega))] at y1
        have hd : dtF (fun k => X1 5 k 12) (itF X F ((1 : Int32) <<< (nI i &&& 31)) 10) L = dtF (fun k => if k = i then X 52 0 k &&& a2 else X 52 0 k) (itF X F ((1 : Int32) <<< (nI i &&& 31)) 10) L := by
          refine dtF_cg (fun k hk => ?_)
          show X1 5 k 12 = if k = i then X 52 0 k &&& a2 else X 52 0 k
          by_cases hki : k = i
          · subst hki
            rw [if_pos rfl, ← hX1, ← h512 k hk]; simp [mset_at]
          · rw [if_neg hki, x1 5 k 12 (by omega), h512 k hk]
        rw [hd] at y1
        generalize hv : dtF (fun k => if k = i then X 52 0 k &&& a2 else X 52 0 k) (itF X F ((1 : Int32) <<< (nI i &&& 31)) 10) L = v at y1
        have e1 : L_date (gal NL) N (nI i) a2 X = some (0, mset X1 81 0 0 v) := by
          have r12 : (mset X 5 i 11 (nI (t + 1))) 5 i 12 = X 5 i 12 := by simp [mset_at]
          have hlt : t < 4 := by omega
          simp (disch := omega) only [L_date, X9_date, X9_leafOf_yes hL h4 hi, if_neg (zn_nn (a := i) (by omega)), X9_isWithin_eq, if_pos c2, dr_nI (hal i hi) (by omega : i < 2147483648), r511, if_pos hlt, zn_ltl, zn_addl, r12, hX1, y1, if_neg, gl_eq, bind2_some, bind3_some, Option.bind_some, ib_0, i10, if_true, if_false]
        generalize hX2 : mset (mset (mset (mset (mset X1 81 0 0 v) 43 0 46 0) 43 0 46 0) 51 0 i (nI (t + 1))) 52 0 i (X 52 0 i &&& a2) = X2
        have x2 : ∀ k p j, ¬ (k = 81 ∨ (k = 43 ∧ j = 46) ∨ (k = 51 ∧ j = i) ∨ (k = 52 ∧ j = i)) → X2 k p j = X1 k p j := fun k p j hk => by
          rw [← hX2]
          simp only [mset_at]
          rw [if_neg (by omega), if_neg (by omega), if_neg (by omega), if_neg (by omega), if_neg (by omega)]
        have hZ : ∀ k p j, ¬ (k = 81 ∨ (k = 43 ∧ j = 46) ∨ (k = 51 ∧ j = i) ∨ (k = 52 ∧ j = i) ∨ (k = 5 ∧ p = i ∧ (j = 11 ∨ j = 12))) → X2 k p j = X k p j := fun k p j hk => by
          rw [x2 k p j (by omega), x1 k p j (by omega)]
        have z1 := X10_datesOf_eq (al := al) (N := N) (F := F) (L := L) (i := i) (X := X2) (by omega) hF hL ((hZ 43 0 0 (by omega)).trans h430) ((hZ 43 0 23 (by omega)).trans h23)
          (fun f hf he => by
            unfold edg at he
            rw [hZ 67 0 f (by omega), hZ 66 0 f (by omega), hZ 63 0 f (by omega)] at he
            obtain ⟨a, b, q1, q2, q3, q4⟩ := jF_ed g7 hL f hf he
            exact ⟨a, b, q1, q2, (hZ 64 0 f (by omega)).trans q3, (hZ 65 0 f (by omega)).trans q4⟩) hi
        rw [itF_cg (X := X) (funext fun j => hZ 63 0 j (by omega)) (funext fun j => hZ 64 0 j (by omega)) (funext fun j => hZ 65 0 j (by omega)) (funext fun j => hZ 66 0 j (by omega)) (funext fun j => hZ 67 0 j (by omega))] at z1
        have hd2 : dtF (X2 52 0) (itF X F ((1 : Int32) <<< (nI i &&& 31)) 10) L = v := by
          rw [← hv]
          refine dtF_cg (fun k hk => ?_)
          by_cases hki : k = i
          · subst hki
            rw [if_pos rfl, ← hX2]; simp [mset_at]
          · rw [if_neg hki, hZ 52 0 k (by omega)]
        rw [hd2] at z1
        have e2 : X10_date al N (nI i) a2 (mset X1 81 0 0 v) = some (v, X2) := by
          have r1 : (mset X1 81 0 0 v) 43 0 0 = nI L := by simp [mset_at, x1, h430]
          have r2 : (mset (mset X1 81 0 0 v) 43 0 46 0) 51 0 i = nI t := by simp [mset_at, x1, f511]
          have r3 : (mset (mset (mset X1 81 0 0 v) 43 0 46 0) 43 0 46 0) 51 0 i = nI t := by simp [mset_at, x1, f511]
          have r4 : (mset (mset (mset (mset X1 81 0 0 v) 43 0 46 0) 43 0 46 0) 51 0 i (nI (t + 1))) 52 0 i = X 52 0 i := by simp [mset_at, x1]
          simp (disch := omega) only [X10_date, X10_date_J29, X10_date_J62, X10_isLeaf_eq al N _ r1 (by omega : L < 2147483648), if_pos hil, X10_in_eq, if_pos c2, mset_same, bind2_some, ib_0, gl_eq, i10, j00, if_false, if_true, rd_nI, Option.bind_some, r2, zn_eql, if_neg ht4, r3, zn_addl, r4, hX2, z1]
        refine ⟨0, X2, K_ans e1 e2 ?_ ?_, ?_⟩
        · rw [← hX2]; simp [mset_at]
        · rw [← hX2]; simp [mset_at]
        · refine ⟨L, F, D, W, K, jN_cg (fun k p j hd => hZ k p j (by simp only [djN, djL, djC, djZ, djH, djB, djF, djD, djW, djK, djI, djS, Bool.or_eq_true, Bool.and_eq_true, decide_eq_true_eq] at hd; omega)) g1, ?_, jC_cg (fun k p j hd => hZ k p j (by simp only [djN, djL, djC, djZ, djH, djB, djF, djD, djW, djK, djI, djS, Bool.or_eq_true, Bool.and_eq_true, decide_eq_true_eq] at hd; omega)) g3, ?_, jH_cg (fun k p j hd => hZ k p j (by simp only [djN, djL, djC, djZ, djH, djB, djF, djD, djW, djK, djI, djS, Bool.or_eq_true, Bool.and_eq_true, decide_eq_true_eq] at hd; omega)) g5, jB_cg (fun k p j hd => hZ k p j (by simp only [djN, djL, djC, djZ, djH, djB, djF, djD, djW, djK, djI, djS, Bool.or_eq_true, Bool.and_eq_true, decide_eq_true_eq] at hd; omega)) g6, jF_cg (fun k p j hd => hZ k p j (by simp only [djN, djL, djC, djZ, djH, djB, djF, djD, djW, djK, djI, djS, Bool.or_eq_true, Bool.and_eq_true, decide_eq_true_eq] at hd; omega)) g7, jD_cg (fun k p j hd => hZ k p j (by simp only [djN, djL, djC, djZ, djH, djB, djF, djD, djW, djK, djI, djS, Bool.or_eq_true, Bool.and_eq_true, decide_eq_true_eq] at hd; omega)) g8, jW_cg (fun k p j hd => hZ k p j (by simp only [djN, djL, djC, djZ, djH, djB, djF, djD, djW, djK, djI, djS, Bool.or_eq_true, Bool.and_eq_true, decide_eq_true_eq] at hd; omega)) g9, jK_cg (fun k p j hd => hZ k p j (by simp only [djN, djL, djC, djZ, djH, djB, djF, djD, djW, djK, djI, djS, Bool.or_eq_true, Bool.and_eq_true, decide_eq_true_eq] at hd; omega)) g10, jI_cg (fun k p j hd => hZ k p j (by simp only [djN, djL, djC, djZ, djH, djB, djF, djD, djW, djK, djI, djS, Bool.or_eq_true, Bool.and_eq_true, decide_eq_true_eq] at hd; omega)) g11, jS_cg (fun k p j hd => hZ k p j (by simp only [djN, djL, djC, djZ, djH, djB, djF, djD, djW, djK, djI, djS, Bool.or_eq_true, Bool.and_eq_true, decide_eq_true_eq] at hd; omega)) g12⟩
          · refine ⟨hL, (hZ 43 0 0 (by omega)).trans h430, (hZ 0 0 2 (by omega)).trans h002, fun j => (hZ 4 0 j (by omega)).trans (h4 j), fun i' hi' => ?_⟩
            obtain ⟨b, ln, w, hb, l1, l2, w1, w2, f44, f45, f46, f50, f51, f52, f53, f6, f55, f55b, f56, f56b, f57, f58, f59, f510, ⟨t', ht', f511'⟩, f511b', f512'⟩ := hlf i' hi'
            refine ⟨b, ln, w, hb, l1, l2, w1, w2, ?_⟩
            rw [hZ 44 0 i' (by omega), hZ 45 0 i' (by omega), hZ 46 0 i' (by omega), hZ 5 i' 0 (by omega), hZ 5 i' 1 (by omega), hZ 5 i' 2 (by omega), hZ 5 i' 3 (by omega), hZ 5 i' 5 (by omega), hZ 5 i' 6 (by omega), hZ 5 i' 7 (by omega), hZ 5 i' 8 (by omega), hZ 5 i' 9 (by omega), hZ 5 i' 10 (by omega), hZ 47 0 i' (by omega), hZ 48 0 i' (by omega), hZ 49 0 _ (by omega), hZ 49 0 (3 * i' + 1) (by omega), hZ 49 0 (3 * i' + 2) (by omega), hZ 50 0 i' (by omega)]
            refine ⟨f44, f45, f46, f50, f51, f52, f53, fun j => (hZ 6 i' j (by omega)).trans (f6 j), f55, f55b, f56, f56b, f57, f58, f59, f510, ?_, ?_, ?_⟩
            · by_cases hii : i' = i
              · subst hii
                refine ⟨t + 1, by omega, ?_⟩
                rw [← hX2]; simp [mset_at]
              · exact ⟨t', ht', (hZ 51 0 i' (by omega)).trans f511'⟩
            · by_cases hii : i' = i
              · subst hii
                rw [x2 5 i' 11 (by omega), ← hX2, ← hX1]; simp [mset_at]
              · rw [hZ 51 0 i' (by omega), hZ 5 i' 11 (by omega)]; exact f511b'
            · by_cases hii : i' = i
              · subst hii
                rw [x2 5 i' 12 (by omega), ← hX2, ← hX1, ← f512']; simp [mset_at]
              · rw [hZ 52 0 i' (by omega), hZ 5 i' 12 (by omega)]; exact f512'
          · intro i' hLi hi'
            obtain ⟨u1, u2, u3, u4⟩ := g4 i' hLi hi'
            refine ⟨fun c hc => ⟨fun k hk => (hZ 56 0 _ (by omega)).trans ((u1 c hc).1 k hk), fun s k hs hk => (hZ 57 0 _ (by omega)).trans ((u1 c hc).2 s k hs hk)⟩, fun k hk => (hZ 49 0 _ (by omega)).trans (u2 k hk), (hZ 50 0 _ (by omega)).trans u3, (hZ 51 0 _ (by omega)).trans u4⟩
    · refine ⟨_, _, K_thrown (k := 2) (r := 0) (X1 := X) (X2 := mset (mset X 43 0 46 2) 43 0 46 2) ?_ ?_ (mset_same ..) (by decide), gJ_th _ (gJ_th _ h)⟩
      · simp (disch := omega) only [L_date, X9_date, X9_leafOf_yes hL h4 hi, if_neg (zn_nn (a := i) (by omega)), X9_isWithin_eq, if_neg c2, zn_add, zn_mul, zn_addl, zn_ladd, zn_mull, zn_lmul, zn_le, zn_lt, zn_eq, zn_lel, zn_ltl, zn_eql, zn_lle, zn_llt, zn_leq, zn_sub, zn_subl, zn_m1, gl_eq, bind2_some, bind3_some, Option.bind_some, bz_0, bz_1, ib_0, ib_1, ib_bz, rd_nI, rd_l, if_pos, if_neg, if_true, if_false, ite_true, ite_false, eq_self, j00, j10, j20, j30, k00, k01, k02, k03, i20, i30, km0, i10, i01, im0, im1, i0m, i1m]
        try rfl
      · simp (disch := omega) only [X10_date, X10_date_J29, X10_date_J62, X10_isLeaf_eq al N _ h430 (by omega : L < 2147483648), if_pos hil, X10_in_eq, if_neg c2, mset_same, zn_add, zn_mul, zn_addl, zn_ladd, zn_mull, zn_lmul, zn_le, zn_lt, zn_eq, zn_lel, zn_ltl, zn_eql, zn_lle, zn_llt, zn_leq, zn_sub, zn_subl, zn_m1, gl_eq, bind2_some, bind3_some, Option.bind_some, bz_0, bz_1, ib_0, ib_1, ib_bz, rd_nI, rd_l, if_pos, if_neg, if_true, if_false, ite_true, ite_false, eq_self, j00, j10, j20, j30, k00, k01, k02, k03, i20, i30, km0, i10, i01, im0, im1, i0m, i1m]
        try rfl
  · refine ⟨_, _, K_thrown (k := 1) (r := 0) (X1 := X) (X2 := mset (mset X 43 0 46 1) 43 0 46 1) ?_ ?_ (mset_same ..) (by decide), gJ_th _ (gJ_th _ h)⟩
    · simp (disch := omega) only [L_date, X9_date, X9_leafOf_no hL h4 h1, zn_add, zn_mul, zn_addl, zn_ladd, zn_mull, zn_lmul, zn_le, zn_lt, zn_eq, zn_lel, zn_ltl, zn_eql, zn_lle, zn_llt, zn_leq, zn_sub, zn_subl, zn_m1, gl_eq, bind2_some, bind3_some, Option.bind_some, bz_0, bz_1, ib_0, ib_1, ib_bz, rd_nI, rd_l, if_pos, if_neg, if_true, if_false, ite_true, ite_false, eq_self, j00, j10, j20, j30, k00, k01, k02, k03, i20, i30, km0, i10, i01, im0, im1, i0m, i1m]
      try rfl
    · simp (disch := omega) only [X10_date, X10_date_J29, X10_date_J62, X10_isLeaf_eq al N _ h430 (by omega : L < 2147483648), if_neg h1, mset_same, zn_add, zn_mul, zn_addl, zn_ladd, zn_mull, zn_lmul, zn_le, zn_lt, zn_eq, zn_lel, zn_ltl, zn_eql, zn_lle, zn_llt, zn_leq, zn_sub, zn_subl, zn_m1, gl_eq, bind2_some, bind3_some, Option.bind_some, bz_0, bz_1, ib_0, ib_1, ib_bz, rd_nI, rd_l, if_pos, if_neg, if_true, if_false, ite_true, ite_false, eq_self, j00, j10, j20, j30, k00, k01, k02, k03, i20, i30, km0, i10, i01, im0, im1, i0m, i1m]
      try rfl
