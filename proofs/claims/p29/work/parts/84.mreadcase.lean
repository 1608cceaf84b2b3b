/-! the cases weight, readings, letter -/
theorem lnO_of {L : Nat} {X : gM} {i l ln m : Nat} (g3 : jC L X) (hi : i < L) (h45 : X 45 0 i = nI ln) (h46 : X 46 0 i = nI m) (hln : ln ≤ 4) (hm : m ≤ 8) (hl : l < ln) : lnO X i l m := by
  intro c s k hc hs hk
  obtain ⟨r1, r2, r3, r4⟩ := g3 i ln m hi h45 h46 hln hm l c hl hc
  obtain ⟨lt, vt, hF⟩ := sR_sF (r4 s hs)
  have h27 := Wf_le (lt := lt) (fun j hj => (hF.1 j hj).2.1) k
  have e := hF.2.2 k hk
  unfold lnW
  rw [e, zn_tN (by omega)]
  exact ⟨h27, rfl⟩
theorem ln_cg {X Y : gM} (h54 : Y 54 0 = X 54 0) (h55 : Y 55 0 = X 55 0) (h56 : Y 56 0 = X 56 0) (h57 : Y 57 0 = X 57 0) (h59 : Y 59 0 = X 59 0) (h60 : Y 60 0 = X 60 0) (i l m : Nat) (y : Int32) :
    lnB Y i l = lnB X i l ∧ lnH Y i l m y = lnH X i l m y ∧ lnN Y i l y = lnN X i l y ∧ lnL Y = lnL X ∧ lnD Y = lnD X := by
  refine ⟨?_, ?_, ?_, ?_, ?_⟩
  · unfold lnB; rw [h54, h55, h56]
  · unfold lnH lnG lnW; rw [h57]
  · unfold lnN lnG lnW; rw [h57]
  · unfold lnL; rw [h59]
  · unfold lnD; rw [h60]
theorem lnO_cg {X Y : gM} (h57 : Y 57 0 = X 57 0) {i l m : Nat} (g : lnO X i l m) : lnO Y i l m := by
  unfold lnO lnW at g ⊢
  rw [h57]
  exact g
theorem line2 {L : Nat} {X : gM} (g : jL L X) (a1 a2 : Int32) : (¬ ir a1 L) ∨ (∃ i ln m, i < L ∧ a1 = nI i ∧ X 45 0 i = nI ln ∧ X 46 0 i = nI m ∧ ln ≤ 4 ∧ 1 ≤ m ∧ m ≤ 8 ∧ X 5 i 2 = nI ln ∧ X 5 i 3 = nI m ∧ (∀ j, X 6 i j = if j < ln * m then nI (32 * i + j) else -1) ∧ ((¬ ir a2 ln) ∨ ∃ l, l < ln ∧ a2 = nI l)) := by
  obtain ⟨hL, h430, h002, h4, hlf⟩ := g
  rcases ir_or a1 (n := L) (by omega) with ⟨i, hi, rfl⟩ | h
  · right
    obtain ⟨b, ln, w, hb, l1, l2, w1, w2, f44, f45, f46, f50, f51, f52, f53, f6, -⟩ := hlf i hi
    refine ⟨i, ln, w, hi, rfl, f45, f46, l2, w1, w2, f52, f53, f6, ?_⟩
    rcases ir_or a2 (n := ln) (by omega) with ⟨l, hl, rfl⟩ | h
    · exact Or.inr ⟨l, hl, rfl⟩
    · exact Or.inl h
  · exact Or.inl h
/-- both sides read the same -/
theorem readBoth {NL : List (Nat × Nat)} {al : Nat → Nat → Bool} {N L F W K i l ln m : Nat} {X : gM} {y : Int32} (hN : 1000 ≤ N) (g1 : jN NL L F W K X) (g2 : jL L X) (g3 : jC L X) (g9 : jW W X) (hi : i < L) (hl : l < ln) (hln : ln ≤ 4) (h45 : X 45 0 i = nI ln) (h46 : X 46 0 i = nI m) (f52 : X 5 i 2 = nI ln) (f53 : X 5 i 3 = nI m) (f6 : ∀ j, X 6 i j = if j < ln * m then nI (32 * i + j) else -1) (hm1 : 1 ≤ m) (hm : m ≤ 8) :
    ∃ Y, X6_read (gal NL) N i (nI l) y X = some (0, Y) ∧ (∀ k p j, ¬ ((29 ≤ k ∧ k ≤ 36) ∨ k = 38) → Y k p j = X k p j) ∧
      ldC m W (lnB X i l) (lnH X i l m y) (lnN X i l y) (lnL X) (lnD X) Y ∧ ftC m W (lnB X i l) (lnH X i l m y) (lnN X i l y) (lnL X) (lnD X) Y ∧
      rdR m 0 (Y 35 0) (Y 36 0) (rwC Y) (rdT m W (lnB X i l) (lnH X i l m y) (lnN X i l y) (lnL X) (lnD X) m) ∧
      ∀ X2 : gM, (∀ k p j, ¬ ((29 ≤ k ∧ k ≤ 42) ∨ k = 81 ∨ (k = 43 ∧ j = 46)) → X2 k p j = X k p j) → ∃ Z, X10_reads al N (nI i) (nI l) y X2 = some (0, Z) ∧ (∀ k p j, ¬ (k = 68 ∨ k = 70 ∨ k = 71 ∨ k = 72 ∨ k = 73 ∨ k = 74 ∨ (k = 43 ∧ (j = 29 ∨ j = 30))) → Z k p j = X2 k p j) ∧
        ldM m W (lnB X i l) (lnH X i l m y) (lnN X i l y) (lnL X) (lnD X) Z ∧ rdR m 0 (Z 68 0) (Z 70 0) (rwM Z) (rdT m W (lnB X i l) (lnH X i l m y) (lnN X i l y) (lnL X) (lnD X) m) := by
  have hO := lnO_of g3 hi h45 h46 hln hm hl
  obtain ⟨Y, y1, y2, y3, y4, y5⟩ := X6_read_eq (al := gal NL) (y := y) hN g3 g9 hi g2.1 hl hln h45 h46 f52 f53 f6 hm1 hm hO (fun j hj => gal7 g1 i ln m j hi h45 h46 hln hm hj) (fun w hw => gal_al g1 (Or.inl hw))
  refine ⟨Y, y1, y2, y3, y4, y5, fun X2 h2 => ?_⟩
  obtain ⟨z1, z2, z3, z4, z5⟩ := ln_cg (X := X) (Y := X2) (funext fun j => h2 54 0 j (by omega)) (funext fun j => h2 55 0 j (by omega)) (funext fun j => h2 56 0 j (by omega)) (funext fun j => h2 57 0 j (by omega)) (funext fun j => h2 59 0 j (by omega)) (funext fun j => h2 60 0 j (by omega)) i l m y
  have g2' : jL L X2 := jL_cg (fun k p j hd => h2 k p j (by simp only [djN, djL, djC, djZ, djH, djB, djF, djD, djW, djK, djI, djS, Bool.or_eq_true, Bool.and_eq_true, decide_eq_true_eq] at hd; omega)) g2
  have g9' : jW W X2 := jW_cg (fun k p j hd => h2 k p j (by simp only [djN, djL, djC, djZ, djH, djB, djF, djD, djW, djK, djI, djS, Bool.or_eq_true, Bool.and_eq_true, decide_eq_true_eq] at hd; omega)) g9
  obtain ⟨Z, t1, t2, t3, t4⟩ := X10_reads_eq (al := al) (y := y) hN g2' g9' hi hl hln ((h2 46 0 i (by omega)).trans h46) hm1 hm (lnO_cg (funext fun j => h2 57 0 j (by omega)) hO)
  rw [z1, z2, z3, z4, z5] at t3 t4
  exact ⟨Z, t1, t2, t3, t4⟩
theorem asks_thr1 {al : Nat → Nat → Bool} {N L : Nat} {p1 p2 p3 : Int32} {X : gM} (g : jL L X) (h : (¬ ir p1 L) ∨ ∃ i ln, i < L ∧ p1 = nI i ∧ X 45 0 i = nI ln ∧ ln ≤ 4 ∧ ¬ ir p2 ln) : X10_asks al N p1 p2 p3 X = some (0, mset X 43 0 46 1) := by
  obtain ⟨hL, h430, -⟩ := g
  rcases h with h | ⟨i, ln, hi, rfl, h45, hln, h⟩
  · simp (disch := omega) only [X10_asks, X10_isLeaf_eq al N _ h430 (by omega : L < 2147483648), if_neg h, X10_asks_J37, X10_asks_J56, X10_asks_J73, X10_asks_J85, mset_same, zn_add, zn_mul, zn_addl, zn_ladd, zn_mull, zn_lmul, zn_le, zn_lt, zn_eq, zn_lel, zn_ltl, zn_eql, zn_lle, zn_llt, zn_leq, zn_sub, zn_subl, zn_m1, gl_eq, bind2_some, bind3_some, Option.bind_some, bz_0, bz_1, ib_0, ib_1, ib_bz, rd_nI, rd_l, if_pos, if_neg, if_true, if_false, ite_true, ite_false, eq_self, j00, j10, j20, j30, k00, k01, k02, k03, i20, i30, km0, i10, i01, im0, im1, i0m, i1m]
  · simp (disch := omega) only [X10_asks, X10_isLeaf_eq al N _ h430 (by omega : L < 2147483648), if_pos (ir_nI (by omega) hi : ir (nI i) L), X10_asks_J28, X10_in_eq, h45, le_pred, if_neg h, X10_asks_J37, X10_asks_J56, X10_asks_J73, X10_asks_J85, mset_same, rd_nI, Option.bind_some, bind2_some, ib_0, i10, gl_eq, if_false, if_true, eq_self, bz_0]
theorem asks_thr2 {al : Nat → Nat → Bool} {N L i l ln : Nat} {p3 : Int32} {X : gM} (g : jL L X) (hi : i < L) (h45 : X 45 0 i = nI ln) (hln : ln ≤ 4) (hl : l < ln) (h : ¬ (0 ≤ p3 ∧ p3 ≤ 7)) : X10_asks al N (nI i) (nI l) p3 X = some (0, mset X 43 0 46 2) := by
  obtain ⟨hL, h430, -⟩ := g
  have hir : (0 : Int32) ≤ nI l ∧ nI l < nI ln := ir_nI (by omega) hl
  simp (disch := omega) only [X10_asks, X10_isLeaf_eq al N _ h430 (by omega : L < 2147483648), if_pos (ir_nI (by omega) hi : ir (nI i) L), X10_asks_J28, X10_in_eq, h45, le_pred, if_pos hir, if_neg h, X10_asks_J37, X10_asks_J56, X10_asks_J73, X10_asks_J85, mset_same, rd_nI, Option.bind_some, bind2_some, ib_0, i10, i20, gl_eq, if_false, if_true, eq_self, bz_0]
theorem asks_ok {al : Nat → Nat → Bool} {N L i l ln : Nat} {p3 : Int32} {X Z : gM} (g : jL L X) (hi : i < L) (h45 : X 45 0 i = nI ln) (hln : ln ≤ 4) (hl : l < ln) (h : 0 ≤ p3 ∧ p3 ≤ 7) (hr : X10_reads al N (nI i) (nI l) p3 (mset X 43 0 46 0) = some (0, Z)) (hz : Z 43 0 46 = 0) : X10_asks al N (nI i) (nI l) p3 X = some (1, Z) := by
  obtain ⟨hL, h430, -⟩ := g
  have hir : (0 : Int32) ≤ nI l ∧ nI l < nI ln := ir_nI (by omega) hl
  simp (disch := omega) only [X10_asks, X10_isLeaf_eq al N _ h430 (by omega : L < 2147483648), if_pos (ir_nI (by omega) hi : ir (nI i) L), X10_asks_J28, X10_in_eq, h45, le_pred, if_pos hir, if_pos h, X10_asks_J37, X10_asks_J56, X10_asks_J73, X10_asks_J85, mset_same, rd_nI, Option.bind_some, bind2_some, ib_0, i10, i20, gl_eq, if_false, if_true, eq_self, bz_0, hr, hz, bz_1]
theorem case9 {NL : List (Nat × Nat)} {al : Nat → Nat → Bool} {N : Nat} {X : gM} (hN : 1000000 ≤ N) (a1 a2 a3 a4 a5 a6 : Int32) (h : gJ NL X) : ∃ (rr : Int32) (X' : gM), K9 (gal NL) al N [] a1 a2 a3 a4 a5 a6 X = some (rr, X') ∧ gJ NL X' := by
  unfold K9
  rw [eqn_nil, Option.bind_some]
  obtain ⟨L, F, D, W, K, g1, g2, g3, g4, g5, g6, g7, g8, g9, g10, g11, g12⟩ := id h
  obtain ⟨hL, h430, h002, h4, hlf⟩ := id g2
  rcases line2 g2 a1 a2 with h1 | ⟨i, ln, m, hi, rfl, f45, f46, kl, m1, kw, f52, f53, f6, h1 | ⟨l, hl, rfl⟩⟩
  · refine ⟨_, _, K_thrown (k := 1) (r := 0) (X1 := X) (X2 := mset X 43 0 46 1) ?_ ?_ (mset_same ..) (by decide), gJ_th _ h⟩
    · simp (disch := omega) only [L_weight, X9_weight, X9_weight_J21, X9_leafOf_no hL h4 h1, zn_add, zn_mul, zn_addl, zn_ladd, zn_mull, zn_lmul, zn_le, zn_lt, zn_eq, zn_lel, zn_ltl, zn_eql, zn_lle, zn_llt, zn_leq, zn_sub, zn_subl, zn_m1, gl_eq, bind2_some, bind3_some, Option.bind_some, bz_0, bz_1, ib_0, ib_1, ib_bz, rd_nI, rd_l, if_pos, if_neg, if_true, if_false, ite_true, ite_false, eq_self, j00, j10, j20, j30, k00, k01, k02, k03, i20, i30, km0, i10, i01, im0, im1, i0m, i1m]
      try rfl
    · simp (disch := omega) only [X10_weight, X10_weight_J20, asks_thr1 g2 (Or.inl h1), zn_add, zn_mul, zn_addl, zn_ladd, zn_mull, zn_lmul, zn_le, zn_lt, zn_eq, zn_lel, zn_ltl, zn_eql, zn_lle, zn_llt, zn_leq, zn_sub, zn_subl, zn_m1, gl_eq, bind2_some, bind3_some, Option.bind_some, bz_0, bz_1, ib_0, ib_1, ib_bz, rd_nI, rd_l, if_pos, if_neg, if_true, if_false, ite_true, ite_false, eq_self, j00, j10, j20, j30, k00, k01, k02, k03, i20, i30, km0, i10, i01, im0, im1, i0m, i1m]
  · have ha : gal NL 5 i = true := gal_al g1 hi
    refine ⟨_, _, K_thrown (k := 1) (r := 0) (X1 := X) (X2 := mset X 43 0 46 1) ?_ ?_ (mset_same ..) (by decide), gJ_th _ h⟩
    · simp (disch := omega) only [L_weight, X9_weight, X9_weight_J21, X9_leafOf_yes hL h4 hi, if_neg (zn_nn (a := i) (by omega)), dr_nI ha (by omega : i < 2147483648), X2_hasLine_eq f52, if_neg h1, zn_add, zn_mul, zn_addl, zn_ladd, zn_mull, zn_lmul, zn_le, zn_lt, zn_eq, zn_lel, zn_ltl, zn_eql, zn_lle, zn_llt, zn_leq, zn_sub, zn_subl, zn_m1, gl_eq, bind2_some, bind3_some, Option.bind_some, bz_0, bz_1, ib_0, ib_1, ib_bz, rd_nI, rd_l, if_pos, if_neg, if_true, if_false, ite_true, ite_false, eq_self, j00, j10, j20, j30, k00, k01, k02, k03, i20, i30, km0, i10, i01, im0, im1, i0m, i1m]
      try rfl
    · simp (disch := omega) only [X10_weight, X10_weight_J20, asks_thr1 (al := al) (N := N) (p3 := a3) g2 (Or.inr ⟨i, ln, hi, rfl, f45, kl, h1⟩), zn_add, zn_mul, zn_addl, zn_ladd, zn_mull, zn_lmul, zn_le, zn_lt, zn_eq, zn_lel, zn_ltl, zn_eql, zn_lle, zn_llt, zn_leq, zn_sub, zn_subl, zn_m1, gl_eq, bind2_some, bind3_some, Option.bind_some, bz_0, bz_1, ib_0, ib_1, ib_bz, rd_nI, rd_l, if_pos, if_neg, if_true, if_false, ite_true, ite_false, eq_self, j00, j10, j20, j30, k00, k01, k02, k03, i20, i30, km0, i10, i01, im0, im1, i0m, i1m]
  · have ha : gal NL 5 i = true := gal_al g1 hi
    have hil : ir (nI l) ln := ir_nI (by omega) hl
    by_cases h3 : 0 ≤ a3 ∧ a3 ≤ 7
    · obtain ⟨Y, y1, y2, y3, y4, y5, y6⟩ := readBoth (al := al) (y := a3) (by omega : 1000 ≤ N) g1 g2 g3 g9 hi hl kl f45 f46 f52 f53 f6 m1 kw
      have e1 : L_weight (gal NL) N (nI i) (nI l) a3 X = some (0, mset Y 81 0 0 (Y 35 0 0)) := by
        simp (disch := omega) only [L_weight, X9_weight, X9_leafOf_yes hL h4 hi, if_neg (zn_nn (a := i) (by omega)), dr_nI ha (by omega : i < 2147483648), X2_hasLine_eq f52, if_pos hil, X9_isLayer_eq, if_pos h3, y1, X6_bestWeight, zn_add, zn_mul, zn_addl, zn_ladd, zn_mull, zn_lmul, zn_le, zn_lt, zn_eq, zn_lel, zn_ltl, zn_eql, zn_lle, zn_llt, zn_leq, zn_sub, zn_subl, zn_m1, gl_eq, bind2_some, bind3_some, Option.bind_some, bz_0, bz_1, ib_0, ib_1, ib_bz, rd_nI, rd_l, if_pos, if_neg, if_true, if_false, ite_true, ite_false, eq_self, j00, j10, j20, j30, k00, k01, k02, k03, i20, i30, km0, i10, i01, im0, im1, i0m, i1m]
      obtain ⟨Z, z1, z2, z3, z4⟩ := y6 (mset (mset Y 81 0 0 (Y 35 0 0)) 43 0 46 0) (fun k p j hk => by
        simp only [mset_at]
        rw [if_neg (by omega), if_neg (by omega), y2 k p j (by omega)])
      have hJ1 : jL L (mset Y 81 0 0 (Y 35 0 0)) := jL_cg (dset (fun k p j hd => y2 k p j (by simp only [djN, djL, djC, djZ, djH, djB, djF, djD, djW, djK, djI, djS, Bool.or_eq_true, Bool.and_eq_true, decide_eq_true_eq] at hd; omega)) rfl) g2
      have z46 : Z 43 0 46 = 0 := by rw [z2 43 0 46 (by omega), mset_same]
      have hv : Z 68 0 0 = Y 35 0 0 := (z4 0 (Nat.le_refl 0) (by omega)).1.trans (y5 0 (Nat.le_refl 0) (by omega)).1.symm
      have e2 : X10_weight al N (nI i) (nI l) a3 (mset Y 81 0 0 (Y 35 0 0)) = some (Y 35 0 0, Z) := by
        rw [← hv]
        rw [← hv] at z1 hJ1
        have := asks_ok (al := al) (N := N) hJ1 hi (by rw [mset_at, if_neg (by omega), y2 45 0 i (by omega), f45]) kl hl h3 z1 z46
        simp (disch := omega) only [X10_weight, X10_weight_J20, this, zn_add, zn_mul, zn_addl, zn_ladd, zn_mull, zn_lmul, zn_le, zn_lt, zn_eq, zn_lel, zn_ltl, zn_eql, zn_lle, zn_llt, zn_leq, zn_sub, zn_subl, zn_m1, gl_eq, bind2_some, bind3_some, Option.bind_some, bz_0, bz_1, ib_0, ib_1, ib_bz, rd_nI, rd_l, if_pos, if_neg, if_true, if_false, ite_true, ite_false, eq_self, j00, j10, j20, j30, k00, k01, k02, k03, i20, i30, km0, i10, i01, im0, im1, i0m, i1m]
      refine ⟨0, Z, K_ans e1 e2 z46 ?_, gJ_sm (fun k p j hs => ?_) h⟩
      · rw [z2 81 0 0 (by omega)]; simp [mset_at]
      · have hk : ¬ ((68 ≤ k ∧ k ≤ 81) ∨ (29 ≤ k ∧ k ≤ 36) ∨ k = 38 ∨ (k = 43 ∧ (j = 29 ∨ j = 30 ∨ j = 46))) := by
          intro hc
          simp [scr] at hs
          omega
        rw [z2 k p j (by omega)]
        simp only [mset_at]
        rw [if_neg (by omega), if_neg (by omega), y2 k p j (by omega)]
    · refine ⟨_, _, K_thrown (k := 2) (r := 0) (X1 := X) (X2 := mset X 43 0 46 2) ?_ ?_ (mset_same ..) (by decide), gJ_th _ h⟩
      · simp (disch := omega) only [L_weight, X9_weight, X9_leafOf_yes hL h4 hi, if_neg (zn_nn (a := i) (by omega)), dr_nI ha (by omega : i < 2147483648), X2_hasLine_eq f52, if_pos hil, X9_isLayer_eq, if_neg h3, zn_add, zn_mul, zn_addl, zn_ladd, zn_mull, zn_lmul, zn_le, zn_lt, zn_eq, zn_lel, zn_ltl, zn_eql, zn_lle, zn_llt, zn_leq, zn_sub, zn_subl, zn_m1, gl_eq, bind2_some, bind3_some, Option.bind_some, bz_0, bz_1, ib_0, ib_1, ib_bz, rd_nI, rd_l, if_pos, if_neg, if_true, if_false, ite_true, ite_false, eq_self, j00, j10, j20, j30, k00, k01, k02, k03, i20, i30, km0, i10, i01, im0, im1, i0m, i1m]
        try rfl
      · simp (disch := omega) only [X10_weight, X10_weight_J20, asks_thr2 (al := al) (N := N) g2 hi f45 kl hl h3, zn_add, zn_mul, zn_addl, zn_ladd, zn_mull, zn_lmul, zn_le, zn_lt, zn_eq, zn_lel, zn_ltl, zn_eql, zn_lle, zn_llt, zn_leq, zn_sub, zn_subl, zn_m1, gl_eq, bind2_some, bind3_some, Option.bind_some, bz_0, bz_1, ib_0, ib_1, ib_bz, rd_nI, rd_l, if_pos, if_neg, if_true, if_false, ite_true, ite_false, eq_self, j00, j10, j20, j30, k00, k01, k02, k03, i20, i30, km0, i10, i01, im0, im1, i0m, i1m]
theorem case10 {NL : List (Nat × Nat)} {al : Nat → Nat → Bool} {N : Nat} {X : gM} (hN : 1000000 ≤ N) (a1 a2 a3 a4 a5 a6 : Int32) (h : gJ NL X) : ∃ (rr : Int32) (X' : gM), K10 (gal NL) al N [] a1 a2 a3 a4 a5 a6 X = some (rr, X') ∧ gJ NL X' := by
  unfold K10
  rw [eqn_nil, Option.bind_some]
  obtain ⟨L, F, D, W, K, g1, g2, g3, g4, g5, g6, g7, g8, g9, g10, g11, g12⟩ := id h
  obtain ⟨hL, h430, h002, h4, hlf⟩ := id g2
  rcases line2 g2 a1 a2 with h1 | ⟨i, ln, m, hi, rfl, f45, f46, kl, m1, kw, f52, f53, f6, h1 | ⟨l, hl, rfl⟩⟩
  · refine ⟨_, _, K_thrown (k := 1) (r := 0) (X1 := X) (X2 := mset X 43 0 46 1) ?_ ?_ (mset_same ..) (by decide), gJ_th _ h⟩
    · simp (disch := omega) only [L_readings, X9_readings, X9_readings_J21, X9_leafOf_no hL h4 h1, zn_add, zn_mul, zn_addl, zn_ladd, zn_mull, zn_lmul, zn_le, zn_lt, zn_eq, zn_lel, zn_ltl, zn_eql, zn_lle, zn_llt, zn_leq, zn_sub, zn_subl, zn_m1, gl_eq, bind2_some, bind3_some, Option.bind_some, bz_0, bz_1, ib_0, ib_1, ib_bz, rd_nI, rd_l, if_pos, if_neg, if_true, if_false, ite_true, ite_false, eq_self, j00, j10, j20, j30, k00, k01, k02, k03, i20, i30, km0, i10, i01, im0, im1, i0m, i1m]
      try rfl
    · simp (disch := omega) only [X10_readings, X10_readings_J20, asks_thr1 g2 (Or.inl h1), zn_add, zn_mul, zn_addl, zn_ladd, zn_mull, zn_lmul, zn_le, zn_lt, zn_eq, zn_lel, zn_ltl, zn_eql, zn_lle, zn_llt, zn_leq, zn_sub, zn_subl, zn_m1, gl_eq, bind2_some, bind3_some, Option.bind_some, bz_0, bz_1, ib_0, ib_1, ib_bz, rd_nI, rd_l, if_pos, if_neg, if_true, if_false, ite_true, ite_false, eq_self, j00, j10, j20, j30, k00, k01, k02, k03, i20, i30, km0, i10, i01, im0, im1, i0m, i1m]
  · have ha : gal NL 5 i = true := gal_al g1 hi
    refine ⟨_, _, K_thrown (k := 1) (r := 0) (X1 := X) (X2 := mset X 43 0 46 1) ?_ ?_ (mset_same ..) (by decide), gJ_th _ h⟩
    · simp (disch := omega) only [L_readings, X9_readings, X9_readings_J21, X9_leafOf_yes hL h4 hi, if_neg (zn_nn (a := i) (by omega)), dr_nI ha (by omega : i < 2147483648), X2_hasLine_eq f52, if_neg h1, zn_add, zn_mul, zn_addl, zn_ladd, zn_mull, zn_lmul, zn_le, zn_lt, zn_eq, zn_lel, zn_ltl, zn_eql, zn_lle, zn_llt, zn_leq, zn_sub, zn_subl, zn_m1, gl_eq, bind2_some, bind3_some, Option.bind_some, bz_0, bz_1, ib_0, ib_1, ib_bz, rd_nI, rd_l, if_pos, if_neg, if_true, if_false, ite_true, ite_false, eq_self, j00, j10, j20, j30, k00, k01, k02, k03, i20, i30, km0, i10, i01, im0, im1, i0m, i1m]
      try rfl
    · simp (disch := omega) only [X10_readings, X10_readings_J20, asks_thr1 (al := al) (N := N) (p3 := a3) g2 (Or.inr ⟨i, ln, hi, rfl, f45, kl, h1⟩), zn_add, zn_mul, zn_addl, zn_ladd, zn_mull, zn_lmul, zn_le, zn_lt, zn_eq, zn_lel, zn_ltl, zn_eql, zn_lle, zn_llt, zn_leq, zn_sub, zn_subl, zn_m1, gl_eq, bind2_some, bind3_some, Option.bind_some, bz_0, bz_1, ib_0, ib_1, ib_bz, rd_nI, rd_l, if_pos, if_neg, if_true, if_false, ite_true, ite_false, eq_self, j00, j10, j20, j30, k00, k01, k02, k03, i20, i30, km0, i10, i01, im0, im1, i0m, i1m]
  · have ha : gal NL 5 i = true := gal_al g1 hi
    have hil : ir (nI l) ln := ir_nI (by omega) hl
    by_cases h3 : 0 ≤ a3 ∧ a3 ≤ 7
    · obtain ⟨Y, y1, y2, y3, y4, y5, y6⟩ := readBoth (al := al) (y := a3) (by omega : 1000 ≤ N) g1 g2 g3 g9 hi hl kl f45 f46 f52 f53 f6 m1 kw
      have e1 : L_readings (gal NL) N (nI i) (nI l) a3 X = some (0, mset Y 81 0 0 (Y 36 0 0)) := by
        simp (disch := omega) only [L_readings, X9_readings, X9_leafOf_yes hL h4 hi, if_neg (zn_nn (a := i) (by omega)), dr_nI ha (by omega : i < 2147483648), X2_hasLine_eq f52, if_pos hil, X9_isLayer_eq, if_pos h3, y1, X6_bestCount, zn_add, zn_mul, zn_addl, zn_ladd, zn_mull, zn_lmul, zn_le, zn_lt, zn_eq, zn_lel, zn_ltl, zn_eql, zn_lle, zn_llt, zn_leq, zn_sub, zn_subl, zn_m1, gl_eq, bind2_some, bind3_some, Option.bind_some, bz_0, bz_1, ib_0, ib_1, ib_bz, rd_nI, rd_l, if_pos, if_neg, if_true, if_false, ite_true, ite_false, eq_self, j00, j10, j20, j30, k00, k01, k02, k03, i20, i30, km0, i10, i01, im0, im1, i0m, i1m]
      obtain ⟨Z, z1, z2, z3, z4⟩ := y6 (mset (mset Y 81 0 0 (Y 36 0 0)) 43 0 46 0) (fun k p j hk => by
        simp only [mset_at]
        rw [if_neg (by omega), if_neg (by omega), y2 k p j (by omega)])
      have hJ1 : jL L (mset Y 81 0 0 (Y 36 0 0)) := jL_cg (dset (fun k p j hd => y2 k p j (by simp only [djN, djL, djC, djZ, djH, djB, djF, djD, djW, djK, djI, djS, Bool.or_eq_true, Bool.and_eq_true, decide_eq_true_eq] at hd; omega)) rfl) g2
      have z46 : Z 43 0 46 = 0 := by rw [z2 43 0 46 (by omega), mset_same]
      have hv : Z 70 0 0 = Y 36 0 0 := (z4 0 (Nat.le_refl 0) (by omega)).2.1.trans (y5 0 (Nat.le_refl 0) (by omega)).2.1.symm
      have e2 : X10_readings al N (nI i) (nI l) a3 (mset Y 81 0 0 (Y 36 0 0)) = some (Y 36 0 0, Z) := by
        rw [← hv]
        rw [← hv] at z1 hJ1
        have := asks_ok (al := al) (N := N) hJ1 hi (by rw [mset_at, if_neg (by omega), y2 45 0 i (by omega), f45]) kl hl h3 z1 z46
        simp (disch := omega) only [X10_readings, X10_readings_J20, this, zn_add, zn_mul, zn_addl, zn_ladd, zn_mull, zn_lmul, zn_le, zn_lt, zn_eq, zn_lel, zn_ltl, zn_eql, zn_lle, zn_llt, zn_leq, zn_sub, zn_subl, zn_m1, gl_eq, bind2_some, bind3_some, Option.bind_some, bz_0, bz_1, ib_0, ib_1, ib_bz, rd_nI, rd_l, if_pos, if_neg, if_true, if_false, ite_true, ite_false, eq_self, j00, j10, j20, j30, k00, k01, k02, k03, i20, i30, km0, i10, i01, im0, im1, i0m, i1m]
      refine ⟨0, Z, K_ans e1 e2 z46 ?_, gJ_sm (fun k p j hs => ?_) h⟩
      · rw [z2 81 0 0 (by omega)]; simp [mset_at]
      · have hk : ¬ ((68 ≤ k ∧ k ≤ 81) ∨ (29 ≤ k ∧ k ≤ 36) ∨ k = 38 ∨ (k = 43 ∧ (j = 29 ∨ j = 30 ∨ j = 46))) := by
          intro hc
          simp [scr] at hs
          omega
        rw [z2 k p j (by omega)]
        simp only [mset_at]
        rw [if_neg (by omega), if_neg (by omega), y2 k p j (by omega)]
    · refine ⟨_, _, K_thrown (k := 2) (r := 0) (X1 := X) (X2 := mset X 43 0 46 2) ?_ ?_ (mset_same ..) (by decide), gJ_th _ h⟩
      · simp (disch := omega) only [L_readings, X9_readings, X9_leafOf_yes hL h4 hi, if_neg (zn_nn (a := i) (by omega)), dr_nI ha (by omega : i < 2147483648), X2_hasLine_eq f52, if_pos hil, X9_isLayer_eq, if_neg h3, zn_add, zn_mul, zn_addl, zn_ladd, zn_mull, zn_lmul, zn_le, zn_lt, zn_eq, zn_lel, zn_ltl, zn_eql, zn_lle, zn_llt, zn_leq, zn_sub, zn_subl, zn_m1, gl_eq, bind2_some, bind3_some, Option.bind_some, bz_0, bz_1, ib_0, ib_1, ib_bz, rd_nI, rd_l, if_pos, if_neg, if_true, if_false, ite_true, ite_false, eq_self, j00, j10, j20, j30, k00, k01, k02, k03, i20, i30, km0, i10, i01, im0, im1, i0m, i1m]
        try rfl
      · simp (disch := omega) only [X10_readings, X10_readings_J20, asks_thr2 (al := al) (N := N) g2 hi f45 kl hl h3, zn_add, zn_mul, zn_addl, zn_ladd, zn_mull, zn_lmul, zn_le, zn_lt, zn_eq, zn_lel, zn_ltl, zn_eql, zn_lle, zn_llt, zn_leq, zn_sub, zn_subl, zn_m1, gl_eq, bind2_some, bind3_some, Option.bind_some, bz_0, bz_1, ib_0, ib_1, ib_bz, rd_nI, rd_l, if_pos, if_neg, if_true, if_false, ite_true, ite_false, eq_self, j00, j10, j20, j30, k00, k01, k02, k03, i20, i30, km0, i10, i01, im0, im1, i0m, i1m]
/-- the first letters are the same on both sides -/
theorem firstBoth {m : Nat} {Y Z : gM} {S : (Nat → Option Nat) × (Nat → Int32) × (Nat → Nat → Int32)} (hm1 : 1 ≤ m) (y5 : rdR m 0 (Y 35 0) (Y 36 0) (rwC Y) S) (z4 : rdR m 0 (Z 68 0) (Z 70 0) (rwM Z) S) (hb : bhB m S 0) (hm : m ≤ 8) :
    Z 68 0 0 = Y 35 0 0 ∧ (S.1 0 = none ↔ Y 35 0 0 = -1) ∧ (¬ Y 35 0 0 = -1 → ∀ c, c < m → Z 71 0 c = Y 38 0 c ∧ Y 38 0 c = S.2.2 0 c) := by
  obtain ⟨a1, a2, a3⟩ := y5 0 (Nat.le_refl 0) (by omega)
  obtain ⟨b1, b2, b3⟩ := z4 0 (Nat.le_refl 0) (by omega)
  have hn : S.1 0 = none ↔ Y 35 0 0 = -1 := by
    rw [a1, enc_m1 (fun f hf => by have := hb 0 f (Nat.le_refl 0) (by omega) hf; omega)]
  refine ⟨b1.trans a1.symm, hn, fun hne c hc => ?_⟩
  have hne' : S.1 0 ≠ none := fun q => hne (hn.mp q)
  have q1 := a3 hne' c (by omega) hc
  have q2 := b3 hne' c (by omega) hc
  have q3 : Z 71 0 (8 * 0 + c) = S.2.2 0 c := q2
  have e : 8 * 0 + c = c := by omega
  rw [e] at q3
  exact ⟨q3.trans q1.symm, q1⟩
theorem case11 {NL : List (Nat × Nat)} {al : Nat → Nat → Bool} {N : Nat} {X : gM} (hN : 1000000 ≤ N) (a1 a2 a3 a4 a5 a6 : Int32) (h : gJ NL X) : ∃ (rr : Int32) (X' : gM), K11 (gal NL) al N [] a1 a2 a3 a4 a5 a6 X = some (rr, X') ∧ gJ NL X' := by
  unfold K11
  rw [eqn_nil, Option.bind_some]
  obtain ⟨L, F, D, W, K, g1, g2, g3, g4, g5, g6, g7, g8, g9, g10, g11, g12⟩ := id h
  obtain ⟨hL, h430, h002, h4, hlf⟩ := id g2
  rcases cell3 (NL := NL) (F := F) (W := W) (K := K) g2 a1 a2 a3 with h1 | ⟨i, ln, m, hi, rfl, f45, f46, kl, kw, f52, f53, f6, h1 | ⟨l, c, hl, hc, rfl, rfl⟩⟩
  · refine ⟨_, _, K_thrown (k := 1) (r := 0) (X1 := X) (X2 := mset X 43 0 46 1) ?_ ?_ (mset_same ..) (by decide), gJ_th _ h⟩
    · simp (disch := omega) only [L_letter, X9_letter, X9_letter_J22, X9_leafOf_no hL h4 h1, zn_add, zn_mul, zn_addl, zn_ladd, zn_mull, zn_lmul, zn_le, zn_lt, zn_eq, zn_lel, zn_ltl, zn_eql, zn_lle, zn_llt, zn_leq, zn_sub, zn_subl, zn_m1, gl_eq, bind2_some, bind3_some, Option.bind_some, bz_0, bz_1, ib_0, ib_1, ib_bz, rd_nI, rd_l, if_pos, if_neg, if_true, if_false, ite_true, ite_false, eq_self, j00, j10, j20, j30, k00, k01, k02, k03, i20, i30, km0, i10, i01, im0, im1, i0m, i1m]
      try rfl
    · simp (disch := omega) only [X10_letter, X10_letter_J31, X10_isCell_no1 h430 (by omega) h1, mset_same, zn_add, zn_mul, zn_addl, zn_ladd, zn_mull, zn_lmul, zn_le, zn_lt, zn_eq, zn_lel, zn_ltl, zn_eql, zn_lle, zn_llt, zn_leq, zn_sub, zn_subl, zn_m1, gl_eq, bind2_some, bind3_some, Option.bind_some, bz_0, bz_1, ib_0, ib_1, ib_bz, rd_nI, rd_l, if_pos, if_neg, if_true, if_false, ite_true, ite_false, eq_self, j00, j10, j20, j30, k00, k01, k02, k03, i20, i30, km0, i10, i01, im0, im1, i0m, i1m]
      try rfl
  · have ha : gal NL 5 i = true := gal_al g1 hi
    refine ⟨_, _, K_thrown (k := 1) (r := 0) (X1 := X) (X2 := mset X 43 0 46 1) ?_ ?_ (mset_same ..) (by decide), gJ_th _ h⟩
    · simp (disch := omega) only [L_letter, X9_letter, X9_letter_J22, X9_leafOf_yes hL h4 hi, if_neg (zn_nn (a := i) (by omega)), dr_nI ha (by omega : i < 2147483648), X2_cellAt_no f52 f53 h1, zn_add, zn_mul, zn_addl, zn_ladd, zn_mull, zn_lmul, zn_le, zn_lt, zn_eq, zn_lel, zn_ltl, zn_eql, zn_lle, zn_llt, zn_leq, zn_sub, zn_subl, zn_m1, gl_eq, bind2_some, bind3_some, Option.bind_some, bz_0, bz_1, ib_0, ib_1, ib_bz, rd_nI, rd_l, if_pos, if_neg, if_true, if_false, ite_true, ite_false, eq_self, j00, j10, j20, j30, k00, k01, k02, k03, i20, i30, km0, i10, i01, im0, im1, i0m, i1m]
      try rfl
    · simp (disch := omega) only [X10_letter, X10_letter_J31, X10_isCell_eq h430 hL hi f45 f46 kl kw, if_neg h1, mset_same, zn_add, zn_mul, zn_addl, zn_ladd, zn_mull, zn_lmul, zn_le, zn_lt, zn_eq, zn_lel, zn_ltl, zn_eql, zn_lle, zn_llt, zn_leq, zn_sub, zn_subl, zn_m1, gl_eq, bind2_some, bind3_some, Option.bind_some, bz_0, bz_1, ib_0, ib_1, ib_bz, rd_nI, rd_l, if_pos, if_neg, if_true, if_false, ite_true, ite_false, eq_self, j00, j10, j20, j30, k00, k01, k02, k03, i20, i30, km0, i10, i01, im0, im1, i0m, i1m]
      try rfl
  · have ha : gal NL 5 i = true := gal_al g1 hi
    have hlt := lw_lt hl hc
    have hle := lw_le kl kw
    have hcell : ir (nI l) ln ∧ ir (nI c) m := ⟨ir_nI (by omega) hl, ir_nI (by omega) hc⟩
    have hca := X2_cellAt_yes (al := gal NL) (N := N) (i := i) (X := X) f52 f53 kw kl f6 hl hc
    by_cases h3 : 0 ≤ a4 ∧ a4 ≤ 7
    · obtain ⟨Y, y1, y2, y3, y4, y5, y6⟩ := readBoth (al := al) (y := a4) (by omega : 1000 ≤ N) g1 g2 g3 g9 hi hl kl f45 f46 f52 f53 f6 (by omega) kw
      generalize hv : (if Y 35 0 0 = -1 then (-1 : Int32) else Y 38 0 c) = v
      have e1 : L_letter (gal NL) N (nI i) (nI l) (nI c) a4 X = some (0, mset Y 81 0 0 v) := by
        have e29 := y3.1
        have hf : X6_firstLetter (gal NL) N (nI c) Y = some (v, Y) := by
          rw [← hv]
          simp (disch := omega) only [X6_firstLetter, X6_firstLetter_J22, e29, zn_add, zn_mul, zn_addl, zn_ladd, zn_mull, zn_lmul, zn_le, zn_lt, zn_eq, zn_lel, zn_ltl, zn_eql, zn_lle, zn_llt, zn_leq, zn_sub, zn_subl, zn_m1, gl_eq, bind2_some, bind3_some, Option.bind_some, bz_0, bz_1, ib_0, ib_1, ib_bz, rd_nI, rd_l, if_pos, if_neg, if_true, if_false, ite_true, ite_false, eq_self, j00, j10, j20, j30, k00, k01, k02, k03, i20, i30, km0, i10, i01, im0, im1, i0m, i1m]
          by_cases hz : Y 35 0 0 = -1
          · rw [if_pos hz, if_pos hz]
          · rw [if_neg hz, if_neg hz]
        simp (disch := omega) only [L_letter, X9_letter, X9_leafOf_yes hL h4 hi, if_neg (zn_nn (a := i) (by omega)), dr_nI ha (by omega : i < 2147483648), hca, if_neg (zn_nn (a := 32 * i + (l * m + c)) (by omega)), X9_isLayer_eq, if_pos h3, y1, hf, zn_add, zn_mul, zn_addl, zn_ladd, zn_mull, zn_lmul, zn_le, zn_lt, zn_eq, zn_lel, zn_ltl, zn_eql, zn_lle, zn_llt, zn_leq, zn_sub, zn_subl, zn_m1, gl_eq, bind2_some, bind3_some, Option.bind_some, bz_0, bz_1, ib_0, ib_1, ib_bz, rd_nI, rd_l, if_pos, if_neg, if_true, if_false, ite_true, ite_false, eq_self, j00, j10, j20, j30, k00, k01, k02, k03, i20, i30, km0, i10, i01, im0, im1, i0m, i1m]
      obtain ⟨Z, z1, z2, z3, z4⟩ := y6 (mset (mset Y 81 0 0 v) 43 0 46 0) (fun k p j hk => by
        simp only [mset_at]
        rw [if_neg (by omega), if_neg (by omega), y2 k p j (by omega)])
      have hbb := rdT_le m W (lnB X i l) (lnH X i l m a4) (lnN X i l a4) (lnL X) (lnD X) y3.2.2.2.2.1 (fun w hw => (y3.2.2.2.2.2.2 w hw).1) m (Nat.le_refl m)
      rw [Nat.sub_self] at hbb
      obtain ⟨f1, f2, f3⟩ := firstBoth (by omega) y5 z4 hbb kw
      have z46 : Z 43 0 46 = 0 := by rw [z2 43 0 46 (by omega), mset_same]
      have e2 : X10_letter al N (nI i) (nI l) (nI c) a4 (mset Y 81 0 0 v) = some (v, Z) := by
        have := X10_isCell_eq (al := al) (N := N) (X := mset Y 81 0 0 v) (q := nI l) (c := nI c) (by rw [mset_at, if_neg (by omega), y2 43 0 0 (by omega), h430]) hL hi (by rw [mset_at, if_neg (by omega), y2 45 0 i (by omega), f45]) (by rw [mset_at, if_neg (by omega), y2 46 0 i (by omega), f46]) kl kw
        rw [if_pos hcell] at this
        simp (disch := omega) only [X10_letter, X10_letter_J31, X10_letter_J71, this, X10_in_eq, if_pos h3, mset_same, z1, f1, zn_add, zn_mul, zn_addl, zn_ladd, zn_mull, zn_lmul, zn_le, zn_lt, zn_eq, zn_lel, zn_ltl, zn_eql, zn_lle, zn_llt, zn_leq, zn_sub, zn_subl, zn_m1, gl_eq, bind2_some, bind3_some, Option.bind_some, bz_0, bz_1, ib_0, ib_1, ib_bz, rd_nI, rd_l, if_pos, if_neg, if_true, if_false, ite_true, ite_false, eq_self, j00, j10, j20, j30, k00, k01, k02, k03, i20, i30, km0, i10, i01, im0, im1, i0m, i1m]
        by_cases hz : Y 35 0 0 = -1
        · rw [if_pos hz] at hv ⊢; rw [hv]
        · rw [if_neg hz] at hv ⊢; rw [(f3 hz c hc).1, hv]
      refine ⟨0, Z, K_ans e1 e2 z46 ?_, gJ_sm (fun k p j hs => ?_) h⟩
      · rw [z2 81 0 0 (by omega)]; simp [mset_at]
      · have hk : ¬ ((68 ≤ k ∧ k ≤ 81) ∨ (29 ≤ k ∧ k ≤ 36) ∨ k = 38 ∨ (k = 43 ∧ (j = 29 ∨ j = 30 ∨ j = 46))) := by
          intro hc
          simp [scr] at hs
          omega
        rw [z2 k p j (by omega)]
        simp only [mset_at]
        rw [if_neg (by omega), if_neg (by omega), y2 k p j (by omega)]
    · refine ⟨_, _, K_thrown (k := 2) (r := 0) (X1 := X) (X2 := mset X 43 0 46 2) ?_ ?_ (mset_same ..) (by decide), gJ_th _ h⟩
      · simp (disch := omega) only [L_letter, X9_letter, X9_leafOf_yes hL h4 hi, if_neg (zn_nn (a := i) (by omega)), dr_nI ha (by omega : i < 2147483648), hca, if_neg (zn_nn (a := 32 * i + (l * m + c)) (by omega)), X9_isLayer_eq, if_neg h3, zn_add, zn_mul, zn_addl, zn_ladd, zn_mull, zn_lmul, zn_le, zn_lt, zn_eq, zn_lel, zn_ltl, zn_eql, zn_lle, zn_llt, zn_leq, zn_sub, zn_subl, zn_m1, gl_eq, bind2_some, bind3_some, Option.bind_some, bz_0, bz_1, ib_0, ib_1, ib_bz, rd_nI, rd_l, if_pos, if_neg, if_true, if_false, ite_true, ite_false, eq_self, j00, j10, j20, j30, k00, k01, k02, k03, i20, i30, km0, i10, i01, im0, im1, i0m, i1m]
        try rfl
      · simp (disch := omega) only [X10_letter, X10_letter_J31, X10_isCell_eq h430 hL hi f45 f46 kl kw, if_pos hcell, X10_in_eq, if_neg h3, mset_same, zn_add, zn_mul, zn_addl, zn_ladd, zn_mull, zn_lmul, zn_le, zn_lt, zn_eq, zn_lel, zn_ltl, zn_eql, zn_lle, zn_llt, zn_leq, zn_sub, zn_subl, zn_m1, gl_eq, bind2_some, bind3_some, Option.bind_some, bz_0, bz_1, ib_0, ib_1, ib_bz, rd_nI, rd_l, if_pos, if_neg, if_true, if_false, ite_true, ite_false, eq_self, j00, j10, j20, j30, k00, k01, k02, k03, i20, i30, km0, i10, i01, im0, im1, i0m, i1m]
        try rfl
