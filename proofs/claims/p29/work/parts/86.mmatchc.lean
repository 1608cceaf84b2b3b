/-! the case match -/
theorem jL_th {L : Nat} {X : gM} (v : Int32) (g : jL L X) : jL L (mset X 43 0 46 v) := jL_cg (by repeat (first | exact (fun _ _ _ _ => rfl) | refine dset ?_ rfl)) g
theorem case21 {NL : List (Nat × Nat)} {al : Nat → Nat → Bool} {N : Nat} {X : gM} (hN : 1000000 ≤ N) (a1 a2 a3 a4 a5 a6 : Int32) (h : gJ NL X) : ∃ (rr : Int32) (X' : gM), K21 (gal NL) al N [] a1 a2 a3 a4 a5 a6 X = some (rr, X') ∧ gJ NL X' := by
  unfold K21
  rw [eqn_nil, Option.bind_some]
  generalize (if a5 = (0 : Int32) then (0 : Int32) else (1 : Int32)) = p5
  obtain ⟨L, F, D, W, K, g1, g2, g3, g4, g5, g6, g7, g8, g9, g10, g11, g12⟩ := id h
  obtain ⟨hL, h430, h002, h4, hlf⟩ := id g2
  obtain ⟨hK, k1, k2, h28, hk⟩ := id g10
  have hbadM : ((¬ ir a1 K) ∨ (¬ ir a2 L) ∨ ∃ i ln, i < L ∧ a2 = nI i ∧ X 45 0 i = nI ln ∧ ln ≤ 4 ∧ ¬ ir a3 ln) → ∃ X2, X10_match al N a1 a2 a3 a4 p5 X = some (0, X2) ∧ X2 43 0 46 = 1 ∧ gJ NL X2 := by
    intro hb
    by_cases hw : ir a1 K
    · have hb := hb.resolve_left (fun q => q hw)
      have hm : (0 : Int32) ≤ a1 ∧ a1 ≤ nI K - 1 := ⟨hw.1, (le_pred (by omega)).mpr hw.2⟩
      have := asks_thr1 (al := al) (N := N) (p1 := a2) (p2 := a3) (p3 := a4) (jL_th 0 g2) (hb.imp id (fun ⟨i, ln, q1, q2, q3, q4, q5⟩ => ⟨i, ln, q1, q2, by rw [mset_at, if_neg (by omega), q3], q4, q5⟩))
      refine ⟨_, ?_, mset_same .., gJ_th 1 (gJ_th 0 h)⟩
      simp (disch := omega) only [X10_match, X10_match_J20, X10_match_J41, X10_in_eq, k1, if_pos hm, mset_same, this, zn_add, zn_mul, zn_addl, zn_ladd, zn_mull, zn_lmul, zn_le, zn_lt, zn_eq, zn_lel, zn_ltl, zn_eql, zn_lle, zn_llt, zn_leq, zn_sub, zn_subl, zn_m1, gl_eq, bind2_some, bind3_some, Option.bind_some, bz_0, bz_1, ib_0, ib_1, ib_bz, rd_nI, rd_l, if_pos, if_neg, if_true, if_false, ite_true, ite_false, eq_self, j00, j10, j20, j30, k00, k01, k02, k03, i20, i30, km0, i10, i01, im0, im1, i0m, i1m]
    · have hm : ¬ ((0 : Int32) ≤ a1 ∧ a1 ≤ nI K - 1) := fun q => hw ⟨q.1, (le_pred (by omega)).mp q.2⟩
      refine ⟨_, ?_, mset_same .., gJ_th 1 h⟩
      simp (disch := omega) only [X10_match, X10_match_J20, X10_match_J41, X10_in_eq, k1, if_neg hm, mset_same, zn_add, zn_mul, zn_addl, zn_ladd, zn_mull, zn_lmul, zn_le, zn_lt, zn_eq, zn_lel, zn_ltl, zn_eql, zn_lle, zn_llt, zn_leq, zn_sub, zn_subl, zn_m1, gl_eq, bind2_some, bind3_some, Option.bind_some, bz_0, bz_1, ib_0, ib_1, ib_bz, rd_nI, rd_l, if_pos, if_neg, if_true, if_false, ite_true, ite_false, eq_self, j00, j10, j20, j30, k00, k01, k02, k03, i20, i30, km0, i10, i01, im0, im1, i0m, i1m]
  rcases line2 g2 a2 a3 with h1 | ⟨i, ln, m, hi, rfl, f45, f46, kl, m1, kw, f52, f53, f6, h1 | ⟨l, hl, rfl⟩⟩
  · obtain ⟨X2, e2, t2, j2⟩ := hbadM (Or.inr (Or.inl h1))
    refine ⟨0, X2, K_thrown (k := 1) (r := 0) (X1 := X) ?_ e2 t2 (by decide), j2⟩
    simp (disch := omega) only [L_match, X9_match, X9_match_J21, X9_leafOf_no hL h4 h1, zn_add, zn_mul, zn_addl, zn_ladd, zn_mull, zn_lmul, zn_le, zn_lt, zn_eq, zn_lel, zn_ltl, zn_eql, zn_lle, zn_llt, zn_leq, zn_sub, zn_subl, zn_m1, gl_eq, bind2_some, bind3_some, Option.bind_some, bz_0, bz_1, ib_0, ib_1, ib_bz, rd_nI, rd_l, if_pos, if_neg, if_true, if_false, ite_true, ite_false, eq_self, j00, j10, j20, j30, k00, k01, k02, k03, i20, i30, km0, i10, i01, im0, im1, i0m, i1m]
    try rfl
  · have ha : gal NL 5 i = true := gal_al g1 hi
    obtain ⟨X2, e2, t2, j2⟩ := hbadM (Or.inr (Or.inr ⟨i, ln, hi, rfl, f45, kl, h1⟩))
    refine ⟨0, X2, K_thrown (k := 1) (r := 0) (X1 := X) ?_ e2 t2 (by decide), j2⟩
    simp (disch := omega) only [L_match, X9_match, X9_match_J21, X9_leafOf_yes hL h4 hi, if_neg (zn_nn (a := i) (by omega)), dr_nI ha (by omega : i < 2147483648), X2_hasLine_eq f52, if_neg h1, zn_add, zn_mul, zn_addl, zn_ladd, zn_mull, zn_lmul, zn_le, zn_lt, zn_eq, zn_lel, zn_ltl, zn_eql, zn_lle, zn_llt, zn_leq, zn_sub, zn_subl, zn_m1, gl_eq, bind2_some, bind3_some, Option.bind_some, bz_0, bz_1, ib_0, ib_1, ib_bz, rd_nI, rd_l, if_pos, if_neg, if_true, if_false, ite_true, ite_false, eq_self, j00, j10, j20, j30, k00, k01, k02, k03, i20, i30, km0, i10, i01, im0, im1, i0m, i1m]
    try rfl
  · have ha : gal NL 5 i = true := gal_al g1 hi
    have hil : ir (nI l) ln := ir_nI (by omega) hl
    by_cases hw : ir a1 K
    · obtain ⟨w, hwK, rfl⟩ := ir_ex (by omega) hw
      obtain ⟨n, n1, n2, q1, q2, q3, q4⟩ := hk w hwK
      have hw3 : (0 : Int32) ≤ nI w ∧ nI w ≤ 3 := ⟨not_lt32.mp (zn_nn (by omega)), (zn_lel (k := 3) (by omega) (by decide)).mpr (show w ≤ 3 by omega)⟩
      have hm : (0 : Int32) ≤ nI w ∧ nI w ≤ nI K - 1 := ⟨hw.1, (le_pred (by omega)).mpr hw.2⟩
      have hal26 : gal NL 26 (12 + w) = true := gal_al g1 (Or.inr ⟨by omega, by omega⟩)
      by_cases h3 : 0 ≤ a4 ∧ a4 ≤ 7
      · obtain ⟨Y, y1, y2, y3, y4, y5, y6⟩ := readBoth (al := al) (y := a4) (by omega : 1000 ≤ N) g1 g2 g3 g9 hi hl kl f45 f46 f52 f53 f6 m1 kw
        have hbb := rdT_le m W (lnB X i l) (lnH X i l m a4) (lnN X i l a4) (lnL X) (lnD X) y3.2.2.2.2.1 (fun w hw => (y3.2.2.2.2.2.2 w hw).1) m (Nat.le_refl m)
        rw [Nat.sub_self] at hbb
        by_cases hz : Y 35 0 0 = -1
        · have e1 : L_match (gal NL) N (nI w) (nI i) (nI l) a4 p5 X = some (0, mset Y 81 0 0 (-1)) := by
            simp (disch := omega) only [L_match, X9_match, X9_leafOf_yes hL h4 hi, if_neg (zn_nn (a := i) (by omega)), dr_nI ha (by omega : i < 2147483648), X2_hasLine_eq f52, if_pos hil, X9_isWithin_eq, Int32.reduceSub, if_pos hw3, rd_nI, h28, if_pos hwK, if_neg (zn_nn (a := 12 + w) (by omega)), X9_isLayer_eq, if_pos h3, y1, X6_bestWeight, hz, gl_eq, bind2_some, bind3_some, Option.bind_some, bz_0, bz_1, ib_0, ib_1, ib_bz, rd_nI, rd_l, if_pos, if_neg, if_true, if_false, ite_true, ite_false, eq_self, j00, j10, j20, j30, k00, k01, k02, k03, i20, i30, km0, i10, i01, im0, im1, i0m, i1m]
          obtain ⟨Z, z1, z2, z3, z4⟩ := y6 (mset (mset (mset Y 81 0 0 (-1)) 43 0 46 0) 43 0 46 0) (fun k p j hk => by
            simp only [mset_at]
            rw [if_neg (by omega), if_neg (by omega), if_neg (by omega), y2 k p j (by omega)])
          obtain ⟨f1, f2, f3⟩ := firstBoth m1 y5 z4 hbb kw
          have hJ1 : jL L (mset (mset Y 81 0 0 (-1)) 43 0 46 0) := jL_th 0 (jL_cg (dset (fun k p j hd => y2 k p j (by simp only [djN, djL, djC, djZ, djH, djB, djF, djD, djW, djK, djI, djS, Bool.or_eq_true, Bool.and_eq_true, decide_eq_true_eq] at hd; omega)) rfl) g2)
          have z46 : Z 43 0 46 = 0 := by rw [z2 43 0 46 (by omega), mset_same]
          have hask := asks_ok (al := al) (N := N) hJ1 hi (by rw [mset_at, if_neg (by omega), mset_at, if_neg (by omega), y2 45 0 i (by omega), f45]) kl hl h3 z1 z46
          have r20 : (mset Y 81 0 0 (-1)) 43 0 20 = nI K := by rw [mset_at, if_neg (by omega), y2 43 0 20 (by omega), k1]
          have e2 : X10_match al N (nI w) (nI i) (nI l) a4 p5 (mset Y 81 0 0 (-1)) = some (-1, Z) := by
            simp (disch := omega) only [X10_match, X10_match_J20, X10_in_eq, r20, if_pos hm, mset_same, hask, f1, hz, gl_eq, bind2_some, bind3_some, Option.bind_some, bz_0, bz_1, ib_0, ib_1, ib_bz, rd_nI, rd_l, if_pos, if_neg, if_true, if_false, ite_true, ite_false, eq_self, j00, j10, j20, j30, k00, k01, k02, k03, i20, i30, km0, i10, i01, im0, im1, i0m, i1m]
          refine ⟨0, Z, K_ans e1 e2 z46 ?_, gJ_sm (fun k p j hs => ?_) h⟩
          · rw [z2 81 0 0 (by omega)]; simp [mset_at]
          · have hk : ¬ ((68 ≤ k ∧ k ≤ 81) ∨ (29 ≤ k ∧ k ≤ 36) ∨ k = 38 ∨ (k = 43 ∧ (j = 29 ∨ j = 30 ∨ j = 46))) := by
              intro hc
              simp [scr] at hs
              omega
            rw [z2 k p j (by omega)]
            simp only [mset_at]
            rw [if_neg (by omega), if_neg (by omega), if_neg (by omega), y2 k p j (by omega)]
        · obtain ⟨U, u1, u2, u3, u4⟩ := X4_align_eq (al := gal NL) (N := N) (t := 12 + w) (n := n) (m := m) (Y := Y) (wk := fun j => X 62 0 (40 * w + j)) (lt := fun c => Y 38 0 c) (by omega) n2 kw y3.1 hz (fun _ _ => rfl) ((y2 26 _ 1 (by omega)).trans q2) ((y2 27 _ 99 (by omega)).trans q3) (fun j hj => by
            obtain ⟨u, u1, u2, u3⟩ := q4 j hj
            rw [y2 27 _ j (by omega), u3, ← u2])
          generalize hv : (if p5 = 0 then nI (csF (fun c => Y 38 0 c) (fun j => X 62 0 (40 * w + j)) m (lsF (csF (fun c => Y 38 0 c) (fun j => X 62 0 (40 * w + j)) m) n)) else nI (lsF (csF (fun c => Y 38 0 c) (fun j => X 62 0 (40 * w + j)) m) n)) = v
          have e1 : L_match (gal NL) N (nI w) (nI i) (nI l) a4 p5 X = some (0, mset U 81 0 0 v) := by
            simp (disch := omega) only [L_match, X9_match, X9_leafOf_yes hL h4 hi, if_neg (zn_nn (a := i) (by omega)), dr_nI ha (by omega : i < 2147483648), X2_hasLine_eq f52, if_pos hil, X9_isWithin_eq, Int32.reduceSub, if_pos hw3, rd_nI, h28, if_pos hwK, if_neg (zn_nn (a := 12 + w) (by omega)), X9_isLayer_eq, if_pos h3, y1, X6_bestWeight, if_neg hz, dr_nI hal26 (by omega : 12 + w < 2147483648), u1, X9_match_J153, gl_eq, bind2_some, bind3_some, Option.bind_some, bz_0, bz_1, ib_0, ib_1, ib_bz, rd_nI, rd_l, if_pos, if_neg, if_true, if_false, ite_true, ite_false, eq_self, j00, j10, j20, j30, k00, k01, k02, k03, i20, i30, km0, i10, i01, im0, im1, i0m, i1m]
            rw [← hv]
            by_cases h5 : p5 = 0
            · rw [if_pos h5, if_pos h5, u3]; rfl
            · rw [if_neg h5, if_neg h5, u4]; rfl
          obtain ⟨Z, z1, z2, z3, z4⟩ := y6 (mset (mset (mset U 81 0 0 v) 43 0 46 0) 43 0 46 0) (fun k p j hk => by
            simp only [mset_at]
            rw [if_neg (by omega), if_neg (by omega), if_neg (by omega), u2 k p j (by omega), y2 k p j (by omega)])
          obtain ⟨f1, f2, f3⟩ := firstBoth m1 y5 z4 hbb kw
          have hJ1 : jL L (mset (mset U 81 0 0 v) 43 0 46 0) := jL_th 0 (jL_cg (dset (fun k p j hd => by
            have hd' : ¬ (k = 40 ∨ k = 41 ∨ (29 ≤ k ∧ k ≤ 36) ∨ k = 38) := by simp only [djN, djL, djC, djZ, djH, djB, djF, djD, djW, djK, djI, djS, Bool.or_eq_true, Bool.and_eq_true, decide_eq_true_eq] at hd; omega
            rw [u2 k p j (by omega), y2 k p j (by omega)]) rfl) g2)
          have z46 : Z 43 0 46 = 0 := by rw [z2 43 0 46 (by omega), mset_same]
          have hask := asks_ok (al := al) (N := N) hJ1 hi (by rw [mset_at, if_neg (by omega), mset_at, if_neg (by omega), u2 45 0 i (by omega), y2 45 0 i (by omega), f45]) kl hl h3 z1 z46
          have r20 : (mset U 81 0 0 v) 43 0 20 = nI K := by rw [mset_at, if_neg (by omega), u2 43 0 20 (by omega), y2 43 0 20 (by omega), k1]
          have hZX : ∀ k p j, ¬ (k = 68 ∨ k = 70 ∨ k = 71 ∨ k = 72 ∨ k = 73 ∨ k = 74 ∨ (k = 43 ∧ (j = 29 ∨ j = 30 ∨ j = 46)) ∨ k = 81 ∨ (29 ≤ k ∧ k ≤ 42)) → Z k p j = X k p j := fun k p j hk => by
            rw [z2 k p j (by omega)]
            simp only [mset_at]
            rw [if_neg (by omega), if_neg (by omega), if_neg (by omega), u2 k p j (by omega), y2 k p j (by omega)]
          obtain ⟨V, v1, v2⟩ := X10_match_eq (al := al) (N := N) (w := w) (i := i) (n := n) (m := m) (p5 := p5) (Y := Z) (wk := fun j => X 62 0 (40 * w + j)) (lt := fun c => Y 38 0 c) (by omega) (by omega) (by omega) n1 n2 kw ((hZX 46 0 i (by omega)).trans f46) (fun c hc => (f3 hz c hc).1) (fun j hj => hZX 62 0 _ (by omega))
          have e61 : Z 61 0 w = nI n := (hZX 61 0 w (by omega)).trans q1
          have e2 : X10_match al N (nI w) (nI i) (nI l) a4 p5 (mset U 81 0 0 v) = some (v, V) := by
            have hz' : ¬ Z 68 0 0 = -1 := by rw [f1]; exact hz
            simp (disch := omega) only [X10_match, X10_match_J20, X10_in_eq, r20, if_pos hm, mset_same, hask, if_neg hz', e61, v1, gl_eq, bind2_some, bind3_some, Option.bind_some, bz_0, bz_1, ib_0, ib_1, ib_bz, rd_nI, rd_l, if_pos, if_neg, if_true, if_false, ite_true, ite_false, eq_self, j00, j10, j20, j30, k00, k01, k02, k03, i20, i30, km0, i10, i01, im0, im1, i0m, i1m]
            rw [hv]
          refine ⟨0, V, K_ans e1 e2 ?_ ?_, gJ_sm (fun k p j hs => ?_) h⟩
          · rw [v2 43 0 46 (by omega)]; exact z46
          · rw [v2 81 0 0 (by omega), z2 81 0 0 (by omega)]; simp [mset_at]
          · have hk : ¬ ((68 ≤ k ∧ k ≤ 81) ∨ (29 ≤ k ∧ k ≤ 36) ∨ (38 ≤ k ∧ k ≤ 42) ∨ (k = 43 ∧ (j = 29 ∨ j = 30 ∨ j = 46))) := by
              intro hc
              simp [scr] at hs
              omega
            rw [v2 k p j (by omega), z2 k p j (by omega)]
            simp only [mset_at]
            rw [if_neg (by omega), if_neg (by omega), if_neg (by omega), u2 k p j (by omega), y2 k p j (by omega)]
      · have hask := asks_thr2 (al := al) (N := N) (p3 := a4) (jL_th 0 g2) hi (by rw [mset_at, if_neg (by omega), f45]) kl hl h3
        refine ⟨0, mset (mset X 43 0 46 0) 43 0 46 2, K_thrown (k := 2) (r := 0) (X1 := X) ?_ ?_ (mset_same ..) (by decide), gJ_th _ (gJ_th _ h)⟩
        · simp (disch := omega) only [L_match, X9_match, X9_leafOf_yes hL h4 hi, if_neg (zn_nn (a := i) (by omega)), dr_nI ha (by omega : i < 2147483648), X2_hasLine_eq f52, if_pos hil, X9_isWithin_eq, Int32.reduceSub, if_pos hw3, rd_nI, h28, if_pos hwK, if_neg (zn_nn (a := 12 + w) (by omega)), X9_isLayer_eq, if_neg h3, gl_eq, bind2_some, bind3_some, Option.bind_some, bz_0, bz_1, ib_0, ib_1, ib_bz, rd_nI, rd_l, if_pos, if_neg, if_true, if_false, ite_true, ite_false, eq_self, j00, j10, j20, j30, k00, k01, k02, k03, i20, i30, km0, i10, i01, im0, im1, i0m, i1m]
          try rfl
        · simp (disch := omega) only [X10_match, X10_match_J20, X10_match_J41, X10_in_eq, k1, if_pos hm, mset_same, hask, gl_eq, bind2_some, bind3_some, Option.bind_some, bz_0, bz_1, ib_0, ib_1, ib_bz, rd_nI, rd_l, if_pos, if_neg, if_true, if_false, ite_true, ite_false, eq_self, j00, j10, j20, j30, k00, k01, k02, k03, i20, i30, km0, i10, i01, im0, im1, i0m, i1m]
    · obtain ⟨X2, e2, t2, j2⟩ := hbadM (Or.inl hw)
      refine ⟨0, X2, K_thrown (k := 1) (r := 0) (X1 := X) ?_ e2 t2 (by decide), j2⟩
      by_cases hw3 : 0 ≤ a1 ∧ a1 ≤ 3
      · obtain ⟨w, hw4, rfl⟩ : ∃ v, v < 4 ∧ a1 = nI v := ir_ex (by omega) ((ir_le a1 3 (by omega)).mp hw3)
        have hwK : ¬ w < K := fun q => hw (ir_nI (by omega) q)
        simp (disch := omega) only [L_match, X9_match, X9_leafOf_yes hL h4 hi, if_neg (zn_nn (a := i) (by omega)), dr_nI ha (by omega : i < 2147483648), X2_hasLine_eq f52, if_pos hil, X9_isWithin_eq, Int32.reduceSub, if_pos hw3, rd_nI, h28, if_neg hwK, gl_eq, bind2_some, bind3_some, Option.bind_some, bz_0, bz_1, ib_0, ib_1, ib_bz, rd_nI, rd_l, if_pos, if_neg, if_true, if_false, ite_true, ite_false, eq_self, j00, j10, j20, j30, k00, k01, k02, k03, i20, i30, km0, i10, i01, im0, im1, i0m, i1m]
        try rfl
      · simp (disch := omega) only [L_match, X9_match, X9_leafOf_yes hL h4 hi, if_neg (zn_nn (a := i) (by omega)), dr_nI ha (by omega : i < 2147483648), X2_hasLine_eq f52, if_pos hil, X9_isWithin_eq, Int32.reduceSub, if_neg hw3, gl_eq, bind2_some, bind3_some, Option.bind_some, bz_0, bz_1, ib_0, ib_1, ib_bz, rd_nI, rd_l, if_pos, if_neg, if_true, if_false, ite_true, ite_false, eq_self, j00, j10, j20, j30, k00, k01, k02, k03, i20, i30, km0, i10, i01, im0, im1, i0m, i1m]
        try rfl
