/-! the case give -/
theorem sF_cg {X Y : gM} {a b s : Nat} {lt vt : Nat → Nat} (h9 : ∀ j, j < 3 → Y 9 a (3 * s + j) = X 9 a (3 * s + j)) (h10 : ∀ j, j < 3 → Y 10 a (3 * s + j) = X 10 a (3 * s + j)) (h57 : ∀ k, k < 26 → Y 57 0 (26 * (320 * s + b) + k) = X 57 0 (26 * (320 * s + b) + k)) (g : sF X a b s lt vt) : sF Y a b s lt vt := by
  obtain ⟨g1, g2, g3⟩ := g
  refine ⟨fun j hj => ?_, g2, fun k hk => ?_⟩
  · rw [h9 j hj, h10 j hj]; exact g1 j hj
  · rw [h57 k hk]; exact g3 k hk
theorem case5 {NL : List (Nat × Nat)} {al : Nat → Nat → Bool} {N : Nat} {X : gM} (hN : 1000000 ≤ N) (a1 a2 a3 a4 a5 a6 : Int32) (h : gJ NL X) : ∃ (rr : Int32) (X' : gM), K5 (gal NL) al N [] a1 a2 a3 a4 a5 a6 X = some (rr, X') ∧ gJ NL X' := by
  unfold K5
  rw [eqn_nil, Option.bind_some]
  obtain ⟨L, F, D, W, K, g1, g2, g3, g4, g5, g6, g7, g8, g9, g10, g11, g12⟩ := id h
  obtain ⟨hL, h430, h002, h4, hlf⟩ := id g2
  have thr1 : ∀ X2 : gM, X10_give al N a1 a2 a3 a4 a5 a6 X = X10_give_J21 al N a1 a2 a3 a4 a5 a6 X → X10_give al N a1 a2 a3 a4 a5 a6 X = some (0, mset X 43 0 46 1) := fun _ q => by
    rw [q]
    simp (disch := omega) only [X10_give_J21, X10_give_J52, mset_same, zn_add, zn_mul, zn_addl, zn_ladd, zn_mull, zn_lmul, zn_le, zn_lt, zn_eq, zn_lel, zn_ltl, zn_eql, zn_lle, zn_llt, zn_leq, zn_sub, zn_subl, zn_m1, gl_eq, bind2_some, bind3_some, Option.bind_some, bz_0, bz_1, ib_0, ib_1, ib_bz, rd_nI, rd_l, if_pos, if_neg, if_true, if_false, ite_true, ite_false, eq_self, j00, j10, j20, j30, k00, k01, k02, k03, i20, i30, km0, i10, i01, im0, im1, i0m, i1m]
  rcases cell3 (NL := NL) (F := F) (W := W) (K := K) g2 a2 a3 a4 with h1 | ⟨i, ln, w, hi, rfl, f45, f46, kl, kw, f52, f53, f6, h1 | ⟨l, c, hl, hc, rfl, rfl⟩⟩
  · refine ⟨_, _, K_thrown (k := 1) (r := 0) (X1 := X) (X2 := mset X 43 0 46 1) ?_ ?_ (mset_same ..) (by decide), gJ_th _ h⟩
    · simp (disch := omega) only [L_give, X9_give, X9_give_J24, X9_cellOf_no1 hL h4 h1, if_pos m1_neg, zn_add, zn_mul, zn_addl, zn_ladd, zn_mull, zn_lmul, zn_le, zn_lt, zn_eq, zn_lel, zn_ltl, zn_eql, zn_lle, zn_llt, zn_leq, zn_sub, zn_subl, zn_m1, gl_eq, bind2_some, bind3_some, Option.bind_some, bz_0, bz_1, ib_0, ib_1, ib_bz, rd_nI, rd_l, if_pos, if_neg, if_true, if_false, ite_true, ite_false, eq_self, j00, j10, j20, j30, k00, k01, k02, k03, i20, i30, km0, i10, i01, im0, im1, i0m, i1m]
      try rfl
    · apply thr1 X
      by_cases hs : 0 ≤ a1 ∧ a1 ≤ 2
      · simp (disch := omega) only [X10_give, X10_in_eq, if_pos hs, X10_isCell_no1 h430 (by omega) h1, zn_add, zn_mul, zn_addl, zn_ladd, zn_mull, zn_lmul, zn_le, zn_lt, zn_eq, zn_lel, zn_ltl, zn_eql, zn_lle, zn_llt, zn_leq, zn_sub, zn_subl, zn_m1, gl_eq, bind2_some, bind3_some, Option.bind_some, bz_0, bz_1, ib_0, ib_1, ib_bz, rd_nI, rd_l, if_pos, if_neg, if_true, if_false, ite_true, ite_false, eq_self, j00, j10, j20, j30, k00, k01, k02, k03, i20, i30, km0, i10, i01, im0, im1, i0m, i1m]
      · simp (disch := omega) only [X10_give, X10_in_eq, if_neg hs, zn_add, zn_mul, zn_addl, zn_ladd, zn_mull, zn_lmul, zn_le, zn_lt, zn_eq, zn_lel, zn_ltl, zn_eql, zn_lle, zn_llt, zn_leq, zn_sub, zn_subl, zn_m1, gl_eq, bind2_some, bind3_some, Option.bind_some, bz_0, bz_1, ib_0, ib_1, ib_bz, rd_nI, rd_l, if_pos, if_neg, if_true, if_false, ite_true, ite_false, eq_self, j00, j10, j20, j30, k00, k01, k02, k03, i20, i30, km0, i10, i01, im0, im1, i0m, i1m]
  · have ha : gal NL 5 i = true := gal_al g1 hi
    refine ⟨_, _, K_thrown (k := 1) (r := 0) (X1 := X) (X2 := mset X 43 0 46 1) ?_ ?_ (mset_same ..) (by decide), gJ_th _ h⟩
    · simp (disch := omega) only [L_give, X9_give, X9_give_J24, X9_cellOf_no2 hL h4 hi ha f52 f53 h1, if_pos m1_neg, zn_add, zn_mul, zn_addl, zn_ladd, zn_mull, zn_lmul, zn_le, zn_lt, zn_eq, zn_lel, zn_ltl, zn_eql, zn_lle, zn_llt, zn_leq, zn_sub, zn_subl, zn_m1, gl_eq, bind2_some, bind3_some, Option.bind_some, bz_0, bz_1, ib_0, ib_1, ib_bz, rd_nI, rd_l, if_pos, if_neg, if_true, if_false, ite_true, ite_false, eq_self, j00, j10, j20, j30, k00, k01, k02, k03, i20, i30, km0, i10, i01, im0, im1, i0m, i1m]
      try rfl
    · apply thr1 X
      by_cases hs : 0 ≤ a1 ∧ a1 ≤ 2
      · simp (disch := omega) only [X10_give, X10_in_eq, if_pos hs, X10_isCell_eq h430 hL hi f45 f46 kl kw, if_neg h1, zn_add, zn_mul, zn_addl, zn_ladd, zn_mull, zn_lmul, zn_le, zn_lt, zn_eq, zn_lel, zn_ltl, zn_eql, zn_lle, zn_llt, zn_leq, zn_sub, zn_subl, zn_m1, gl_eq, bind2_some, bind3_some, Option.bind_some, bz_0, bz_1, ib_0, ib_1, ib_bz, rd_nI, rd_l, if_pos, if_neg, if_true, if_false, ite_true, ite_false, eq_self, j00, j10, j20, j30, k00, k01, k02, k03, i20, i30, km0, i10, i01, im0, im1, i0m, i1m]
      · simp (disch := omega) only [X10_give, X10_in_eq, if_neg hs, zn_add, zn_mul, zn_addl, zn_ladd, zn_mull, zn_lmul, zn_le, zn_lt, zn_eq, zn_lel, zn_ltl, zn_eql, zn_lle, zn_llt, zn_leq, zn_sub, zn_subl, zn_m1, gl_eq, bind2_some, bind3_some, Option.bind_some, bz_0, bz_1, ib_0, ib_1, ib_bz, rd_nI, rd_l, if_pos, if_neg, if_true, if_false, ite_true, ite_false, eq_self, j00, j10, j20, j30, k00, k01, k02, k03, i20, i30, km0, i10, i01, im0, im1, i0m, i1m]
  · have ha : gal NL 5 i = true := gal_al g1 hi
    have hlt := lw_lt hl hc
    have hle := lw_le kl kw
    have ha7 : gal NL 7 (32 * i + (l * w + c)) = true := gal7 g1 i ln w _ hi f45 f46 kl kw hlt
    have hcell : ir (nI l) ln ∧ ir (nI c) w := ⟨ir_nI (by omega) hl, ir_nI (by omega) hc⟩
    have hcO := X9_cellOf_yes (al := gal NL) (N := N) hL h4 hi ha f52 f53 kw kl f6 hl hc
    have hiC := X10_isCell_eq (al := al) (N := N) (q := nI l) (c := nI c) h430 hL hi f45 f46 kl kw
    rw [if_pos hcell] at hiC
    by_cases hs : 0 ≤ a1 ∧ a1 ≤ 2
    · by_cases h5 : 0 ≤ a5 ∧ a5 ≤ 25
      · by_cases h6 : 0 ≤ a6 ∧ a6 ≤ 9
        · obtain ⟨s, hs3, rfl⟩ := ir_ex (by omega) ((ir_3 _).mp hs)
          obtain ⟨q, hq, rfl⟩ : ∃ v, v < 26 ∧ a5 = nI v := ir_ex (by omega) ((ir_le a5 25 (by omega)).mp h5)
          obtain ⟨v, hv, rfl⟩ : ∃ v, v < 10 ∧ a6 = nI v := ir_ex (by omega) ((ir_le a6 9 (by omega)).mp h6)
          obtain ⟨r1, r2, r3, r4⟩ := g3 i ln w hi f45 f46 kl kw l c hl hc
          obtain ⟨lt, vt, hsF⟩ := sR_sF (r4 s hs3)
          obtain ⟨r, sl1, sl2⟩ := X0_slotFor_eq (al := gal NL) (N := N) (by omega) hs3 hq hsF
          have hWf := Wf_cnt (fun j hj => (hsF.1 j hj).1) hsF.2.1
          have hW27 := Wf_le (lt := lt) (fun j hj => (hsF.1 j hj).2.1)
          have hcz := cz_le vt
          generalize hA : 32 * i + (l * w + c) = A at *
          generalize hB : 32 * i + 8 * l + c = B at *
          have hB3 : B < 320 := by omega
          have hA3 : A < 320 := by omega
          have hbl : X0_isBlank (gal NL) N A X = some (if mU (X 56 0) (X 54 0) (X 55 0) B = 0 then 1 else 0, X) := by
            unfold X0_isBlank X0_isBlank_J12
            rw [r3]
            by_cases hz : mU (X 56 0) (X 54 0) (X 55 0) B = 0
            · rw [if_pos hz, if_pos hz]; rfl
            · rw [if_neg hz, if_neg hz]; rfl
          have hcA : X10_cellAt al N (nI i) (nI l) (nI c) = fun Y => some (nI B, Y) := by
            funext Y
            unfold X10_cellAt
            simp (disch := omega) only [zn_add, zn_mul, zn_addl, zn_ladd, zn_mull, zn_lmul, zn_le, zn_lt, zn_eq, zn_lel, zn_ltl, zn_eql, zn_lle, zn_llt, zn_leq, zn_sub, zn_subl, zn_m1, hB]
          have hclass : ∀ R, (bind2 (some (r, X)) fun r19 X20 => bind2 (X0_isBlank (gal NL) N A X20) fun r22 X23 => if r22 = (0 : Int32) then (if r19 = (-1 : Int32) then (X9_give_J83 (gal NL) N X23) else (bind2 (X0_put (gal NL) N A r19 (nI q) (nI v) X23) fun r27 X28 => bind2 (X0_countOf (gal NL) N A (nI s) X28) fun r30 X31 => some (0, r30, X31))) else (X9_give_J83 (gal NL) N X23)) = R → X9_give (gal NL) N (nI s) (nI i) (nI l) (nI c) (nI q) (nI v) X = R := fun R hR => by
            rw [← hR]
            simp (disch := omega) only [X9_give, hcO, if_neg (zn_nn (a := A) (by omega)), X9_isWithin_eq, if_pos hs, X9_isLetter_eq, if_pos h5, if_pos h6, dr_nI ha7 (by omega : A < 2147483648), sl1, bind2_some, ib_0, Option.bind_some, i10, if_false]
          have hmodel : ∀ Y : gM, X10_in al N (nI s) 0 2 Y = some (1, Y) → X10_isCell al N (nI i) (nI l) (nI c) Y = some (1, Y) → (∀ k, k < 26 → Y 57 0 (26 * (320 * s + B) + k) = nI (Wf lt vt k)) → (∀ j, Y 56 0 j = X 56 0 j) → (∀ j, Y 54 0 j = X 54 0 j) → (∀ j, Y 55 0 j = X 55 0 j) →
              ∃ Z, (∀ k p j, ¬ (k = 43 ∧ (j = 29 ∨ j = 30 ∨ j = 46)) → Z k p j = Y k p j) ∧ Z 43 0 46 = 0 ∧ X10_give al N (nI s) (nI i) (nI l) (nI c) (nI q) (nI v) Y =
                (if mU (X 56 0) (X 54 0) (X 55 0) B = 0 then X10_give_J169 al N (nI q) (nI v) (nI (26 * (320 * s + B))) (nI (cz vt)) (if Wf lt vt q ≤ 0 then 0 else 1) Z else
                 if Wf lt vt q ≤ 0 ∧ cz vt = 3 then X10_give_J169 al N (nI q) (nI v) (nI (26 * (320 * s + B))) (nI (cz vt)) (if Wf lt vt q ≤ 0 then 0 else 1) Z else
                 X10_give_J173 al N (nI q) (nI v) (nI (26 * (320 * s + B))) (nI (cz vt)) (if Wf lt vt q ≤ 0 then 0 else 1) Z) := by
            intro Y hin hic h57 h56 h54 h55
            obtain ⟨Z, z1, z2⟩ := X10_isBlankCell_eq (al := al) (N := N) (b := B) (X := mset Y 43 0 46 0) (by omega) hB3
            have e56 : (mset Y 43 0 46 0) 56 0 = X 56 0 := by funext j; simp [mset_at, h56]
            have e54 : (mset Y 43 0 46 0) 54 0 = X 54 0 := by funext j; simp [mset_at, h54]
            have e55 : (mset Y 43 0 46 0) 55 0 = X 55 0 := by funext j; simp [mset_at, h55]
            rw [e56, e54, e55] at z1
            have h57' : ∀ k, k < 26 → (mset Y 43 0 46 0) 57 0 (26 * (320 * s + B) + k) = nI (Wf lt vt k) := fun k hk => by
              rw [mset_at, if_neg (by omega)]; exact h57 k hk
            refine ⟨Z, fun k p j hk => ?_, ?_, ?_⟩
            · rw [z2 k p j (by omega), mset_at, if_neg (by omega)]
            · rw [z2 43 0 46 (by omega), mset_same]
            · have hloop := X10_give_loop (al := al) (N := N) (p5 := nI q) (p6 := nI v) (p7 := nI B) (X := mset Y 43 0 46 0) (n0 := 26 * (320 * s + B)) (w := Wf lt vt) (k128 := fun p5 p6 p7 p8 p9 Y => X10_give_J128 al N p5 p6 p7 p8 p9 Y) (by omega) (by omega) (fun k hk => ⟨hW27 k, h57' k hk⟩)
              rw [hWf] at hloop
              have h0 := h57' q hq
              have hW := hW27 q
              have eA : X10_give al N (nI s) (nI i) (nI l) (nI c) (nI q) (nI v) Y = X10_give_L92 al N (fun p5 p6 p7 p8 p9 Y => X10_give_J128 al N p5 p6 p7 p8 p9 Y) N (nI q) (nI v) (nI B) (nI (26 * (320 * s + B))) 0 0 (mset Y 43 0 46 0) := by
                simp (disch := omega) only [X10_give, hin, hic, X10_in_eq, if_pos h5, if_pos h6, X10_give_J52, mset_same, hcA, bind2_some, ib_0, gl_eq, i10, j00, if_false, if_true, zn_lmul, zn_add]
              rw [eA, hloop]
              simp (disch := omega) only [X10_give_J128, X10_give_J146, zn_add, rd_nI, Option.bind_some, h0, zn_lel, z1, bind2_some, ib_0, eq_self, if_true, i10, if_false]
              by_cases c1 : Wf lt vt q ≤ 0
              · rw [if_pos c1, if_pos c1]
                by_cases c2 : mU (X 56 0) (X 54 0) (X 55 0) B = 0
                · rw [if_pos c2, if_pos c2]
                · rw [if_neg c2, if_neg c2]
                  by_cases c3 : cz vt = 3
                  · simp (disch := omega) only [c3, zn_add, zn_mul, zn_addl, zn_ladd, zn_mull, zn_lmul, zn_le, zn_lt, zn_eq, zn_lel, zn_ltl, zn_eql, zn_lle, zn_llt, zn_leq, zn_sub, zn_subl, zn_m1, gl_eq, bind2_some, bind3_some, Option.bind_some, bz_0, bz_1, ib_0, ib_1, ib_bz, rd_nI, rd_l, if_pos, if_neg, if_true, if_false, ite_true, ite_false, eq_self, j00, j10, j20, j30, k00, k01, k02, k03, i20, i30, km0, i10, i01, im0, im1, i0m, i1m, c1, and_self]
                  · rw [if_neg (fun z => c3 ((zn_eql (by omega) (by decide)).mp z)), if_neg (fun z => c3 z.2)]
                    try rfl
              · rw [if_neg c1, if_neg c1]
                by_cases c2 : mU (X 56 0) (X 54 0) (X 55 0) B = 0
                · rw [if_pos c2, if_pos c2]
                · rw [if_neg c2, if_neg c2, if_neg (fun z => c1 z.1)]
                  try rfl
          have hbad : (mU (X 56 0) (X 54 0) (X 55 0) B = 0 ∨ r = -1) → (∃ (rr : Int32) (X' : gM), (bind2 (L_give (gal NL) N (nI s) (nI i) (nI l) (nI c) (nI q) (nI v) X) fun k1 X1 => bind2 (X10_give al N (nI s) (nI i) (nI l) (nI c) (nI q) (nI v) X1) fun k2 X2 => bind2 (X10_thrown al N X2) fun k3 X3 => if k3 = k1 then (if k1 = (0 : Int32) then (if X3 81 0 0 = k2 then some ((0 : Int32), X3) else none) else some ((0 : Int32), X3)) else none) = some (rr, X') ∧ gJ NL X') := by
            intro hb
            obtain ⟨Z, z1, z2, z3⟩ := hmodel X (by rw [X10_in_eq, if_pos hs]) hiC hsF.2.2 (fun _ => rfl) (fun _ => rfl) (fun _ => rfl)
            refine ⟨0, mset Z 43 0 46 3, K_thrown (k := 3) (r := 0) (X1 := X) ?_ ?_ (mset_same ..) (by decide), gJ_sm (fun k p j hsc => ?_) h⟩
            · have e : X9_give (gal NL) N (nI s) (nI i) (nI l) (nI c) (nI q) (nI v) X = some (3, 0, X) := by
                refine hclass _ ?_
                by_cases hz : mU (X 56 0) (X 54 0) (X 55 0) B = 0
                · simp (disch := omega) only [hbl, if_pos hz, bind2_some, i10, if_false, X9_give_J83]
                · have hr := hb.resolve_left hz
                  simp (disch := omega) only [hbl, if_neg hz, bind2_some, eq_self, if_true, hr, X9_give_J83]
              simp only [L_give, e, bind3_some]
              rfl
            · rw [z3]
              by_cases hz : mU (X 56 0) (X 54 0) (X 55 0) B = 0
              · rw [if_pos hz]
                simp only [X10_give_J169, X10_give_J174, gl_eq, mset_same, j30, if_false]
              · have hr := hb.resolve_left hz
                rw [if_neg hz]
                have hcond : Wf lt vt q ≤ 0 ∧ cz vt = 3 := by
                  rcases sl2 with ⟨j, q1, q2, q3, q4⟩ | ⟨q1, ⟨j, q2, q3, q4⟩ | ⟨q2, q3⟩⟩
                  · exact absurd (q4.symm.trans hr) (zn_ne1 (by omega))
                  · exact absurd (q4.symm.trans hr) (zn_ne1 (by omega))
                  · refine ⟨?_, cz_3.mpr q2⟩
                    have := Wf_pos (lt := lt) (vt := vt) q
                    apply Classical.byContradiction
                    intro hn
                    rcases this.mp (by omega) with z | z | z
                    · exact q1 0 (by omega) z.2 z.1
                    · exact q1 1 (by omega) z.2 z.1
                    · exact q1 2 (by omega) z.2 z.1
                rw [if_pos hcond]
                simp only [X10_give_J169, X10_give_J174, gl_eq, mset_same, j30, if_false]
            · have hk : ¬ (k = 43 ∧ (j = 29 ∨ j = 30 ∨ j = 46)) := by
                rintro ⟨rfl, rfl | rfl | rfl⟩ <;> simp [scr] at hsc
              rw [mset_at, if_neg (by omega), z1 k p j hk]
          by_cases hz : mU (X 56 0) (X 54 0) (X 55 0) B = 0
          · exact hbad (Or.inl hz)
          · by_cases hr : r = -1
            · exact hbad (Or.inr hr)
            · have hslot : ∃ j, j < 3 ∧ r = nI (3 * s + j) ∧ (Wf lt vt q ≤ 0 ↔ vt j = 0) ∧ (∀ i, i < 3 → i ≠ j → vt i ≠ 0 → lt i ≠ q) ∧ (lt j = q ∨ vt j = 0) ∧ ¬ (Wf lt vt q ≤ 0 ∧ cz vt = 3) := by
                have hWp := Wf_pos (lt := lt) (vt := vt) q
                rcases sl2 with ⟨j, q1, q2, q3, q4⟩ | ⟨q1, ⟨j, q2, q3, q4⟩ | ⟨q2, q3⟩⟩
                · have hpos : 0 < Wf lt vt q := by
                    rw [hWp]
                    have hj3 : j = 0 ∨ j = 1 ∨ j = 2 := by omega
                    rcases hj3 with rfl | rfl | rfl
                    · exact Or.inl ⟨q3, q2⟩
                    · exact Or.inr (Or.inl ⟨q3, q2⟩)
                    · exact Or.inr (Or.inr ⟨q3, q2⟩)
                  refine ⟨j, q1, q4, ⟨fun z => by omega, fun z => absurd z q2⟩, fun i' hi' hij hvi hli => ?_, Or.inl q3, fun z => by omega⟩
                  exact hsF.2.1 i' j hi' q1 hij hvi q2 (hli.trans q3.symm)
                · have hW0 : Wf lt vt q ≤ 0 := by
                    apply Classical.byContradiction
                    intro hn
                    rcases hWp.mp (by omega) with z | z | z
                    · exact q1 0 (by omega) z.2 z.1
                    · exact q1 1 (by omega) z.2 z.1
                    · exact q1 2 (by omega) z.2 z.1
                  exact ⟨j, q2, q4, ⟨fun _ => q3, fun _ => hW0⟩, fun i' hi' _ => q1 i' hi', Or.inr q3, fun z => cz_3.mp z.2 j q2 q3⟩
                · exact absurd q3 hr
              obtain ⟨j, hj, rfl, hhas, ho, hsl, hnc⟩ := hslot
              have hsl3 : 3 * s + j < 9 := by omega
              generalize hX1 : mset (mset X 9 A (3 * s + j) (nI q)) 10 A (3 * s + j) (nI v) = X1
              have x1 : ∀ k p j', ¬ ((k = 9 ∨ k = 10) ∧ p = A ∧ j' = 3 * s + j) → X1 k p j' = X k p j' := fun k p j' hk => by
                rw [← hX1]
                simp only [mset_at]
                rw [if_neg (by omega), if_neg (by omega)]
              have hcnt := X0_countOf_eq (al := gal NL) (N := N) (a := A) (s := s) (X := X1) (vt := updN vt j v) (by omega) hs3 (fun j' hj' => by
                by_cases hjj : j' = j
                · subst hjj
                  rw [updN_same, ← hX1]
                  exact ⟨by omega, by simp [mset_at]⟩
                · rw [updN_ne hjj, x1 10 A _ (by omega)]
                  exact ⟨(hsF.1 j' hj').2.1, (hsF.1 j' hj').2.2.2⟩)
              generalize hu : nI (cz (updN vt j v)) = u at hcnt
              have e1 : L_give (gal NL) N (nI s) (nI i) (nI l) (nI c) (nI q) (nI v) X = some (0, mset X1 81 0 0 u) := by
                have e : X9_give (gal NL) N (nI s) (nI i) (nI l) (nI c) (nI q) (nI v) X = some (0, u, X1) := by
                  refine hclass _ ?_
                  simp (disch := omega) only [hbl, if_neg hz, bind2_some, eq_self, if_true, if_neg hr, X0_put, rd_nI, Option.bind_some, gl_eq, hX1, hcnt]
                simp only [L_give, e, bind3_some, eq_self, if_true]
              obtain ⟨Z, z1, z2, z3⟩ := hmodel (mset X1 81 0 0 u) (by rw [X10_in_eq, if_pos hs]) (by
                have := X10_isCell_eq (al := al) (N := N) (X := mset X1 81 0 0 u) (q := nI l) (c := nI c) (by simp [mset_at, x1, h430]) hL hi (by simp [mset_at, x1, f45]) (by simp [mset_at, x1, f46]) kl kw
                rw [if_pos hcell] at this
                exact this) (fun k hk => by rw [mset_at, if_neg (by omega), x1 57 0 _ (by omega)]; exact hsF.2.2 k hk) (fun j' => by rw [mset_at, if_neg (by omega), x1 56 0 _ (by omega)]) (fun j' => by rw [mset_at, if_neg (by omega), x1 54 0 _ (by omega)]) (fun j' => by rw [mset_at, if_neg (by omega), x1 55 0 _ (by omega)])
              rw [if_neg hz, if_neg hnc] at z3
              generalize hZ2 : mset (mset Z 43 0 46 0) 57 0 (26 * (320 * s + B) + q) (nI v) = Z2
              have hup := cz_upd (vt := vt) (w := v) hj
              have hczv := cz_le (updN vt j v)
              have e2 : X10_give al N (nI s) (nI i) (nI l) (nI c) (nI q) (nI v) (mset X1 81 0 0 u) = some (u, Z2) := by
                rw [z3]
                unfold X10_give_J173 X10_give_J174
                simp (disch := omega) only [gl_eq, mset_same, j00, if_true, zn_add, rd_nI, Option.bind_some, hZ2, zn_lel]
                by_cases hv0 : v = 0
                · rw [if_pos hv0] at hup
                  rw [if_pos (by omega)]
                  unfold X10_give_J214 X10_give_J215 X10_give_J230 X10_give_J231
                  rw [hv0, if_pos (show nI 0 = (0 : Int32) from rfl)]
                  by_cases hh : Wf lt vt q ≤ 0
                  · rw [if_pos (hhas.mp hh)] at hup
                    rw [if_pos hh, if_pos rfl, Int32.add_zero, Int32.sub_zero, ← hu]
                    congr 3; omega
                  · rw [if_neg (fun z => hh (hhas.mpr z))] at hup
                    rw [if_neg hh, if_neg (by decide), Int32.add_zero, ← hu]
                    rw [zn_subl (k := 1) (show 1 ≤ cz vt by omega)]
                    congr 3; show cz vt - 1 = _; omega
                · rw [if_neg hv0] at hup
                  have hv0' : ¬ nI v = 0 := fun z => hv0 ((zn_eql (k := 0) (by omega) (by decide)).mp z)
                  rw [if_neg (by omega)]
                  unfold X10_give_J214 X10_give_J215 X10_give_J230 X10_give_J231
                  rw [if_neg hv0', if_neg hv0']
                  by_cases hh : Wf lt vt q ≤ 0
                  · rw [if_pos (hhas.mp hh)] at hup
                    rw [if_pos hh, if_pos rfl, zn_addl, Int32.sub_zero, ← hu]
                    congr 3; show cz vt + 1 = _; omega
                  · rw [if_neg (fun z => hh (hhas.mpr z))] at hup
                    rw [if_neg hh, if_neg (by decide), Int32.add_zero, Int32.sub_zero, ← hu]
                    congr 3; omega
              have hZ : ∀ k p j', ¬ (((k = 9 ∨ k = 10) ∧ p = A ∧ j' = 3 * s + j) ∨ k = 81 ∨ (k = 43 ∧ (j' = 29 ∨ j' = 30 ∨ j' = 46)) ∨ (k = 57 ∧ j' = 26 * (320 * s + B) + q)) → Z2 k p j' = X k p j' := fun k p j' hk => by
                rw [← hZ2]
                simp only [mset_at]
                rw [if_neg (by omega), if_neg (by omega), z1 k p j' (by omega), mset_at, if_neg (by omega), x1 k p j' (by omega)]
              refine ⟨0, Z2, K_ans e1 e2 ?_ ?_, ?_⟩
              · rw [← hZ2]; simp [mset_at]
              · rw [← hZ2, mset_at, if_neg (by omega), mset_at, if_neg (by omega), z1 81 0 0 (by omega)]; simp [mset_at]
              · refine ⟨L, F, D, W, K, jN_cg (fun k p j hd => hZ k p j (by simp only [djN, djL, djC, djZ, djH, djB, djF, djD, djW, djK, djI, djS, Bool.or_eq_true, Bool.and_eq_true, decide_eq_true_eq] at hd; omega)) g1, jL_cg (fun k p j hd => hZ k p j (by simp only [djN, djL, djC, djZ, djH, djB, djF, djD, djW, djK, djI, djS, Bool.or_eq_true, Bool.and_eq_true, decide_eq_true_eq] at hd; omega)) g2, ?_, ?_, jH_cg (fun k p j hd => hZ k p j (by simp only [djN, djL, djC, djZ, djH, djB, djF, djD, djW, djK, djI, djS, Bool.or_eq_true, Bool.and_eq_true, decide_eq_true_eq] at hd; omega)) g5, jB_cg (fun k p j hd => hZ k p j (by simp only [djN, djL, djC, djZ, djH, djB, djF, djD, djW, djK, djI, djS, Bool.or_eq_true, Bool.and_eq_true, decide_eq_true_eq] at hd; omega)) g6, jF_cg (fun k p j hd => hZ k p j (by simp only [djN, djL, djC, djZ, djH, djB, djF, djD, djW, djK, djI, djS, Bool.or_eq_true, Bool.and_eq_true, decide_eq_true_eq] at hd; omega)) g7, jD_cg (fun k p j hd => hZ k p j (by simp only [djN, djL, djC, djZ, djH, djB, djF, djD, djW, djK, djI, djS, Bool.or_eq_true, Bool.and_eq_true, decide_eq_true_eq] at hd; omega)) g8, jW_cg (fun k p j hd => hZ k p j (by simp only [djN, djL, djC, djZ, djH, djB, djF, djD, djW, djK, djI, djS, Bool.or_eq_true, Bool.and_eq_true, decide_eq_true_eq] at hd; omega)) g9, jK_cg (fun k p j hd => hZ k p j (by simp only [djN, djL, djC, djZ, djH, djB, djF, djD, djW, djK, djI, djS, Bool.or_eq_true, Bool.and_eq_true, decide_eq_true_eq] at hd; omega)) g10, jI_cg (fun k p j hd => hZ k p j (by simp only [djN, djL, djC, djZ, djH, djB, djF, djD, djW, djK, djI, djS, Bool.or_eq_true, Bool.and_eq_true, decide_eq_true_eq] at hd; omega)) g11, jS_cg (fun k p j hd => hZ k p j (by simp only [djN, djL, djC, djZ, djH, djB, djF, djD, djW, djK, djI, djS, Bool.or_eq_true, Bool.and_eq_true, decide_eq_true_eq] at hd; omega)) g12⟩
                · intro i' ln' w' hi' k45 k46 kl' kw' l' c' hl' hc'
                  have q45 : X 45 0 i' = nI ln' := by rw [← k45, hZ 45 0 i' (by omega)]
                  have q46 : X 46 0 i' = nI w' := by rw [← k46, hZ 46 0 i' (by omega)]
                  obtain ⟨u1, u2, u3, u4⟩ := g3 i' ln' w' hi' q45 q46 kl' kw' l' c' hl' hc'
                  have hlt' := lw_lt hl' hc'
                  have hle' := lw_le kl' kw'
                  have z54 : Z2 54 0 = X 54 0 := funext fun j => hZ 54 0 j (by omega)
                  have z55 : Z2 55 0 = X 55 0 := funext fun j => hZ 55 0 j (by omega)
                  have z56 : Z2 56 0 = X 56 0 := funext fun j => hZ 56 0 j (by omega)
                  refine ⟨fun k hk => ?_, ?_, ?_, fun s' hs' => ?_⟩
                  · rw [hZ 8 _ k (by omega), z56]; exact u1 k hk
                  · rw [hZ 7 _ 3 (by omega), z54, z55, z56]; exact u2
                  · rw [hZ 7 _ 4 (by omega), z54, z55, z56]; exact u3
                  · by_cases hsame : (i' = i ∧ l' = l ∧ c' = c) ∧ s' = s
                    · obtain ⟨⟨rfl, rfl, rfl⟩, rfl⟩ := hsame
                      have hw : w' = w := (zn_eq (by omega) (by omega)).mp (q46.symm.trans f46)
                      subst hw
                      rw [hA, hB]
                      refine sF_sR (lt := updN lt j q) (vt := updN vt j v) ⟨fun j' hj' => ?_, fun a b ha hb hab va vb => ?_, fun k hk => ?_⟩
                      · by_cases hjj : j' = j
                        · subst hjj
                          rw [updN_same, updN_same]
                          refine ⟨hq, by omega, ?_, ?_⟩
                          · rw [← hZ2]
                            simp only [mset_at]
                            rw [if_neg (by omega), if_neg (by omega), z1 9 A _ (by omega), mset_at, if_neg (by omega), ← hX1]
                            simp [mset_at]
                          · rw [← hZ2]
                            simp only [mset_at]
                            rw [if_neg (by omega), if_neg (by omega), z1 10 A _ (by omega), mset_at, if_neg (by omega), ← hX1]
                            simp [mset_at]
                        · rw [updN_ne hjj, updN_ne hjj, hZ 9 A _ (by omega), hZ 10 A _ (by omega)]
                          exact hsF.1 j' hj'
                      · by_cases haj : a = j
                        · subst haj
                          rw [updN_same, updN_ne (fun z => hab z.symm)]
                          rw [updN_ne (fun z => hab z.symm)] at vb
                          exact fun z => ho b hb (fun y => hab y.symm) vb z.symm
                        · rw [updN_ne haj] at va ⊢
                          by_cases hbj : b = j
                          · subst hbj
                            rw [updN_same]
                            exact ho a ha haj va
                          · rw [updN_ne hbj] at vb ⊢
                            exact hsF.2.1 a b ha hb hab va vb
                      · rw [Wf_upd hj ho hsl]
                        by_cases hkq : k = q
                        · subst hkq
                          rw [if_pos rfl, ← hZ2, mset_same]
                        · rw [if_neg hkq, hZ 57 0 _ (by omega)]
                          exact hsF.2.2 k hk
                    · obtain ⟨lt', vt', hF'⟩ := sR_sF (u4 s' hs')
                      refine sF_sR (sF_cg (fun j' hj' => ?_) (fun j' hj' => ?_) (fun k hk => ?_) hF')
                      · refine hZ 9 _ _ (fun z => hsame ?_)
                        rcases z with ⟨-, z1, z2⟩ | z | z | z
                        · refine ⟨?_, by omega⟩
                          have hii : i' = i := by omega
                          subst hii
                          have hw : w' = w := (zn_eq (by omega) (by omega)).mp (q46.symm.trans f46)
                          subst hw
                          have := lw_inj hc' hc (by omega : l' * w' + c' = l * w' + c)
                          exact ⟨rfl, this.1, this.2⟩
                        · omega
                        · omega
                        · omega
                      · refine hZ 10 _ _ (fun z => hsame ?_)
                        rcases z with ⟨-, z1, z2⟩ | z | z | z
                        · refine ⟨?_, by omega⟩
                          have hii : i' = i := by omega
                          subst hii
                          have hw : w' = w := (zn_eq (by omega) (by omega)).mp (q46.symm.trans f46)
                          subst hw
                          have := lw_inj hc' hc (by omega : l' * w' + c' = l * w' + c)
                          exact ⟨rfl, this.1, this.2⟩
                        · omega
                        · omega
                        · omega
                      · refine hZ 57 0 _ (fun z => hsame ?_)
                        rcases z with z | z | z | ⟨-, z⟩
                        · omega
                        · omega
                        · omega
                        · exact ⟨⟨by omega, by omega, by omega⟩, by omega⟩
                · intro i' hLi hi'
                  obtain ⟨u1, u2, u3, u4⟩ := g4 i' hLi hi'
                  refine ⟨fun c' hc' => ⟨fun k hk => (hZ 56 0 _ (by omega)).trans ((u1 c' hc').1 k hk), fun s' k hs' hk => (hZ 57 0 _ (by omega)).trans ((u1 c' hc').2 s' k hs' hk)⟩, fun k hk => (hZ 49 0 _ (by omega)).trans (u2 k hk), (hZ 50 0 _ (by omega)).trans u3, (hZ 51 0 _ (by omega)).trans u4⟩
        · refine ⟨_, _, K_thrown (k := 2) (r := 0) (X1 := X) (X2 := mset X 43 0 46 2) ?_ ?_ (mset_same ..) (by decide), gJ_th _ h⟩
          · simp (disch := omega) only [L_give, X9_give, X9_give_J51, hcO, if_neg (zn_nn (a := 32 * i + (l * w + c)) (by omega)), X9_isWithin_eq, if_pos hs, X9_isLetter_eq, if_pos h5, if_neg h6, zn_add, zn_mul, zn_addl, zn_ladd, zn_mull, zn_lmul, zn_le, zn_lt, zn_eq, zn_lel, zn_ltl, zn_eql, zn_lle, zn_llt, zn_leq, zn_sub, zn_subl, zn_m1, gl_eq, bind2_some, bind3_some, Option.bind_some, bz_0, bz_1, ib_0, ib_1, ib_bz, rd_nI, rd_l, if_pos, if_neg, if_true, if_false, ite_true, ite_false, eq_self, j00, j10, j20, j30, k00, k01, k02, k03, i20, i30, km0, i10, i01, im0, im1, i0m, i1m]
            try rfl
          · simp (disch := omega) only [X10_give, X10_give_J47, X10_give_J52, X10_in_eq, if_pos hs, hiC, if_pos h5, if_neg h6, mset_same, zn_add, zn_mul, zn_addl, zn_ladd, zn_mull, zn_lmul, zn_le, zn_lt, zn_eq, zn_lel, zn_ltl, zn_eql, zn_lle, zn_llt, zn_leq, zn_sub, zn_subl, zn_m1, gl_eq, bind2_some, bind3_some, Option.bind_some, bz_0, bz_1, ib_0, ib_1, ib_bz, rd_nI, rd_l, if_pos, if_neg, if_true, if_false, ite_true, ite_false, eq_self, j00, j10, j20, j30, k00, k01, k02, k03, i20, i30, km0, i10, i01, im0, im1, i0m, i1m]
            try rfl
      · refine ⟨_, _, K_thrown (k := 2) (r := 0) (X1 := X) (X2 := mset X 43 0 46 2) ?_ ?_ (mset_same ..) (by decide), gJ_th _ h⟩
        · simp (disch := omega) only [L_give, X9_give, X9_give_J51, hcO, if_neg (zn_nn (a := 32 * i + (l * w + c)) (by omega)), X9_isWithin_eq, if_pos hs, X9_isLetter_eq, if_neg h5, zn_add, zn_mul, zn_addl, zn_ladd, zn_mull, zn_lmul, zn_le, zn_lt, zn_eq, zn_lel, zn_ltl, zn_eql, zn_lle, zn_llt, zn_leq, zn_sub, zn_subl, zn_m1, gl_eq, bind2_some, bind3_some, Option.bind_some, bz_0, bz_1, ib_0, ib_1, ib_bz, rd_nI, rd_l, if_pos, if_neg, if_true, if_false, ite_true, ite_false, eq_self, j00, j10, j20, j30, k00, k01, k02, k03, i20, i30, km0, i10, i01, im0, im1, i0m, i1m]
          try rfl
        · simp (disch := omega) only [X10_give, X10_give_J47, X10_give_J52, X10_in_eq, if_pos hs, hiC, if_neg h5, mset_same, zn_add, zn_mul, zn_addl, zn_ladd, zn_mull, zn_lmul, zn_le, zn_lt, zn_eq, zn_lel, zn_ltl, zn_eql, zn_lle, zn_llt, zn_leq, zn_sub, zn_subl, zn_m1, gl_eq, bind2_some, bind3_some, Option.bind_some, bz_0, bz_1, ib_0, ib_1, ib_bz, rd_nI, rd_l, if_pos, if_neg, if_true, if_false, ite_true, ite_false, eq_self, j00, j10, j20, j30, k00, k01, k02, k03, i20, i30, km0, i10, i01, im0, im1, i0m, i1m]
          try rfl
    · refine ⟨_, _, K_thrown (k := 1) (r := 0) (X1 := X) (X2 := mset X 43 0 46 1) ?_ ?_ (mset_same ..) (by decide), gJ_th _ h⟩
      · simp (disch := omega) only [L_give, X9_give, X9_give_J24, hcO, if_neg (zn_nn (a := 32 * i + (l * w + c)) (by omega)), X9_isWithin_eq, if_neg hs, zn_add, zn_mul, zn_addl, zn_ladd, zn_mull, zn_lmul, zn_le, zn_lt, zn_eq, zn_lel, zn_ltl, zn_eql, zn_lle, zn_llt, zn_leq, zn_sub, zn_subl, zn_m1, gl_eq, bind2_some, bind3_some, Option.bind_some, bz_0, bz_1, ib_0, ib_1, ib_bz, rd_nI, rd_l, if_pos, if_neg, if_true, if_false, ite_true, ite_false, eq_self, j00, j10, j20, j30, k00, k01, k02, k03, i20, i30, km0, i10, i01, im0, im1, i0m, i1m]
        try rfl
      · apply thr1 X
        simp (disch := omega) only [X10_give, X10_in_eq, if_neg hs, zn_add, zn_mul, zn_addl, zn_ladd, zn_mull, zn_lmul, zn_le, zn_lt, zn_eq, zn_lel, zn_ltl, zn_eql, zn_lle, zn_llt, zn_leq, zn_sub, zn_subl, zn_m1, gl_eq, bind2_some, bind3_some, Option.bind_some, bz_0, bz_1, ib_0, ib_1, ib_bz, rd_nI, rd_l, if_pos, if_neg, if_true, if_false, ite_true, ite_false, eq_self, j00, j10, j20, j30, k00, k01, k02, k03, i20, i30, km0, i10, i01, im0, im1, i0m, i1m]
