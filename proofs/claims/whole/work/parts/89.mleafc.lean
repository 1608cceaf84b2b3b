/-! the case leaf -/
theorem front_in (p : Int32) : (-1 ≤ p ∧ p ≤ 1) ↔ (p = 0 ∨ p = 1 ∨ p = -1) := by
  constructor
  · rintro ⟨h1, h2⟩
    have q1 := Int32.le_iff_toInt_le.mp h1
    have q2 := Int32.le_iff_toInt_le.mp h2
    have e1 : (-1 : Int32).toInt = -1 := rfl
    have e2 : (1 : Int32).toInt = 1 := rfl
    have e0 : (0 : Int32).toInt = 0 := rfl
    have : p.toInt = 0 ∨ p.toInt = 1 ∨ p.toInt = -1 := by omega
    rcases this with q | q | q
    · exact Or.inl (Int32.toInt_inj.mp (q.trans e0.symm))
    · exact Or.inr (Or.inl (Int32.toInt_inj.mp (q.trans e2.symm)))
    · exact Or.inr (Or.inr (Int32.toInt_inj.mp (q.trans e1.symm)))
  · rintro (rfl | rfl | rfl) <;> decide
theorem X2_init_eq {al : Nat → Nat → Bool} {N L ln w b : Nat} (hN : 1000 ≤ N) (hL : L < 10) (hb : b < 2) (hln : ln ≤ 4) (hw : w ≤ 8) {X : gM} :
    ∃ Y, X2_init al N L (nI L) b (nI ln) (nI w) X = some (0, Y) ∧ (∀ k p j, ¬ (((k = 7 ∨ k = 8 ∨ k = 9 ∨ k = 10 ∨ k = 85) ∧ 32 * L ≤ p ∧ p < 32 * L + 32) ∨ ((k = 5 ∨ k = 6 ∨ k = 84) ∧ p = L)) → Y k p j = X k p j) ∧
      (∀ j, Y 6 L j = if j < ln * w then nI (32 * L + j) else -1) ∧ (∀ c, c < ln * w → (∀ k, k < 3 → Y 8 (32 * L + c) k = -1) ∧ (∀ j, Y 9 (32 * L + c) j = 0) ∧ (∀ j, Y 10 (32 * L + c) j = 0) ∧ Y 7 (32 * L + c) 3 = -1 ∧ Y 7 (32 * L + c) 4 = -1) ∧
      Y 5 L 0 = nI L ∧ Y 5 L 1 = nI b ∧ Y 5 L 2 = nI ln ∧ Y 5 L 3 = nI w ∧ Y 5 L 7 = 0 ∧ Y 5 L 8 = 0 ∧ Y 5 L 9 = 0 ∧ Y 5 L 10 = 0 ∧ Y 5 L 11 = 0 ∧ Y 5 L 12 = 4095 := by
  generalize hR : mset (msl (mset (mset (mset (mset (mset (mset (mset (mset (mset (mset (mset (mset X 84 L 5 (-1)) 84 L 6 0) 84 L 7 0) 84 L 8 0) 84 L 9 0) 84 L 10 0) 84 L 11 0) 84 L 12 4095) 84 L 0 (nI L)) 84 L 1 (nI b)) 84 L 2 (nI ln)) 84 L 3 (nI w)) 6 L (fun _ => -1)) 84 L 4 (nI L) = R
  have r1 : ∀ k p j, ¬ ((k = 84 ∨ k = 6) ∧ p = L) → R k p j = X k p j := fun k p j hk => by
    rw [← hR]
    simp only [mset_at, msl_at]
    repeat rw [if_neg (by omega)]
  have r6 : ∀ j, R 6 L j = -1 := fun j => by
    rw [← hR]; simp [mset_at, msl_at]
  have hrk : rk_5 L (R 84 L) = some 0 := by
    have e : R 84 L 4 = nI L := by rw [← hR, mset_same]
    unfold rk_5
    rw [e, zn_tN (by omega), if_pos ⟨zn_nn (by omega), rfl⟩]
  obtain ⟨Y, y1, y2, y3, y4⟩ := X2_init_L_eq (al := al) (N := N) (L := L) (ln := ln) (w := w) hN hL (lw_le hln hw) (X := msl R 5 L (R 84 L)) (fun j => by rw [msl_at, if_neg (by omega), r6])
  have y5 : ∀ j, Y 5 L j = R 84 L j := fun j => by
    rw [y2 5 L j (by omega), msl_at, if_pos ⟨rfl, rfl⟩]
  refine ⟨Y, ?_, fun k p j hk => ?_, y3, y4, ?_⟩
  · unfold X2_init
    simp (disch := omega) only [gl_eq, rn_some, Option.bind_some, hR, hrk, y1]
  · rw [y2 k p j (by omega), msl_at, if_neg (by omega), r1 k p j (by omega)]
  · simp only [y5]
    rw [← hR]
    refine ⟨?_, ?_, ?_, ?_, ?_, ?_, ?_, ?_, ?_, ?_⟩ <;> simp [mset_at, msl_at]
theorem case0 {NL : List (Nat × Nat)} {al : Nat → Nat → Bool} {N : Nat} {X : gM} (hN : 1000000 ≤ N) (a1 a2 a3 a4 a5 a6 : Int32) (h : gJ NL X) : ∃ (nw : List (Nat × Nat)) (rr : Int32) (X' : gM), gFr NL nw ∧ K0 (gal NL) al N nw a1 a2 a3 a4 a5 a6 X = some (rr, X') ∧ gJ (NL ++ nw) X' := by
  unfold K0
  obtain ⟨L, F, D, W, K, g1, g2, g3, g4, g5, g6, g7, g8, g9, g10, g11, g12⟩ := id h
  obtain ⟨hL, h430, h002, h4, hlf⟩ := id g2
  obtain ⟨h11, hB⟩ := id g6
  have hfr0 : gFr NL [] := ⟨List.nodup_nil, fun n hn => by cases hn⟩
  have hthr : ∀ k : Int32, (k = 1 ∨ k = 2 ∨ k = 3) → L_leaf (gal NL) N [] a1 a2 a3 a4 a5 X = some (k, X) → (∃ X2, X10_leaf al N a1 a2 a3 a4 a5 X = some (0, X2) ∧ X2 43 0 46 = k ∧ gJ NL X2) → ∃ (nw : List (Nat × Nat)) (rr : Int32) (X' : gM), gFr NL nw ∧ (bind2 (L_leaf (gal NL) N nw a1 a2 a3 a4 a5 X) fun k1 X1 => bind2 (X10_leaf al N a1 a2 a3 a4 a5 X1) fun k2 X2 => bind2 (X10_thrown al N X2) fun k3 X3 => if k3 = k1 then (if k1 = (0 : Int32) then (if X3 81 0 0 = k2 then some ((0 : Int32), X3) else none) else some ((0 : Int32), X3)) else none) = some (rr, X') ∧ gJ (NL ++ nw) X' := by
    rintro k hk hA ⟨X2, hBB, ht, hj⟩
    refine ⟨[], 0, X2, hfr0, K_thrown hA hBB ht ?_, by rw [List.append_nil]; exact hj⟩
    rcases hk with rfl | rfl | rfl <;> decide
  have m60 : ∀ k : Int32, (k = 1 ∨ k = 2) → X10_leaf_J60 al N a1 a2 a3 a4 a5 k X = some (0, mset X 43 0 46 k) := fun k hk => by
    rcases hk with rfl | rfl
    · simp only [X10_leaf_J60, gl_eq, mset_same, j10, if_false]
    · simp only [X10_leaf_J60, gl_eq, mset_same, j20, if_false]
  rcases ir_or a1 (n := 2) (by omega) with ⟨b, hb, rfl⟩ | hno
  · obtain ⟨s, s1, s2, h53, h12, h122, hm6, hms, h13⟩ := hB b hb
    have hir : (0 : Int32) ≤ nI b ∧ nI b ≤ 1 := (ir_2 _).mpr (ir_nI (by omega) hb)
    have ha12 : gal NL 12 b = true := gal_al g1 hb
    have bad2 : (¬ (1 ≤ a2 ∧ a2 ≤ 4) ∨ ¬ (1 ≤ a3 ∧ a3 ≤ 8) ∨ ¬ (-1 ≤ a4 ∧ a4 ≤ 1) ∨ ¬ (0 ≤ a5 ∧ a5 ≤ 255)) → L_leaf (gal NL) N [] (nI b) a2 a3 a4 a5 X = some (2, X) ∧ X10_leaf al N (nI b) a2 a3 a4 a5 X = some (0, mset X 43 0 46 2) := by
      intro hbad
      by_cases c2 : 1 ≤ a2 ∧ a2 ≤ 4
      · by_cases c3 : 1 ≤ a3 ∧ a3 ≤ 8
        · by_cases c4 : -1 ≤ a4 ∧ a4 ≤ 1
          · have c5 : ¬ (0 ≤ a5 ∧ a5 ≤ 255) := by
              rcases hbad with q | q | q | q
              · exact absurd c2 q
              · exact absurd c3 q
              · exact absurd c4 q
              · exact q
            constructor
            · have e : X9_leaf_J72 (gal NL) N [] a2 a3 a4 a5 (nI b) X = some (2, 0, X) := by
                simp (disch := omega) only [X9_leaf_J72, X9_isWithin_eq, if_neg c5, gl_eq, bind2_some, bind3_some, Option.bind_some, bz_0, bz_1, ib_0, ib_1, ib_bz, rd_nI, rd_l, if_pos, if_neg, if_true, if_false, ite_true, ite_false, eq_self, j00, j10, j20, j30, k00, k01, k02, k03, i20, i30, km0, i10, i01, im0, im1, i0m, i1m]
              rcases (front_in a4).mp c4 with q | q | q
              · simp (disch := omega) only [L_leaf, X9_leaf, X9_quireOf_yes h11 hb, if_neg (zn_nn (a := b) (by omega)), X9_isWithin_eq, if_pos c2, if_pos c3, q, eq_self, if_true, e, eqn_nil, gl_eq, bind2_some, bind3_some, Option.bind_some, bz_0, bz_1, ib_0, ib_1, ib_bz, rd_nI, rd_l, if_pos, if_neg, if_true, if_false, ite_true, ite_false, eq_self, j00, j10, j20, j30, k00, k01, k02, k03, i20, i30, km0, i10, i01, im0, im1, i0m, i1m]
                rw [q] at e
                rw [e]; rfl
              · simp (disch := omega) only [L_leaf, X9_leaf, X9_quireOf_yes h11 hb, if_neg (zn_nn (a := b) (by omega)), X9_isWithin_eq, if_pos c2, if_pos c3, q, eq_self, if_true, i10, if_false, e, eqn_nil, gl_eq, bind2_some, bind3_some, Option.bind_some, bz_0, bz_1, ib_0, ib_1, ib_bz, rd_nI, rd_l, if_pos, if_neg, if_true, if_false, ite_true, ite_false, eq_self, j00, j10, j20, j30, k00, k01, k02, k03, i20, i30, km0, i10, i01, im0, im1, i0m, i1m]
                rw [q] at e
                rw [e]; rfl
              · simp (disch := omega) only [L_leaf, X9_leaf, X9_quireOf_yes h11 hb, if_neg (zn_nn (a := b) (by omega)), X9_isWithin_eq, if_pos c2, if_pos c3, q, eq_self, if_true, im0, im1, if_false, e, eqn_nil, gl_eq, bind2_some, bind3_some, Option.bind_some, bz_0, bz_1, ib_0, ib_1, ib_bz, rd_nI, rd_l, if_pos, if_neg, if_true, if_false, ite_true, ite_false, eq_self, j00, j10, j20, j30, k00, k01, k02, k03, i20, i30, km0, i10, i01, im0, im1, i0m, i1m]
                rw [q] at e
                rw [e]; rfl
            · simp (disch := omega) only [X10_leaf, X10_in_eq, if_pos hir, if_pos c2, if_pos c3, if_pos c4, if_neg c5, X10_leaf_J55, m60 2 (Or.inr rfl), gl_eq, bind2_some, bind3_some, Option.bind_some, bz_0, bz_1, ib_0, ib_1, ib_bz, rd_nI, rd_l, if_pos, if_neg, if_true, if_false, ite_true, ite_false, eq_self, j00, j10, j20, j30, k00, k01, k02, k03, i20, i30, km0, i10, i01, im0, im1, i0m, i1m]
          · constructor
            · have q1 : ¬ a4 = 0 := fun z => c4 ((front_in a4).mpr (Or.inl z))
              have q2 : ¬ a4 = 1 := fun z => c4 ((front_in a4).mpr (Or.inr (Or.inl z)))
              have q3 : ¬ a4 = -1 := fun z => c4 ((front_in a4).mpr (Or.inr (Or.inr z)))
              simp (disch := omega) only [L_leaf, X9_leaf, X9_quireOf_yes h11 hb, if_neg (zn_nn (a := b) (by omega)), X9_isWithin_eq, if_pos c2, if_pos c3, if_neg q1, if_neg q2, if_neg q3, eqn_nil, gl_eq, bind2_some, bind3_some, Option.bind_some, bz_0, bz_1, ib_0, ib_1, ib_bz, rd_nI, rd_l, if_pos, if_neg, if_true, if_false, ite_true, ite_false, eq_self, j00, j10, j20, j30, k00, k01, k02, k03, i20, i30, km0, i10, i01, im0, im1, i0m, i1m]
              try rfl
            · simp (disch := omega) only [X10_leaf, X10_in_eq, if_pos hir, if_pos c2, if_pos c3, if_neg c4, X10_leaf_J55, m60 2 (Or.inr rfl), gl_eq, bind2_some, bind3_some, Option.bind_some, bz_0, bz_1, ib_0, ib_1, ib_bz, rd_nI, rd_l, if_pos, if_neg, if_true, if_false, ite_true, ite_false, eq_self, j00, j10, j20, j30, k00, k01, k02, k03, i20, i30, km0, i10, i01, im0, im1, i0m, i1m]
        · constructor
          · simp (disch := omega) only [L_leaf, X9_leaf, X9_leaf_J39, X9_quireOf_yes h11 hb, if_neg (zn_nn (a := b) (by omega)), X9_isWithin_eq, if_pos c2, if_neg c3, eqn_nil, gl_eq, bind2_some, bind3_some, Option.bind_some, bz_0, bz_1, ib_0, ib_1, ib_bz, rd_nI, rd_l, if_pos, if_neg, if_true, if_false, ite_true, ite_false, eq_self, j00, j10, j20, j30, k00, k01, k02, k03, i20, i30, km0, i10, i01, im0, im1, i0m, i1m]
            try rfl
          · simp (disch := omega) only [X10_leaf, X10_in_eq, if_pos hir, if_pos c2, if_neg c3, X10_leaf_J55, m60 2 (Or.inr rfl), gl_eq, bind2_some, bind3_some, Option.bind_some, bz_0, bz_1, ib_0, ib_1, ib_bz, rd_nI, rd_l, if_pos, if_neg, if_true, if_false, ite_true, ite_false, eq_self, j00, j10, j20, j30, k00, k01, k02, k03, i20, i30, km0, i10, i01, im0, im1, i0m, i1m]
      · constructor
        · simp (disch := omega) only [L_leaf, X9_leaf, X9_leaf_J39, X9_quireOf_yes h11 hb, if_neg (zn_nn (a := b) (by omega)), X9_isWithin_eq, if_neg c2, eqn_nil, gl_eq, bind2_some, bind3_some, Option.bind_some, bz_0, bz_1, ib_0, ib_1, ib_bz, rd_nI, rd_l, if_pos, if_neg, if_true, if_false, ite_true, ite_false, eq_self, j00, j10, j20, j30, k00, k01, k02, k03, i20, i30, km0, i10, i01, im0, im1, i0m, i1m]
          try rfl
        · simp (disch := omega) only [X10_leaf, X10_in_eq, if_pos hir, if_neg c2, X10_leaf_J55, m60 2 (Or.inr rfl), gl_eq, bind2_some, bind3_some, Option.bind_some, bz_0, bz_1, ib_0, ib_1, ib_bz, rd_nI, rd_l, if_pos, if_neg, if_true, if_false, ite_true, ite_false, eq_self, j00, j10, j20, j30, k00, k01, k02, k03, i20, i30, km0, i10, i01, im0, im1, i0m, i1m]
    by_cases c2 : 1 ≤ a2 ∧ a2 ≤ 4
    · by_cases c3 : 1 ≤ a3 ∧ a3 ≤ 8
      · by_cases c4 : -1 ≤ a4 ∧ a4 ≤ 1
        · by_cases c5 : 0 ≤ a5 ∧ a5 ≤ 255
          · have hJ72 : ∀ nw, X9_leaf (gal NL) N nw (nI b) a2 a3 a4 a5 X = X9_leaf_J72 (gal NL) N nw a2 a3 a4 a5 (nI b) X := fun nw => by
              rcases (front_in a4).mp c4 with q | q | q
              · simp (disch := omega) only [X9_leaf, X9_quireOf_yes h11 hb, if_neg (zn_nn (a := b) (by omega)), X9_isWithin_eq, if_pos c2, if_pos c3, q, eq_self, if_true, gl_eq, bind2_some, bind3_some, Option.bind_some, bz_0, bz_1, ib_0, ib_1, ib_bz, rd_nI, rd_l, if_pos, if_neg, if_true, if_false, ite_true, ite_false, eq_self, j00, j10, j20, j30, k00, k01, k02, k03, i20, i30, km0, i10, i01, im0, im1, i0m, i1m]
              · simp (disch := omega) only [X9_leaf, X9_quireOf_yes h11 hb, if_neg (zn_nn (a := b) (by omega)), X9_isWithin_eq, if_pos c2, if_pos c3, q, eq_self, if_true, i10, if_false, gl_eq, bind2_some, bind3_some, Option.bind_some, bz_0, bz_1, ib_0, ib_1, ib_bz, rd_nI, rd_l, if_pos, if_neg, if_true, if_false, ite_true, ite_false, eq_self, j00, j10, j20, j30, k00, k01, k02, k03, i20, i30, km0, i10, i01, im0, im1, i0m, i1m]
              · simp (disch := omega) only [X9_leaf, X9_quireOf_yes h11 hb, if_neg (zn_nn (a := b) (by omega)), X9_isWithin_eq, if_pos c2, if_pos c3, q, eq_self, if_true, im0, im1, if_false, gl_eq, bind2_some, bind3_some, Option.bind_some, bz_0, bz_1, ib_0, ib_1, ib_bz, rd_nI, rd_l, if_pos, if_neg, if_true, if_false, ite_true, ite_false, eq_self, j00, j10, j20, j30, k00, k01, k02, k03, i20, i30, km0, i10, i01, im0, im1, i0m, i1m]
            have hM60 : ∀ Y, X10_leaf al N (nI b) a2 a3 a4 a5 Y = X10_leaf_J60 al N (nI b) a2 a3 a4 a5 0 Y := fun Y => by
              simp (disch := omega) only [X10_leaf, X10_in_eq, if_pos hir, if_pos c2, if_pos c3, if_pos c4, if_pos c5, gl_eq, bind2_some, bind3_some, Option.bind_some, bz_0, bz_1, ib_0, ib_1, ib_bz, rd_nI, rd_l, if_pos, if_neg, if_true, if_false, ite_true, ite_false, eq_self, j00, j10, j20, j30, k00, k01, k02, k03, i20, i30, km0, i10, i01, im0, im1, i0m, i1m]
            have hroom : X5_hasRoom (gal NL) N b X = some (if (lvs (X 44 0) b L).length < 6 ∧ (lvs (X 44 0) b L).length < 2 * s then 1 else 0, X) := by
              unfold X5_hasRoom X5_hasRoom_J29 X5_hasRoom_J30
              rw [h122, h12]
              by_cases q1 : (lvs (X 44 0) b L).length < 6
              · by_cases q2 : (lvs (X 44 0) b L).length < 2 * s
                · simp (disch := omega) only [zn_add, zn_mul, zn_addl, zn_ladd, zn_mull, zn_lmul, zn_le, zn_lt, zn_eq, zn_lel, zn_ltl, zn_eql, zn_lle, zn_llt, zn_leq, zn_sub, zn_subl, zn_m1, gl_eq, bind2_some, bind3_some, Option.bind_some, bz_0, bz_1, ib_0, ib_1, ib_bz, rd_nI, rd_l, if_pos, if_neg, if_true, if_false, ite_true, ite_false, eq_self, j00, j10, j20, j30, k00, k01, k02, k03, i20, i30, km0, i10, i01, im0, im1, i0m, i1m, if_pos (⟨q1, q2⟩ : (lvs (X 44 0) b L).length < 6 ∧ (lvs (X 44 0) b L).length < 2 * s)]
                · simp (disch := omega) only [zn_add, zn_mul, zn_addl, zn_ladd, zn_mull, zn_lmul, zn_le, zn_lt, zn_eq, zn_lel, zn_ltl, zn_eql, zn_lle, zn_llt, zn_leq, zn_sub, zn_subl, zn_m1, gl_eq, bind2_some, bind3_some, Option.bind_some, bz_0, bz_1, ib_0, ib_1, ib_bz, rd_nI, rd_l, if_pos, if_neg, if_true, if_false, ite_true, ite_false, eq_self, j00, j10, j20, j30, k00, k01, k02, k03, i20, i30, km0, i10, i01, im0, im1, i0m, i1m, if_neg (fun z => q2 z.2 : ¬ ((lvs (X 44 0) b L).length < 6 ∧ (lvs (X 44 0) b L).length < 2 * s))]
              · simp (disch := omega) only [zn_add, zn_mul, zn_addl, zn_ladd, zn_mull, zn_lmul, zn_le, zn_lt, zn_eq, zn_lel, zn_ltl, zn_eql, zn_lle, zn_llt, zn_leq, zn_sub, zn_subl, zn_m1, gl_eq, bind2_some, bind3_some, Option.bind_some, bz_0, bz_1, ib_0, ib_1, ib_bz, rd_nI, rd_l, if_pos, if_neg, if_true, if_false, ite_true, ite_false, eq_self, j00, j10, j20, j30, k00, k01, k02, k03, i20, i30, km0, i10, i01, im0, im1, i0m, i1m, if_neg (fun z => q1 z.1 : ¬ ((lvs (X 44 0) b L).length < 6 ∧ (lvs (X 44 0) b L).length < 2 * s))]
            by_cases hok : L < 10 ∧ (lvs (X 44 0) b L).length < 6 ∧ (lvs (X 44 0) b L).length < 2 * s
            · sorry
            · refine hthr 3 (by decide) ?_ ⟨mset (mset X 43 0 46 0) 43 0 46 3, ?_, mset_same .., gJ_th _ (gJ_th _ h)⟩
              · by_cases hL10 : L < 10
                · have hok2 : ¬ ((lvs (X 44 0) b L).length < 6 ∧ (lvs (X 44 0) b L).length < 2 * s) := fun z => hok ⟨hL10, z⟩
                  simp (disch := omega) only [L_leaf, hJ72, X9_leaf_J72, X9_leaf_J109, X9_isWithin_eq, if_pos c5, h002, zn_lle, if_neg, dr_nI ha12 (by omega : b < 2147483648), hroom, if_neg hok2, eqn_nil, gl_eq, bind2_some, bind3_some, Option.bind_some, ib_0, i10, if_false, if_true, eq_self]
                  try rfl
                · simp (disch := omega) only [L_leaf, hJ72, X9_leaf_J72, X9_leaf_J109, X9_isWithin_eq, if_pos c5, h002, zn_lle, if_pos, eqn_nil, gl_eq, bind2_some, bind3_some, Option.bind_some, ib_0, i10, if_false, eq_self]
                  try rfl
              · have hlv := X10_leavesOf_eq (al := al) (N := N) (L := L) (b := b) (X := mset X 43 0 46 0) (by rw [mset_at, if_neg (by omega), h430]) hL (by omega)
                have e44 : (mset X 43 0 46 0) 44 0 = X 44 0 := by funext j; simp [mset_at]
                rw [e44] at hlv
                have r0 : (mset X 43 0 46 0) 43 0 0 = nI L := by rw [mset_at, if_neg (by omega), h430]
                have r53 : (mset X 43 0 46 0) 53 0 b = nI s := by rw [mset_at, if_neg (by omega), h53]
                rw [hM60]
                have m3 : ∀ Y, X10_leaf_J114 al N (nI b) a2 a3 a4 a5 3 Y = some (0, mset Y 43 0 46 3) := fun Y => by
                  simp only [X10_leaf_J114, gl_eq, mset_same, j30, if_false]
                simp (disch := omega) only [X10_leaf_J60, mset_same, gl_eq, j00, if_true, hlv, bind2_some, r0, X10_leaf_J109, m3, rd_nI, Option.bind_some, r53, zn_lmul, zn_eql, zn_eq]
                by_cases q1 : L = 10
                · rw [if_pos q1]
                · rw [if_neg q1]
                  by_cases q2 : (lvs (X 44 0) b L).length = 6
                  · rw [if_pos q2]
                  · rw [if_neg q2, if_pos]
                    apply Classical.byContradiction
                    intro q3
                    exact hok ⟨by omega, by omega, by omega⟩
          · obtain ⟨eA, eB⟩ := bad2 (Or.inr (Or.inr (Or.inr c5)))
            exact hthr 2 (by decide) eA ⟨_, eB, mset_same .., gJ_th _ h⟩
        · obtain ⟨eA, eB⟩ := bad2 (Or.inr (Or.inr (Or.inl c4)))
          exact hthr 2 (by decide) eA ⟨_, eB, mset_same .., gJ_th _ h⟩
      · obtain ⟨eA, eB⟩ := bad2 (Or.inr (Or.inl c3))
        exact hthr 2 (by decide) eA ⟨_, eB, mset_same .., gJ_th _ h⟩
    · obtain ⟨eA, eB⟩ := bad2 (Or.inl c2)
      exact hthr 2 (by decide) eA ⟨_, eB, mset_same .., gJ_th _ h⟩
  · refine hthr 1 (by decide) ?_ ⟨mset X 43 0 46 1, ?_, mset_same .., gJ_th _ h⟩
    · simp (disch := omega) only [L_leaf, X9_leaf, X9_quireOf_no hno, eqn_nil, gl_eq, bind2_some, bind3_some, Option.bind_some, bz_0, bz_1, ib_0, ib_1, ib_bz, rd_nI, rd_l, if_pos, if_neg, if_true, if_false, ite_true, ite_false, eq_self, j00, j10, j20, j30, k00, k01, k02, k03, i20, i30, km0, i10, i01, im0, im1, i0m, i1m]
      try rfl
    · simp (disch := omega) only [X10_leaf, X10_in_eq, if_neg (fun q => hno ((ir_2 _).mp q)), m60 1 (Or.inl rfl), gl_eq, bind2_some, bind3_some, Option.bind_some, bz_0, bz_1, ib_0, ib_1, ib_bz, rd_nI, rd_l, if_pos, if_neg, if_true, if_false, ite_true, ite_false, eq_self, j00, j10, j20, j30, k00, k01, k02, k03, i20, i30, km0, i10, i01, im0, im1, i0m, i1m]
