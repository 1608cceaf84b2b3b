/-! hold -/
theorem lvs_mem {x : Nat → Int32} {b n i : Nat} : i ∈ lvs x b n ↔ i < n ∧ x i = nI b := by
  induction n with
  | zero => simp [lvs]
  | succ n ih =>
    unfold lvs
    rw [List.mem_append, ih]
    by_cases h : x n = nI b
    · rw [if_pos h, List.mem_singleton]
      constructor
      · rintro (⟨q1, q2⟩ | rfl)
        · exact ⟨by omega, q2⟩
        · exact ⟨by omega, h⟩
      · rintro ⟨q1, q2⟩
        by_cases hi : i = n
        · exact Or.inr hi
        · exact Or.inl ⟨by omega, q2⟩
    · rw [if_neg h]
      constructor
      · rintro (⟨q1, q2⟩ | q)
        · exact ⟨by omega, q2⟩
        · cases q
      · rintro ⟨q1, q2⟩
        refine Or.inl ⟨?_, q2⟩
        have : i ≠ n := fun e => h (e ▸ q2)
        omega
theorem ib_v (c : Prop) [Decidable c] : (if c then (0 : Int32) else 1) = 0 ∨ (if c then (0 : Int32) else 1) = 1 := by
  by_cases h : c
  · exact Or.inl (if_pos h)
  · exact Or.inr (if_neg h)
theorem case13 {NL : List (Nat × Nat)} {al : Nat → Nat → Bool} {N : Nat} {X : gM} (a1 a2 a3 a4 a5 a6 : Int32) (h : gJ NL X) : ∃ (rr : Int32) (X' : gM), K13 (gal NL) al N [] a1 a2 a3 a4 a5 a6 X = some (rr, X') ∧ gJ NL X' := by
  unfold K13
  rw [eqn_nil, Option.bind_some]
  obtain ⟨L, F, D, W, K, g1, g2, g3, g4, g5, g6, g7, g8, g9, g10, g11, g12⟩ := id h
  obtain ⟨hF, e1, e2, h22, hf⟩ := id g7
  have hp := ib_v (a2 = 0)
  generalize (if a2 = (0 : Int32) then (0 : Int32) else (1 : Int32)) = p2 at hp ⊢
  rcases ir_or a1 (n := F) (by omega) with ⟨f, hfF, rfl⟩ | hno
  · obtain ⟨k, a, o, b, hk, ha, hb, f44, f63, f64, f65, q3, qn3, f0, f1, f2, f3, f4, f5, f6, f66, f67⟩ := hf f hfF
    have hw : (0 : Int32) ≤ nI f ∧ nI f ≤ 11 := ⟨not_lt32.mp (zn_nn (by omega)), (zn_lel (k := 11) (by omega) (by decide)).mpr (show f ≤ 11 by omega)⟩
    have hwm : (0 : Int32) ≤ nI f ∧ nI f ≤ nI F - 1 := ⟨hw.1, (le_pred (by omega)).mpr ((zn_lt (by omega) (by omega)).mpr hfF)⟩
    have hal : gal NL 23 f = true := gal_al g1 hfF
    have halb : gal NL 12 b = true := gal_al g1 hb
    have hv : X 67 0 f = (if X 67 0 f = 0 then 0 else 1) := by
      rcases f67 with q | q
      · rw [q]; rfl
      · rw [q]; rfl
    have eA : L_hold (gal NL) N (nI f) p2 X = some (0, mset (fgt (mset X 23 f 6 p2) b) 81 0 0 (X 67 0 f)) := by
      simp (disch := omega) only [L_hold, X9_hold, X9_isWithin_eq, Int32.reduceSub, if_pos hw, h22, if_pos hfF, if_neg (zn_nn (a := f) (by omega)), dr_nI hal (by omega : f < 2147483648), bz_01 hp, f6, gl_eq, bind2_some, bind3_some, Option.bind_some, bz_0, bz_1, ib_0, ib_1, ib_bz, rd_nI, rd_l, if_pos, if_neg, if_true, if_false, ite_true, ite_false, eq_self, j00, j10, j20, j30, k00, k01, k02, k03, i20, i30, km0, i10, i01, im0, im1, i0m, i1m]
      have r1 : (mset X 23 f 6 p2) 23 f 1 = nI b := by simp [mset_at, mset_row, f1]
      simp (disch := omega) only [r1, dr_nI halb (by omega : b < 2147483648), X5_forget_eq, bz_01 f67, gl_eq, bind2_some, bind3_some, Option.bind_some, bz_0, bz_1, ib_0, ib_1, ib_bz, rd_nI, rd_l, if_pos, if_neg, if_true, if_false, ite_true, ite_false, eq_self, j00, j10, j20, j30, k00, k01, k02, k03, i20, i30, km0, i10, i01, im0, im1, i0m, i1m]
      rw [← hv]
    have eB : X10_hold al N (nI f) p2 (mset (fgt (mset X 23 f 6 p2) b) 81 0 0 (X 67 0 f)) = some (X 67 0 f, mset (mset (mset (fgt (mset X 23 f 6 p2) b) 81 0 0 (X 67 0 f)) 43 0 46 0) 67 0 f p2) := by
      have r0 : (mset (fgt (mset X 23 f 6 p2) b) 81 0 0 (X 67 0 f)) 43 0 23 = nI F := by simp [mset_at, mset_row, fgt, e1]
      have r1 : (mset (mset (fgt (mset X 23 f 6 p2) b) 81 0 0 (X 67 0 f)) 43 0 46 0) 67 0 f = X 67 0 f := by simp [mset_at, mset_row, fgt]
      simp (disch := omega) only [X10_hold, X10_hold_J20, X10_in_eq, r0, if_pos hwm, mset_same, r1, bz_01 hp, bz_01 f67, zn_add, zn_mul, zn_addl, zn_ladd, zn_mull, zn_lmul, zn_le, zn_lt, zn_eq, zn_lel, zn_ltl, zn_eql, zn_lle, zn_llt, zn_leq, zn_sub, zn_subl, zn_m1, gl_eq, bind2_some, bind3_some, Option.bind_some, bz_0, bz_1, ib_0, ib_1, ib_bz, rd_nI, rd_l, if_pos, if_neg, if_true, if_false, ite_true, ite_false, eq_self, j00, j10, j20, j30, k00, k01, k02, k03, i20, i30, km0, i10, i01, im0, im1, i0m, i1m]
      try rfl
    refine ⟨0, mset (mset (mset (fgt (mset X 23 f 6 p2) b) 81 0 0 (X 67 0 f)) 43 0 46 0) 67 0 f p2, ?_, ?_⟩
    · rw [eA, bind2_some, eB, bind2_some, thr_eq, bind2_some]
      rw [← hv]
      simp [mset_at, mset_row, fgt]
    · refine ⟨L, F, D, W, K, jN_cg (by repeat (first | exact (fun _ _ _ _ => rfl) | refine dset ?_ rfl)) g1, jL_cg (by repeat (first | exact (fun _ _ _ _ => rfl) | refine dset ?_ rfl)) g2, jC_cg (by repeat (first | exact (fun _ _ _ _ => rfl) | refine dset ?_ rfl)) g3, jZ_cg (by repeat (first | exact (fun _ _ _ _ => rfl) | refine dset ?_ rfl)) g4, jH_cg (by repeat (first | exact (fun _ _ _ _ => rfl) | refine dset ?_ rfl)) g5, ?_, ?_, jD_cg (by repeat (first | exact (fun _ _ _ _ => rfl) | refine dset ?_ rfl)) g8, jW_cg (by repeat (first | exact (fun _ _ _ _ => rfl) | refine dset ?_ rfl)) g9, jK_cg (by repeat (first | exact (fun _ _ _ _ => rfl) | refine dset ?_ rfl)) g10, jI_cg (by repeat (first | exact (fun _ _ _ _ => rfl) | refine dset ?_ rfl)) g11, ?_⟩
      · exact jB_cg (by repeat (first | exact (fun _ _ _ _ => rfl) | refine dset ?_ rfl)) g6
      · refine ⟨hF, by simp [mset_at, mset_row, fgt, e1], by simp [mset_at, mset_row, fgt, e2], fun j => by simpa [mset_at, mset_row, fgt] using h22 j, fun f' hf' => ?_⟩
        obtain ⟨k, a, o, b', hk, ha, hb, f44, f63, f64, f65, q3, qn3, f0, f1, f2, f3, f4, f5, f6, f66, f67⟩ := hf f' hf'
        refine ⟨k, a, o, b', hk, ha, hb, by simpa [mset_at, mset_row, fgt] using f44, by simpa [mset_at, mset_row, fgt] using f63, by simpa [mset_at, mset_row, fgt] using f64, by simpa [mset_at, mset_row, fgt] using f65, q3, fun q => ?_, by simpa [mset_at, mset_row, fgt] using f0, by simpa [mset_at, mset_row, fgt] using f1, by simpa [mset_at, mset_row, fgt] using f2, by simpa [mset_at, mset_row, fgt] using f3, by simpa [mset_at, mset_row, fgt] using f4, by simpa [mset_at, mset_row, fgt] using f5, ?_, by simpa [mset_at, mset_row, fgt] using f66, ?_⟩
        · obtain ⟨z1, z2, z3⟩ := qn3 q
          exact ⟨z1, z2, by simpa [mset_at, mset_row, fgt] using z3⟩
        · by_cases hff : f' = f
          · subst hff; simp [mset_at, mset_row, fgt]
          · simpa [mset_at, mset_row, fgt, hff] using f6
        · by_cases hff : f' = f
          · subst hff; simpa [mset_at, mset_row, fgt] using hp
          · simpa [mset_at, mset_row, fgt, hff] using f67
      · refine jS_up (b := b) (Nat.le_refl F) g12 (fun q j hq => ?_) ?_ ?_ ?_ ?_ ?_ ?_ (fun q hq hqb hsv => ?_)
        · have := fgt_14 (mset X 23 f 6 p2) b q j
          simp only [mset_at] at this ⊢
          simpa using this
        all_goals first | (funext i j; simp [mset_at, mset_row, fgt]; done) | skip
        have hcf : ∀ all, ¬ cts X F (lvs (X 44 0) (q / 3) L) all f := by
          rintro all ⟨-, -, -, x, hx, hx2⟩
          have hx3 := (lvs_mem.mp hx)
          rw [f64] at hx2
          have : a = x := (zn_eq (by have := g2.1; omega) (by have := g2.1; omega)).mp hx2
          subst this
          rw [f44] at hx3
          exact hqb ((zn_eq (by omega) (by omega)).mp hx3.2).symm
        refine svOK_cg ?_ ?_ ?_ ?_ ?_ ?_ ?_ ?_ ?_ ?_ hsv
        · simp [mset_at, mset_row, fgt]
        · simp [mset_at, mset_row, fgt]
        · intro i _; simp [mset_at, mset_row, fgt]
        · intro i _; simp [mset_at, mset_row, fgt]
        · intro all f'
          by_cases hff : f' = f
          · subst hff
            refine ⟨fun hc => absurd ?_ (hcf all), fun hc => absurd hc (hcf all)⟩
            obtain ⟨c1, c2, c3, x, c4, c5⟩ := hc
            have c5' : X 64 0 f' = nI x := by simpa [mset_at, mset_row, fgt] using c5
            have hx3 := (lvs_mem.mp c4)
            rw [f64] at c5'
            have : a = x := (zn_eq (by have := g2.1; omega) (by have := g2.1; omega)).mp c5'
            subst this
            rw [f44] at hx3
            exact absurd ((zn_eq (by omega) (by omega)).mp hx3.2).symm hqb
          · simp [cts, mset_at, fgt, hff]
        · intro all f' _; simp [mset_at, mset_row, fgt]
        · simp [mset_at, mset_row, fgt]
        · funext j; simp [mset_at, mset_row, fgt]
        · funext j; simp [mset_at, mset_row, fgt]
        · funext j; simp [mset_at, mset_row, fgt]
  · have hnm : ¬ ((0 : Int32) ≤ a1 ∧ a1 ≤ nI F - 1) := fun q => hno ⟨q.1, (le_pred (by omega)).mp q.2⟩
    refine ⟨0, mset X 43 0 46 1, ?_, gJ_th _ h⟩
    have eB : X10_hold al N a1 p2 X = some (0, mset X 43 0 46 1) := by
      simp (disch := omega) only [X10_hold, X10_hold_J20, X10_in_eq, e1, if_neg hnm, mset_same, zn_add, zn_mul, zn_addl, zn_ladd, zn_mull, zn_lmul, zn_le, zn_lt, zn_eq, zn_lel, zn_ltl, zn_eql, zn_lle, zn_llt, zn_leq, zn_sub, zn_subl, zn_m1, gl_eq, bind2_some, bind3_some, Option.bind_some, bz_0, bz_1, ib_0, ib_1, ib_bz, rd_nI, rd_l, if_pos, if_neg, if_true, if_false, ite_true, ite_false, eq_self, j00, j10, j20, j30, k00, k01, k02, k03, i20, i30, km0, i10, i01, im0, im1, i0m, i1m]
      try rfl
    have eA : L_hold (gal NL) N a1 p2 X = some (1, X) := by
      by_cases h12 : 0 ≤ a1 ∧ a1 ≤ 11
      · obtain ⟨f, hf12, rfl⟩ : ∃ f, f < 12 ∧ a1 = nI f := ir_ex (by omega) ((ir_le a1 11 (by omega)).mp h12)
        have hfF : ¬ f < F := fun q => hno (ir_nI (by omega) q)
        simp (disch := omega) only [L_hold, X9_hold, X9_isWithin_eq, Int32.reduceSub, if_pos h12, h22, if_neg hfF, if_pos m1_neg, gl_eq, bind2_some, bind3_some, Option.bind_some, bz_0, bz_1, ib_0, ib_1, ib_bz, rd_nI, rd_l, if_pos, if_neg, if_true, if_false, ite_true, ite_false, eq_self, j00, j10, j20, j30, k00, k01, k02, k03, i20, i30, km0, i10, i01, im0, im1, i0m, i1m]
        try rfl
      · simp (disch := omega) only [L_hold, X9_hold, X9_isWithin_eq, Int32.reduceSub, if_neg h12, gl_eq, bind2_some, bind3_some, Option.bind_some, bz_0, bz_1, ib_0, ib_1, ib_bz, rd_nI, rd_l, if_pos, if_neg, if_true, if_false, ite_true, ite_false, eq_self, j00, j10, j20, j30, k00, k01, k02, k03, i20, i30, km0, i10, i01, im0, im1, i0m, i1m]
        try rfl
    rw [eA, bind2_some, eB, bind2_some, thr_eq, bind2_some]
    simp [mset_at, mset_row]
