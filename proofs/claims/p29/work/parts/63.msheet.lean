/-! sheets -/
theorem ir_2 (p : Int32) : (0 ≤ p ∧ p ≤ 1) ↔ ir p 2 := by
  have := lt_succ32 p 1 (by omega)
  rw [this]
theorem X9_quireOf_no {al : Nat → Nat → Bool} {N : Nat} {p : Int32} {X : gM} (hp : ¬ ir p 2) : X9_quireOf al N p X = some (-1, X) := by
  unfold X9_quireOf X9_quireOf_J27 X9_quireOf_J28
  by_cases h1 : p < 0
  · rw [if_pos h1]
  · rw [if_neg h1]
    by_cases h2 : 2 ≤ p
    · rw [if_pos h2]
    · exact absurd ⟨Int32.not_lt.mp h1, Int32.not_le.mp h2⟩ hp
theorem X9_quireOf_yes {al : Nat → Nat → Bool} {N b : Nat} {X : gM} (h : ∀ j, X 11 0 j = if j < 2 then nI j else -1) (hb : b < 2) : X9_quireOf al N (nI b) X = some (nI b, X) := by
  unfold X9_quireOf X9_quireOf_J27 X9_quireOf_J28
  simp (disch := omega) only [zn_add, zn_mul, zn_addl, zn_ladd, zn_mull, zn_lmul, zn_le, zn_lt, zn_eq, zn_lel, zn_ltl, zn_eql, zn_lle, zn_llt, zn_leq, zn_sub, zn_subl, zn_m1, gl_eq, bind2_some, bind3_some, Option.bind_some, bz_0, bz_1, ib_0, ib_1, ib_bz, rd_nI, rd_l, if_pos, if_neg, if_true, if_false, ite_true, ite_false, eq_self, j00, j10, j20, j30, k00, k01, k02, k03, i20, i30, km0, i10, i01, im0, im1, i0m, i1m, h]
abbrev fgt (X : gM) (b : Nat) : gM := mset (mset (mset X 14 (3 * b) 2 0) 14 (3 * b + 1) 2 0) 14 (3 * b + 2) 2 0
theorem X5_forget_eq (al : Nat → Nat → Bool) (N b : Nat) (X : gM) : X5_forget al N b X = some (0, fgt X b) := rfl
theorem fgt_14 (X : gM) (b s j : Nat) : fgt X b 14 s j = if j = 2 ∧ s / 3 = b then 0 else X 14 s j := by
  simp only [fgt, mset_at, true_and]
  by_cases hj : j = 2
  · subst hj
    by_cases h : s / 3 = b
    · have h3 : s = 3 * b ∨ s = 3 * b + 1 ∨ s = 3 * b + 2 := by omega
      have e : (if (2 = 2 ∧ s / 3 = b) then (0 : Int32) else X 14 s 2) = 0 := if_pos ⟨rfl, h⟩
      rw [e]
      rcases h3 with h3 | h3 | h3
      · rw [if_neg (by omega), if_neg (by omega), if_pos (by omega)]
      · rw [if_neg (by omega), if_pos (by omega)]
      · rw [if_pos (by omega)]
    · rw [if_neg (by omega), if_neg (by omega), if_neg (by omega), if_neg (by omega)]
  · rw [if_neg (by omega), if_neg (by omega), if_neg (by omega), if_neg (by omega)]
theorem jS_up {L L' F F' b : Nat} {X Y : gM} (hFF : F ≤ F') (g : jS L F X) (h14 : ∀ s j, s < 6 → Y 14 s j = if j = 2 ∧ s / 3 = b then 0 else X 14 s j)
    (h15 : Y 15 = X 15) (h16 : Y 16 = X 16) (h17 : Y 17 = X 17) (h18 : Y 18 = X 18) (h19 : Y 19 = X 19) (h21 : Y 21 = X 21)
    (hsv : ∀ s, s < 6 → s / 3 ≠ b → svOK L F X s → svOK L' F' Y s) : jS L' F' Y := by
  intro s hs
  obtain ⟨q1, q2, q3, q4, q5, q6, q7⟩ := g s hs
  rw [h14 s _ hs, h14 s _ hs, h14 s _ hs, h14 s _ hs, h18, h19, h21]
  refine ⟨by simpa using q1, by simpa using q2, by simpa using q3, q4, fun j => ?_, q6, ?_⟩
  · rcases q5 j with h | ⟨f, hf, h⟩
    · exact Or.inl h
    · exact Or.inr ⟨f, by omega, h⟩
  · by_cases hb : s / 3 = b
    · exact Or.inl (if_pos ⟨rfl, hb⟩)
    · rw [if_neg (fun h => hb h.2)]
      rcases q7 with h | h
      · exact Or.inl h
      · exact Or.inr (hsv s hs hb h)
theorem gal_al {NL : List (Nat × Nat)} {L F W K k i : Nat} {X : gM} (g : jN NL L F W K X) (h : avl L F W K X k i) : gal NL k i = true := decide_eq_true ((g k i).mpr h)
theorem case1 {NL : List (Nat × Nat)} {al : Nat → Nat → Bool} {N : Nat} {X : gM} (hN : 1000000 ≤ N) (a1 a2 a3 a4 a5 a6 : Int32) (h : gJ NL X) : ∃ (rr : Int32) (X' : gM), K1 (gal NL) al N [] a1 a2 a3 a4 a5 a6 X = some (rr, X') ∧ gJ NL X' := by
  unfold K1
  rw [eqn_nil, Option.bind_some]
  obtain ⟨L, F, D, W, K, g1, g2, g3, g4, g5, g6, g7, g8, g9, g10, g11, g12⟩ := id h
  obtain ⟨h11, hB⟩ := id g6
  obtain ⟨hL, h430, -⟩ := id g2
  rcases ir_or a1 (n := 2) (by omega) with ⟨b, hb, rfl⟩ | hb
  · obtain ⟨s, s1, s2, h53, h12, h122, hm6, hms, h13⟩ := hB b hb
    have hir : (0 : Int32) ≤ nI b ∧ nI b ≤ 1 := (ir_2 _).mpr (ir_nI (by omega) hb)
    have ha : gal NL 12 b = true := gal_al g1 hb
    by_cases hr : 1 ≤ a2 ∧ a2 ≤ 4
    · obtain ⟨t, ht, rfl⟩ := zn_ofl (p := a2) (k := 4) (by omega) (Int32.le_trans (by decide) hr.1) hr.2
      have ht1 : 1 ≤ t := (zn_lle (by omega) (by omega)).mp hr.1
      by_cases hfl : (lvs (X 44 0) b L).length ≤ 2 * t
      · refine ⟨_, _, K_ans (r := nI s) (X1 := mset (fgt (mset X 12 b 0 (nI t)) b) 81 0 0 (nI s)) (X2 := mset (mset (mset (fgt (mset X 12 b 0 (nI t)) b) 81 0 0 (nI s)) 43 0 46 0) 53 0 b (nI t)) ?_ ?_ ?_ ?_, ?_⟩
        · simp (disch := omega) only [L_sheets, X9_sheets, X9_quireOf_yes h11 hb, X9_isWithin_eq, if_neg (zn_nn (a := b) (by omega)), if_pos hr, dr_nI ha (by omega : b < 2147483648), h122, X5_forget_eq, h12, zn_add, zn_mul, zn_addl, zn_ladd, zn_mull, zn_lmul, zn_le, zn_lt, zn_eq, zn_lel, zn_ltl, zn_eql, zn_lle, zn_llt, zn_leq, zn_sub, zn_subl, zn_m1, gl_eq, bind2_some, bind3_some, Option.bind_some, bz_0, bz_1, ib_0, ib_1, ib_bz, rd_nI, rd_l, if_pos, if_neg, if_true, if_false, ite_true, ite_false, eq_self, j00, j10, j20, j30, k00, k01, k02, k03, i20, i30, km0, i10, i01, im0, im1, i0m, i1m]
        · have hL' : (mset (fgt (mset X 12 b 0 (nI t)) b) 81 0 0 (nI s)) 43 0 0 = nI L := by simp [mset_at, mset_row, fgt, h430]
          have h53' : (mset (mset (fgt (mset X 12 b 0 (nI t)) b) 81 0 0 (nI s)) 43 0 46 0) 53 0 b = nI s := by simp [mset_at, mset_row, fgt, h53]
          have e44 : (mset (fgt (mset X 12 b 0 (nI t)) b) 81 0 0 (nI s)) 44 0 = X 44 0 := by funext j; simp [mset_at, mset_row, fgt]
          simp (disch := omega) only [X10_sheets, X10_sheets_J43, X10_in_eq, if_pos hir, if_pos hr, X10_leavesOf_eq hL' hL (by omega : 1000 ≤ N), e44, mset_same, h53', zn_add, zn_mul, zn_addl, zn_ladd, zn_mull, zn_lmul, zn_le, zn_lt, zn_eq, zn_lel, zn_ltl, zn_eql, zn_lle, zn_llt, zn_leq, zn_sub, zn_subl, zn_m1, gl_eq, bind2_some, bind3_some, Option.bind_some, bz_0, bz_1, ib_0, ib_1, ib_bz, rd_nI, rd_l, if_pos, if_neg, if_true, if_false, ite_true, ite_false, eq_self, j00, j10, j20, j30, k00, k01, k02, k03, i20, i30, km0, i10, i01, im0, im1, i0m, i1m]
          try rfl
        · simp [mset_at, mset_row]
        · simp [mset_at, mset_row]
        · refine ⟨L, F, D, W, K, jN_cg (by repeat (first | exact (fun _ _ _ _ => rfl) | refine dset ?_ rfl)) g1, jL_cg (by repeat (first | exact (fun _ _ _ _ => rfl) | refine dset ?_ rfl)) g2, jC_cg (by repeat (first | exact (fun _ _ _ _ => rfl) | refine dset ?_ rfl)) g3, jZ_cg (by repeat (first | exact (fun _ _ _ _ => rfl) | refine dset ?_ rfl)) g4, jH_cg (by repeat (first | exact (fun _ _ _ _ => rfl) | refine dset ?_ rfl)) g5, ?_, jF_cg (by repeat (first | exact (fun _ _ _ _ => rfl) | refine dset ?_ rfl)) g7, jD_cg (by repeat (first | exact (fun _ _ _ _ => rfl) | refine dset ?_ rfl)) g8, jW_cg (by repeat (first | exact (fun _ _ _ _ => rfl) | refine dset ?_ rfl)) g9, jK_cg (by repeat (first | exact (fun _ _ _ _ => rfl) | refine dset ?_ rfl)) g10, jI_cg (by repeat (first | exact (fun _ _ _ _ => rfl) | refine dset ?_ rfl)) g11, ?_⟩
          · refine ⟨fun j => by simpa [mset_at, mset_row, fgt] using h11 j, fun b' hb' => ?_⟩
            have e44 : (mset (mset (mset (fgt (mset X 12 b 0 (nI t)) b) 81 0 0 (nI s)) 43 0 46 0) 53 0 b (nI t)) 44 0 = X 44 0 := by funext j; simp [mset_at, mset_row, fgt]
            rw [e44]
            by_cases hbb : b' = b
            · subst hbb
              exact ⟨t, ht1, ht, by simp [mset_at, mset_row], by simp [mset_at, mset_row, fgt], by simpa [mset_at, mset_row, fgt] using h122, hm6, hfl, fun j => by simpa [mset_at, mset_row, fgt] using h13 j⟩
            · obtain ⟨s', q1, q2, q3, q4, q5, q6, q7, q8⟩ := hB b' hb'
              exact ⟨s', q1, q2, by simpa [mset_at, mset_row, hbb, fgt] using q3, by simpa [mset_at, mset_row, fgt, hbb] using q4, by simpa [mset_at, mset_row, fgt, hbb] using q5, q6, q7, fun j => by simpa [mset_at, mset_row, fgt, hbb] using q8 j⟩
          · refine jS_up (b := b) (Nat.le_refl F) g12 (fun q j hq => ?_) ?_ ?_ ?_ ?_ ?_ ?_ (fun q hq hqb hsv => ?_)
            · have := fgt_14 (mset X 12 b 0 (nI t)) b q j
              simp only [mset_at] at this ⊢
              simpa using this
            all_goals first | (funext i j; simp [mset_at, mset_row, fgt]; done) | skip
            refine svOK_cg ?_ ?_ ?_ ?_ ?_ ?_ ?_ ?_ ?_ ?_ hsv
            · simp [mset_at, mset_row, fgt]
            · simp [mset_at, mset_row, fgt, hqb]
            · intro i _; simp [mset_at, mset_row, fgt]
            · intro i _; simp [mset_at, mset_row, fgt]
            · intro all f; simp [cts, mset_at, fgt]
            · intro all f _; simp [mset_at, mset_row, fgt]
            · simp [mset_at, mset_row, fgt]
            · funext j; simp [mset_at, mset_row, fgt]
            · funext j; simp [mset_at, mset_row, fgt]
            · funext j; simp [mset_at, mset_row, fgt]
      · refine ⟨_, _, K_thrown (k := 3) (r := 0) (X1 := X) (X2 := mset X 43 0 46 3) ?_ ?_ (mset_same ..) (by decide), gJ_th _ h⟩
        · simp (disch := omega) only [L_sheets, X9_sheets, X9_quireOf_yes h11 hb, X9_isWithin_eq, if_neg (zn_nn (a := b) (by omega)), if_pos hr, dr_nI ha (by omega : b < 2147483648), h122, zn_add, zn_mul, zn_addl, zn_ladd, zn_mull, zn_lmul, zn_le, zn_lt, zn_eq, zn_lel, zn_ltl, zn_eql, zn_lle, zn_llt, zn_leq, zn_sub, zn_subl, zn_m1, gl_eq, bind2_some, bind3_some, Option.bind_some, bz_0, bz_1, ib_0, ib_1, ib_bz, rd_nI, rd_l, if_pos, if_neg, if_true, if_false, ite_true, ite_false, eq_self, j00, j10, j20, j30, k00, k01, k02, k03, i20, i30, km0, i10, i01, im0, im1, i0m, i1m]
          try rfl
        · simp (disch := omega) only [X10_sheets, X10_sheets_J43, X10_in_eq, if_pos hir, if_pos hr, X10_leavesOf_eq h430 hL (by omega : 1000 ≤ N), mset_same, zn_add, zn_mul, zn_addl, zn_ladd, zn_mull, zn_lmul, zn_le, zn_lt, zn_eq, zn_lel, zn_ltl, zn_eql, zn_lle, zn_llt, zn_leq, zn_sub, zn_subl, zn_m1, gl_eq, bind2_some, bind3_some, Option.bind_some, bz_0, bz_1, ib_0, ib_1, ib_bz, rd_nI, rd_l, if_pos, if_neg, if_true, if_false, ite_true, ite_false, eq_self, j00, j10, j20, j30, k00, k01, k02, k03, i20, i30, km0, i10, i01, im0, im1, i0m, i1m]
          try rfl
    · refine ⟨_, _, K_thrown (k := 2) (r := 0) (X1 := X) (X2 := mset X 43 0 46 2) ?_ ?_ (mset_same ..) (by decide), gJ_th _ h⟩
      · simp (disch := omega) only [L_sheets, X9_sheets, X9_quireOf_yes h11 hb, X9_isWithin_eq, if_neg (zn_nn (a := b) (by omega)), if_neg hr, zn_add, zn_mul, zn_addl, zn_ladd, zn_mull, zn_lmul, zn_le, zn_lt, zn_eq, zn_lel, zn_ltl, zn_eql, zn_lle, zn_llt, zn_leq, zn_sub, zn_subl, zn_m1, gl_eq, bind2_some, bind3_some, Option.bind_some, bz_0, bz_1, ib_0, ib_1, ib_bz, rd_nI, rd_l, if_pos, if_neg, if_true, if_false, ite_true, ite_false, eq_self, j00, j10, j20, j30, k00, k01, k02, k03, i20, i30, km0, i10, i01, im0, im1, i0m, i1m]
        try rfl
      · simp (disch := omega) only [X10_sheets, X10_sheets_J43, X10_in_eq, if_pos hir, if_neg hr, mset_same, zn_add, zn_mul, zn_addl, zn_ladd, zn_mull, zn_lmul, zn_le, zn_lt, zn_eq, zn_lel, zn_ltl, zn_eql, zn_lle, zn_llt, zn_leq, zn_sub, zn_subl, zn_m1, gl_eq, bind2_some, bind3_some, Option.bind_some, bz_0, bz_1, ib_0, ib_1, ib_bz, rd_nI, rd_l, if_pos, if_neg, if_true, if_false, ite_true, ite_false, eq_self, j00, j10, j20, j30, k00, k01, k02, k03, i20, i30, km0, i10, i01, im0, im1, i0m, i1m]
        try rfl
  · refine ⟨_, _, K_thrown (k := 1) (r := 0) (X1 := X) (X2 := mset X 43 0 46 1) ?_ ?_ (mset_same ..) (by decide), gJ_th _ h⟩
    · simp (disch := omega) only [L_sheets, X9_sheets, X9_quireOf_no hb, if_pos m1_neg, zn_add, zn_mul, zn_addl, zn_ladd, zn_mull, zn_lmul, zn_le, zn_lt, zn_eq, zn_lel, zn_ltl, zn_eql, zn_lle, zn_llt, zn_leq, zn_sub, zn_subl, zn_m1, gl_eq, bind2_some, bind3_some, Option.bind_some, bz_0, bz_1, ib_0, ib_1, ib_bz, rd_nI, rd_l, if_pos, if_neg, if_true, if_false, ite_true, ite_false, eq_self, j00, j10, j20, j30, k00, k01, k02, k03, i20, i30, km0, i10, i01, im0, im1, i0m, i1m]
      try rfl
    · simp (disch := omega) only [X10_sheets, X10_sheets_J43, X10_in_eq, if_neg (fun q => hb ((ir_2 _).mp q)), mset_same, zn_add, zn_mul, zn_addl, zn_ladd, zn_mull, zn_lmul, zn_le, zn_lt, zn_eq, zn_lel, zn_ltl, zn_eql, zn_lle, zn_llt, zn_leq, zn_sub, zn_subl, zn_m1, gl_eq, bind2_some, bind3_some, Option.bind_some, bz_0, bz_1, ib_0, ib_1, ib_bz, rd_nI, rd_l, if_pos, if_neg, if_true, if_false, ite_true, ite_false, eq_self, j00, j10, j20, j30, k00, k01, k02, k03, i20, i30, km0, i10, i01, im0, im1, i0m, i1m]
      try rfl
