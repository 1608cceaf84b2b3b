/-! light, image, unmix -/
theorem X2_measureAll_eq {al : Nat → Nat → Bool} {N i n : Nat} {X : gM} (hN : 1000 ≤ N) (hi : i < 10) (hn : n ≤ 32) (h6 : ∀ j, X 6 i j = if j < n then nI (32 * i + j) else -1) (ha : ∀ j, j < n → al 7 (32 * i + j) = true) :
    ∃ Y, X2_measureAll al N i X = some (0, Y) ∧ (∀ k p j, ¬ (k = 7 ∧ (j = 3 ∨ j = 4)) → Y k p j = X k p j) ∧ (∀ p j, (∀ c, c < n → p ≠ 32 * i + c) → Y 7 p j = X 7 p j) ∧
      ∀ c, c < n → Y 7 (32 * i + c) 3 = mO (X 8 (32 * i + c)) (X 2 0) (X 3 0) 0 ∧ Y 7 (32 * i + c) 4 = mU (X 8 (32 * i + c)) (X 2 0) (X 3 0) 0 := by
  unfold X2_measureAll
  refine m_up0 32 (fun f j (s : gM) => X2_measureAll_L11 al N (fun Y => X2_measureAll_J40 al N Y) f i 32 j s)
    (fun q Y => (∀ k p j, ¬ (k = 7 ∧ (j = 3 ∨ j = 4)) → Y k p j = X k p j) ∧ (∀ p j, (∀ c, c < n → p ≠ 32 * i + c) → Y 7 p j = X 7 p j) ∧
      ∀ c, c < n → c < q → Y 7 (32 * i + c) 3 = mO (X 8 (32 * i + c)) (X 2 0) (X 3 0) 0 ∧ Y 7 (32 * i + c) 4 = mU (X 8 (32 * i + c)) (X 2 0) (X 3 0) 0)
    (fun o => ∃ Y, o = some (0, Y) ∧ (∀ k p j, ¬ (k = 7 ∧ (j = 3 ∨ j = 4)) → Y k p j = X k p j) ∧ (∀ p j, (∀ c, c < n → p ≠ 32 * i + c) → Y 7 p j = X 7 p j) ∧
      ∀ c, c < n → Y 7 (32 * i + c) 3 = mO (X 8 (32 * i + c)) (X 2 0) (X 3 0) 0 ∧ Y 7 (32 * i + c) 4 = mU (X 8 (32 * i + c)) (X 2 0) (X 3 0) 0) X (by omega) ?_ ?_ ⟨fun _ _ _ _ => rfl, fun _ _ _ => rfl, fun c _ h => absurd h (Nat.not_lt_zero c)⟩
  · rintro q f Y hq ⟨h1, h2, h3⟩ ih
    have e6 : Y 6 i q = if q < n then nI (32 * i + q) else -1 := by rw [h1 6 i q (by omega), h6]
    unfold X2_measureAll_L11
    simp (disch := omega) only [zn_add, zn_mul, zn_addl, zn_ladd, zn_mull, zn_lmul, zn_le, zn_lt, zn_eq, zn_lel, zn_ltl, zn_eql, zn_lle, zn_llt, zn_leq, zn_sub, zn_subl, zn_m1, gl_eq, bind2_some, bind3_some, Option.bind_some, bz_0, bz_1, ib_0, ib_1, ib_bz, rd_nI, rd_l, if_pos, if_neg, if_true, if_false, ite_true, ite_false, eq_self, j00, j10, j20, j30, k00, k01, k02, k03, i20, i30, km0, i10, i01, im0, im1, i0m, i1m, X2_measureAll_J34, e6]
    by_cases hqn : q < n
    · obtain ⟨Z, g1, g2, g3, g4⟩ := X0_measure_eq (al := al) (N := N) (a := 32 * i + q) (X := Y) hN
      simp (disch := omega) only [if_pos hqn, dr_nI (ha q hqn) (by omega : 32 * i + q < 2147483648), zn_add, zn_mul, zn_addl, zn_ladd, zn_mull, zn_lmul, zn_le, zn_lt, zn_eq, zn_lel, zn_ltl, zn_eql, zn_lle, zn_llt, zn_leq, zn_sub, zn_subl, zn_m1, gl_eq, bind2_some, bind3_some, Option.bind_some, bz_0, bz_1, ib_0, ib_1, ib_bz, rd_nI, rd_l, if_pos, if_neg, if_true, if_false, ite_true, ite_false, eq_self, j00, j10, j20, j30, k00, k01, k02, k03, i20, i30, km0, i10, i01, im0, im1, i0m, i1m, g1]
      refine ih Z ⟨fun k p j hk => ?_, fun p j hp => ?_, fun c hc hcq => ?_⟩
      · rw [g2 k p j (by omega), h1 k p j hk]
      · rw [g2 7 p j (by have := hp q hqn; omega), h2 p j hp]
      · by_cases hcc : c = q
        · subst hcc
          have e8 : Y 8 (32 * i + c) = X 8 (32 * i + c) := funext fun j => h1 8 _ j (by omega)
          have e2 : Y 2 0 = X 2 0 := funext fun j => h1 2 0 j (by omega)
          have e3 : Y 3 0 = X 3 0 := funext fun j => h1 3 0 j (by omega)
          rw [e8, e2, e3] at g3 g4
          exact ⟨g3, g4⟩
        · rw [g2 7 _ 3 (by omega), g2 7 _ 4 (by omega)]
          exact h3 c hc (by omega)
    · simp (disch := omega) only [if_neg hqn, m1_neg, zn_add, zn_mul, zn_addl, zn_ladd, zn_mull, zn_lmul, zn_le, zn_lt, zn_eq, zn_lel, zn_ltl, zn_eql, zn_lle, zn_llt, zn_leq, zn_sub, zn_subl, zn_m1, gl_eq, bind2_some, bind3_some, Option.bind_some, bz_0, bz_1, ib_0, ib_1, ib_bz, rd_nI, rd_l, if_pos, if_neg, if_true, if_false, ite_true, ite_false, eq_self, j00, j10, j20, j30, k00, k01, k02, k03, i20, i30, km0, i10, i01, im0, im1, i0m, i1m]
      exact ih Y ⟨h1, h2, fun c hc hcq => h3 c hc (by omega)⟩
  · rintro f Y ⟨h1, h2, h3⟩
    unfold X2_measureAll_L11 X2_measureAll_J40
    simp (disch := omega) only [zn_add, zn_mul, zn_addl, zn_ladd, zn_mull, zn_lmul, zn_le, zn_lt, zn_eq, zn_lel, zn_ltl, zn_eql, zn_lle, zn_llt, zn_leq, zn_sub, zn_subl, zn_m1, gl_eq, bind2_some, bind3_some, Option.bind_some, bz_0, bz_1, ib_0, ib_1, ib_bz, rd_nI, rd_l, if_pos, if_neg, if_true, if_false, ite_true, ite_false, eq_self, j00, j10, j20, j30, k00, k01, k02, k03, i20, i30, km0, i10, i01, im0, im1, i0m, i1m]
    exact ⟨Y, rfl, h1, h2, fun c hc => h3 c hc (by omega)⟩
theorem sR_cg {X Y : gM} {a b s : Nat} (h9 : ∀ j, Y 9 a j = X 9 a j) (h10 : ∀ j, Y 10 a j = X 10 a j) (h57 : ∀ j, Y 57 0 j = X 57 0 j) (g : sR X a b s) : sR Y a b s := by
  have e9 : Y 9 a = X 9 a := funext h9
  have e10 : Y 10 a = X 10 a := funext h10
  have e57 : Y 57 0 = X 57 0 := funext h57
  unfold sR at g ⊢
  rw [e9, e10, e57]
  exact g
theorem lw_le {ln w : Nat} (h1 : ln ≤ 4) (h2 : w ≤ 8) : ln * w ≤ 32 := Nat.mul_le_mul h1 h2
theorem lw_lt {ln w l c : Nat} (hl : l < ln) (hc : c < w) : l * w + c < ln * w := by
  have h1 : (l + 1) * w ≤ ln * w := Nat.mul_le_mul_right w hl
  rw [Nat.succ_mul] at h1
  omega
theorem lw_inj {w l c l' c' : Nat} (hc : c < w) (hc' : c' < w) (h : l * w + c = l' * w + c') : l = l' ∧ c = c' := by
  rcases Nat.lt_trichotomy l l' with q | q | q
  · have h1 : (l + 1) * w ≤ l' * w := Nat.mul_le_mul_right w q
    rw [Nat.succ_mul] at h1
    omega
  · subst q
    exact ⟨rfl, by omega⟩
  · have h1 : (l' + 1) * w ≤ l * w := Nat.mul_le_mul_right w q
    rw [Nat.succ_mul] at h1
    omega
/-- all cells are measured -/
def lgt (L : Nat) (X Y : gM) (q : Nat) : Prop := (∀ k p j, ¬ (k = 7 ∧ (j = 3 ∨ j = 4)) → Y k p j = X k p j) ∧
  (∀ i ln w c, i < q → i < L → X 45 0 i = nI ln → X 46 0 i = nI w → ln ≤ 4 → w ≤ 8 → c < ln * w → Y 7 (32 * i + c) 3 = mO (X 8 (32 * i + c)) (X 2 0) (X 3 0) 0 ∧ Y 7 (32 * i + c) 4 = mU (X 8 (32 * i + c)) (X 2 0) (X 3 0) 0)
theorem X9_light_loop {al : Nat → Nat → Bool} {N L : Nat} {X : gM} (hN : 1000 ≤ N) (g : jL L X) (ha : ∀ i, i < L → al 5 i = true) (ha7 : ∀ i ln w j, i < L → X 45 0 i = nI ln → X 46 0 i = nI w → ln ≤ 4 → w ≤ 8 → j < ln * w → al 7 (32 * i + j) = true) :
    ∃ Y, X9_light_L79 al N (fun Y => X9_light_J113 al N Y) N 10 0 X = some (0, 0, Y) ∧ lgt L X Y 10 := by
  obtain ⟨hL, h430, h002, h4, hlf⟩ := g
  refine m_up0 10 (fun f j (s : gM) => X9_light_L79 al N (fun Y => X9_light_J113 al N Y) f 10 j s) (fun q Y => lgt L X Y q) (fun o => ∃ Y, o = some (0, 0, Y) ∧ lgt L X Y 10) X (by omega) ?_ ?_ ⟨fun _ _ _ _ => rfl, fun i _ _ _ h => absurd h (Nat.not_lt_zero i)⟩
  · rintro q f Y hq ⟨h1, h2⟩ ih
    have e4 : Y 4 0 q = if q < L then nI q else -1 := by rw [h1 4 0 q (by omega), h4]
    unfold X9_light_L79
    simp (disch := omega) only [zn_add, zn_mul, zn_addl, zn_ladd, zn_mull, zn_lmul, zn_le, zn_lt, zn_eq, zn_lel, zn_ltl, zn_eql, zn_lle, zn_llt, zn_leq, zn_sub, zn_subl, zn_m1, gl_eq, bind2_some, bind3_some, Option.bind_some, bz_0, bz_1, ib_0, ib_1, ib_bz, rd_nI, rd_l, if_pos, if_neg, if_true, if_false, ite_true, ite_false, eq_self, j00, j10, j20, j30, k00, k01, k02, k03, i20, i30, km0, i10, i01, im0, im1, i0m, i1m, X9_light_J107, e4]
    by_cases hqL : q < L
    · obtain ⟨b, ln, w, hb, l1, l2, w1, w2, f44, f45, f46, f50, f51, f52, f53, f6, -⟩ := hlf q hqL
      obtain ⟨Z, g1, g2, g3, g4⟩ := X2_measureAll_eq (al := al) (N := N) (i := q) (n := ln * w) (X := Y) hN hq (lw_le l2 w2) (fun j => by rw [h1 6 q j (by omega), f6]) (fun j hj => ha7 q ln w j hqL f45 f46 l2 w2 hj)
      simp (disch := omega) only [if_pos hqL, dr_nI (ha q hqL) (by omega : q < 2147483648), zn_add, zn_mul, zn_addl, zn_ladd, zn_mull, zn_lmul, zn_le, zn_lt, zn_eq, zn_lel, zn_ltl, zn_eql, zn_lle, zn_llt, zn_leq, zn_sub, zn_subl, zn_m1, gl_eq, bind2_some, bind3_some, Option.bind_some, bz_0, bz_1, ib_0, ib_1, ib_bz, rd_nI, rd_l, if_pos, if_neg, if_true, if_false, ite_true, ite_false, eq_self, j00, j10, j20, j30, k00, k01, k02, k03, i20, i30, km0, i10, i01, im0, im1, i0m, i1m, g1]
      refine ih Z ⟨fun k p j hk => ?_, fun i ln' w' c hi hiL k45 k46 kl kw hc => ?_⟩
      · rw [g2 k p j hk, h1 k p j hk]
      · by_cases hiq : i = q
        · subst hiq
          have r1 : ln' = ln := (zn_eq (by omega) (by omega)).mp (k45.symm.trans f45)
          have r2 : w' = w := (zn_eq (by omega) (by omega)).mp (k46.symm.trans f46)
          subst r1 r2
          have e8 : Y 8 (32 * i + c) = X 8 (32 * i + c) := funext fun j => h1 8 _ j (by omega)
          have e2 : Y 2 0 = X 2 0 := funext fun j => h1 2 0 j (by omega)
          have e3 : Y 3 0 = X 3 0 := funext fun j => h1 3 0 j (by omega)
          have := g4 c hc
          rw [e8, e2, e3] at this
          exact this
        · have hc32 : c < 32 := Nat.lt_of_lt_of_le hc (lw_le kl kw)
          have hoff : ∀ c', c' < ln * w → 32 * i + c ≠ 32 * q + c' := fun c' hc' => by
            have := Nat.lt_of_lt_of_le hc' (lw_le l2 w2)
            omega
          rw [g3 _ 3 hoff, g3 _ 4 hoff]
          exact h2 i ln' w' c (by omega) hiL k45 k46 kl kw hc
    · simp (disch := omega) only [if_neg hqL, m1_neg, zn_add, zn_mul, zn_addl, zn_ladd, zn_mull, zn_lmul, zn_le, zn_lt, zn_eq, zn_lel, zn_ltl, zn_eql, zn_lle, zn_llt, zn_leq, zn_sub, zn_subl, zn_m1, gl_eq, bind2_some, bind3_some, Option.bind_some, bz_0, bz_1, ib_0, ib_1, ib_bz, rd_nI, rd_l, if_pos, if_neg, if_true, if_false, ite_true, ite_false, eq_self, j00, j10, j20, j30, k00, k01, k02, k03, i20, i30, km0, i10, i01, im0, im1, i0m, i1m]
      exact ih Y ⟨h1, fun i ln w c hi hiL => h2 i ln w c (by omega) hiL⟩
  · rintro f Y h
    unfold X9_light_L79 X9_light_J113
    simp (disch := omega) only [zn_add, zn_mul, zn_addl, zn_ladd, zn_mull, zn_lmul, zn_le, zn_lt, zn_eq, zn_lel, zn_ltl, zn_eql, zn_lle, zn_llt, zn_leq, zn_sub, zn_subl, zn_m1, gl_eq, bind2_some, bind3_some, Option.bind_some, bz_0, bz_1, ib_0, ib_1, ib_bz, rd_nI, rd_l, if_pos, if_neg, if_true, if_false, ite_true, ite_false, eq_self, j00, j10, j20, j30, k00, k01, k02, k03, i20, i30, km0, i10, i01, im0, im1, i0m, i1m]
    exact ⟨Y, rfl, h⟩
theorem gal7 {NL : List (Nat × Nat)} {L F W K : Nat} {X : gM} (g : jN NL L F W K X) : ∀ i ln w j, i < L → X 45 0 i = nI ln → X 46 0 i = nI w → ln ≤ 4 → w ≤ 8 → j < ln * w → gal NL 7 (32 * i + j) = true :=
  fun i ln w j h1 h2 h3 h4 h5 h6 => gal_al g ⟨i, ln, w, j, h1, h2, h3, h4, h5, h6, rfl⟩
theorem ir_3 (p : Int32) : (0 ≤ p ∧ p ≤ 2) ↔ ir p 3 := by
  rw [lt_succ32 p 2 (by omega)]
theorem case2 {NL : List (Nat × Nat)} {al : Nat → Nat → Bool} {N : Nat} {X : gM} (hN : 1000000 ≤ N) (a1 a2 a3 a4 a5 a6 : Int32) (h : gJ NL X) : ∃ (rr : Int32) (X' : gM), K2 (gal NL) al N [] a1 a2 a3 a4 a5 a6 X = some (rr, X') ∧ gJ NL X' := by
  unfold K2
  rw [eqn_nil, Option.bind_some]
  obtain ⟨L, F, D, W, K, g1, g2, g3, g4, g5, g6, g7, g8, g9, g10, g11, g12⟩ := id h
  by_cases h1 : 0 ≤ a1 ∧ a1 ≤ 2
  · obtain ⟨t, ht, rfl⟩ := ir_ex (by omega) ((ir_3 _).mp h1)
    by_cases h2 : 0 ≤ a2 ∧ a2 ≤ 9
    · by_cases h3 : 0 ≤ a3 ∧ a3 ≤ 9
      · have g2' : jL L (mset (mset X 2 0 t a2) 3 0 t a3) := jL_cg (by repeat (first | exact (fun _ _ _ _ => rfl) | refine dset ?_ rfl)) g2
        have g1' : jN NL L F W K (mset (mset X 2 0 t a2) 3 0 t a3) := jN_cg (by repeat (first | exact (fun _ _ _ _ => rfl) | refine dset ?_ rfl)) g1
        obtain ⟨Y, e, y1, y2⟩ := X9_light_loop (al := gal NL) (N := N) (by omega) g2' (fun i hi => gal_al g1' hi) (gal7 g1')
        have hfr : ∀ k p j, ¬ (k = 7 ∧ (j = 3 ∨ j = 4)) → ¬ (k = 2) → ¬ (k = 3) → Y k p j = X k p j := fun k p j q1 q2 q3 => by
          rw [y1 k p j q1]
          simp [mset_at, mset_row, q2, q3]
        refine ⟨0, mset (mset (mset Y 43 0 46 0) 54 0 t a2) 55 0 t a3, ?_, ?_⟩
        · simp (disch := omega) only [L_light, X9_light, X9_isWithin_eq, if_pos h1, if_pos h2, if_pos h3, zn_add, zn_mul, zn_addl, zn_ladd, zn_mull, zn_lmul, zn_le, zn_lt, zn_eq, zn_lel, zn_ltl, zn_eql, zn_lle, zn_llt, zn_leq, zn_sub, zn_subl, zn_m1, gl_eq, bind2_some, bind3_some, Option.bind_some, bz_0, bz_1, ib_0, ib_1, ib_bz, rd_nI, rd_l, if_pos, if_neg, if_true, if_false, ite_true, ite_false, eq_self, j00, j10, j20, j30, k00, k01, k02, k03, i20, i30, km0, i10, i01, im0, im1, i0m, i1m, e, X10_light, X10_in_eq, X10_light_J39, X10_light_J63, mset_same, thr_eq]
          simp [mset_at, mset_row]
        · refine ⟨L, F, D, W, K, jN_cg ?_ g1, jL_cg ?_ g2, ?_, jZ_cg ?_ g4, jH_cg ?_ g5, jB_cg ?_ g6, jF_cg ?_ g7, jD_cg ?_ g8, jW_cg ?_ g9, jK_cg ?_ g10, ?_, jS_cg ?_ g12⟩
          rotate_left 2
          · intro i ln w hi k45 k46 kl kw l c hl hc
            have e45 : X 45 0 i = nI ln := by rw [← k45]; simp [mset_at, mset_row, hfr]
            have e46 : X 46 0 i = nI w := by rw [← k46]; simp [mset_at, mset_row, hfr]
            obtain ⟨r1, r2, r3, r4⟩ := g3 i ln w hi e45 e46 kl kw l c hl hc
            have r56 : ∀ j, (mset (mset (mset Y 43 0 46 0) 54 0 t a2) 55 0 t a3) 56 0 j = X 56 0 j := fun j => by simp [mset_at, mset_row, hfr]
            have r8 : ∀ p j, (mset (mset (mset Y 43 0 46 0) 54 0 t a2) 55 0 t a3) 8 p j = X 8 p j := fun p j => by simp [mset_at, mset_row, hfr]
            have rI : ∀ k, k < 3 → (mset (mset X 2 0 t a2) 3 0 t a3) 2 0 k = (mset (mset (mset Y 43 0 46 0) 54 0 t a2) 55 0 t a3) 54 0 k ∧ (mset (mset X 2 0 t a2) 3 0 t a3) 3 0 k = (mset (mset (mset Y 43 0 46 0) 54 0 t a2) 55 0 t a3) 55 0 k := fun k hk => by
              obtain ⟨q1, q2⟩ := g11 k hk
              by_cases hkt : k = t
              · simp [mset_at, mset_row, hkt]
              · simp [mset_at, mset_row, hkt, hfr, q1, q2]
            obtain ⟨z1, z2⟩ := y2 i ln w (l * w + c) (by have := g2.1; omega) hi (by simpa [mset_at, mset_row] using e45) (by simpa [mset_at, mset_row] using e46) kl kw (lw_lt hl hc)
            have hm := mU_cg (im := (mset (mset X 2 0 t a2) 3 0 t a3) 8 (32 * i + (l * w + c))) (im' := (mset (mset (mset Y 43 0 46 0) 54 0 t a2) 55 0 t a3) 56 0) (b := 0) (b' := 32 * i + 8 * l + c) (fun k hk => by
              rw [r56, Nat.mul_zero, Nat.zero_add]
              simpa [mset_at, mset_row] using r1 k hk) (fun k hk => (rI k hk).1) (fun k hk => (rI k hk).2)
            refine ⟨fun k hk => by rw [r8, r56]; exact r1 k hk, ?_, ?_, fun s hs => ?_⟩
            · rw [← hm.2, ← z1]; simp [mset_at, mset_row]
            · rw [← hm.1, ← z2]; simp [mset_at, mset_row]
            · simpa [sR, mset_at, hfr] using r4 s hs
          rotate_left 7
          · intro k hk
            obtain ⟨q1, q2⟩ := g11 k hk
            by_cases hkt : k = t
            · simp [mset_at, mset_row, hkt, y1]
            · simp [mset_at, mset_row, hkt, y1, hfr, q1, q2]
          all_goals
            intro k p j hd
            have hz : ¬ (k = 7 ∧ (j = 3 ∨ j = 4)) ∧ ¬ k = 2 ∧ ¬ k = 3 ∧ ¬ k = 54 ∧ ¬ k = 55 ∧ ¬ (k = 43 ∧ j = 46) := by
              refine ⟨?_, ?_, ?_, ?_, ?_, ?_⟩
              all_goals
                intro hk
                first
                  | (obtain ⟨rfl, rfl⟩ := hk; simp [djN, djL, djC, djZ, djH, djB, djF, djD, djW, djK, djI, djS] at hd; done)
                  | (obtain ⟨rfl, -⟩ := hk; simp [djN, djL, djC, djZ, djH, djB, djF, djD, djW, djK, djI, djS] at hd; done)
                  | (subst hk; simp [djN, djL, djC, djZ, djH, djB, djF, djD, djW, djK, djI, djS] at hd; done)
            obtain ⟨z1, z2, z3, z4, z5, z6⟩ := hz
            simp only [mset_at]
            rw [if_neg (by omega), if_neg (by omega), if_neg (by omega), hfr k p j z1 z2 z3]
      · refine ⟨0, mset X 43 0 46 2, ?_, gJ_th _ h⟩
        simp (disch := omega) only [L_light, X9_light, X9_light_J37, X9_isWithin_eq, if_pos h1, if_pos h2, if_neg h3, zn_add, zn_mul, zn_addl, zn_ladd, zn_mull, zn_lmul, zn_le, zn_lt, zn_eq, zn_lel, zn_ltl, zn_eql, zn_lle, zn_llt, zn_leq, zn_sub, zn_subl, zn_m1, gl_eq, bind2_some, bind3_some, Option.bind_some, bz_0, bz_1, ib_0, ib_1, ib_bz, rd_nI, rd_l, if_pos, if_neg, if_true, if_false, ite_true, ite_false, eq_self, j00, j10, j20, j30, k00, k01, k02, k03, i20, i30, km0, i10, i01, im0, im1, i0m, i1m, X10_light, X10_in_eq, X10_light_J34, X10_light_J39, X10_light_J63, mset_same, thr_eq]
        try rfl
    · refine ⟨0, mset X 43 0 46 2, ?_, gJ_th _ h⟩
      simp (disch := omega) only [L_light, X9_light, X9_light_J37, X9_isWithin_eq, if_pos h1, if_neg h2, zn_add, zn_mul, zn_addl, zn_ladd, zn_mull, zn_lmul, zn_le, zn_lt, zn_eq, zn_lel, zn_ltl, zn_eql, zn_lle, zn_llt, zn_leq, zn_sub, zn_subl, zn_m1, gl_eq, bind2_some, bind3_some, Option.bind_some, bz_0, bz_1, ib_0, ib_1, ib_bz, rd_nI, rd_l, if_pos, if_neg, if_true, if_false, ite_true, ite_false, eq_self, j00, j10, j20, j30, k00, k01, k02, k03, i20, i30, km0, i10, i01, im0, im1, i0m, i1m, X10_light, X10_in_eq, X10_light_J34, X10_light_J39, X10_light_J63, mset_same, thr_eq]
      try rfl
  · refine ⟨0, mset X 43 0 46 1, ?_, gJ_th _ h⟩
    simp (disch := omega) only [L_light, X9_light, X9_isWithin_eq, if_neg h1, zn_add, zn_mul, zn_addl, zn_ladd, zn_mull, zn_lmul, zn_le, zn_lt, zn_eq, zn_lel, zn_ltl, zn_eql, zn_lle, zn_llt, zn_leq, zn_sub, zn_subl, zn_m1, gl_eq, bind2_some, bind3_some, Option.bind_some, bz_0, bz_1, ib_0, ib_1, ib_bz, rd_nI, rd_l, if_pos, if_neg, if_true, if_false, ite_true, ite_false, eq_self, j00, j10, j20, j30, k00, k01, k02, k03, i20, i30, km0, i10, i01, im0, im1, i0m, i1m, X10_light, X10_in_eq, X10_light_J39, X10_light_J63, mset_same, thr_eq]
    try rfl

theorem cell3 {NL : List (Nat × Nat)} {L F W K : Nat} {X : gM} (g : jL L X) (a1 a2 a3 : Int32) : (¬ ir a1 L) ∨ (∃ i ln w, i < L ∧ a1 = nI i ∧ X 45 0 i = nI ln ∧ X 46 0 i = nI w ∧ ln ≤ 4 ∧ w ≤ 8 ∧ X 5 i 2 = nI ln ∧ X 5 i 3 = nI w ∧ (∀ j, X 6 i j = if j < ln * w then nI (32 * i + j) else -1) ∧ ((¬ (ir a2 ln ∧ ir a3 w)) ∨ ∃ l c, l < ln ∧ c < w ∧ a2 = nI l ∧ a3 = nI c)) := by
  obtain ⟨hL, h430, h002, h4, hlf⟩ := g
  rcases ir_or a1 (n := L) (by omega) with ⟨i, hi, rfl⟩ | h
  · right
    obtain ⟨b, ln, w, hb, l1, l2, w1, w2, f44, f45, f46, f50, f51, f52, f53, f6, -⟩ := hlf i hi
    refine ⟨i, ln, w, hi, rfl, f45, f46, l2, w2, f52, f53, f6, ?_⟩
    rcases ir_or a2 (n := ln) (by omega) with ⟨l, hl, rfl⟩ | h
    · rcases ir_or a3 (n := w) (by omega) with ⟨c, hc, rfl⟩ | h
      · exact Or.inr ⟨l, c, hl, hc, rfl, rfl⟩
      · exact Or.inl (fun q => h q.2)
    · exact Or.inl (fun q => h q.1)
  · exact Or.inl h
theorem ir_le (p : Int32) (k : Nat) (h : k < 2147483647) : (0 ≤ p ∧ p ≤ (no_index (OfNat.ofNat k) : Int32)) ↔ ir p (k + 1) := by
  rw [lt_succ32 p k h]
theorem case4 {NL : List (Nat × Nat)} {al : Nat → Nat → Bool} {N : Nat} {X : gM} (hN : 1000000 ≤ N) (a1 a2 a3 a4 a5 a6 : Int32) (h : gJ NL X) : ∃ (rr : Int32) (X' : gM), K4 (gal NL) al N [] a1 a2 a3 a4 a5 a6 X = some (rr, X') ∧ gJ NL X' := by
  unfold K4
  rw [eqn_nil, Option.bind_some]
  obtain ⟨L, F, D, W, K, g1, g2, g3, g4, g5, g6, g7, g8, g9, g10, g11, g12⟩ := id h
  obtain ⟨hL, h430, h002, h4, hlf⟩ := id g2
  rcases cell3 (NL := NL) (F := F) (W := W) (K := K) g2 a1 a2 a3 with h1 | ⟨i, ln, w, hi, rfl, f45, f46, kl, kw, f52, f53, f6, h1 | ⟨l, c, hl, hc, rfl, rfl⟩⟩
  · refine ⟨_, _, K_thrown (k := 1) (r := 0) (X1 := X) (X2 := mset X 43 0 46 1) ?_ ?_ (mset_same ..) (by decide), gJ_th _ h⟩
    · simp (disch := omega) only [L_unmix, X9_unmix, X9_cellOf_no1 hL h4 h1, if_pos m1_neg, zn_add, zn_mul, zn_addl, zn_ladd, zn_mull, zn_lmul, zn_le, zn_lt, zn_eq, zn_lel, zn_ltl, zn_eql, zn_lle, zn_llt, zn_leq, zn_sub, zn_subl, zn_m1, gl_eq, bind2_some, bind3_some, Option.bind_some, bz_0, bz_1, ib_0, ib_1, ib_bz, rd_nI, rd_l, if_pos, if_neg, if_true, if_false, ite_true, ite_false, eq_self, j00, j10, j20, j30, k00, k01, k02, k03, i20, i30, km0, i10, i01, im0, im1, i0m, i1m]
      try rfl
    · simp (disch := omega) only [X10_unmix, X10_unmix_J16, X10_isCell_no1 h430 (by omega) h1, mset_same, zn_add, zn_mul, zn_addl, zn_ladd, zn_mull, zn_lmul, zn_le, zn_lt, zn_eq, zn_lel, zn_ltl, zn_eql, zn_lle, zn_llt, zn_leq, zn_sub, zn_subl, zn_m1, gl_eq, bind2_some, bind3_some, Option.bind_some, bz_0, bz_1, ib_0, ib_1, ib_bz, rd_nI, rd_l, if_pos, if_neg, if_true, if_false, ite_true, ite_false, eq_self, j00, j10, j20, j30, k00, k01, k02, k03, i20, i30, km0, i10, i01, im0, im1, i0m, i1m]
      try rfl
  · have ha : gal NL 5 i = true := gal_al g1 hi
    refine ⟨_, _, K_thrown (k := 1) (r := 0) (X1 := X) (X2 := mset X 43 0 46 1) ?_ ?_ (mset_same ..) (by decide), gJ_th _ h⟩
    · simp (disch := omega) only [L_unmix, X9_unmix, X9_cellOf_no2 hL h4 hi ha f52 f53 h1, if_pos m1_neg, zn_add, zn_mul, zn_addl, zn_ladd, zn_mull, zn_lmul, zn_le, zn_lt, zn_eq, zn_lel, zn_ltl, zn_eql, zn_lle, zn_llt, zn_leq, zn_sub, zn_subl, zn_m1, gl_eq, bind2_some, bind3_some, Option.bind_some, bz_0, bz_1, ib_0, ib_1, ib_bz, rd_nI, rd_l, if_pos, if_neg, if_true, if_false, ite_true, ite_false, eq_self, j00, j10, j20, j30, k00, k01, k02, k03, i20, i30, km0, i10, i01, im0, im1, i0m, i1m]
      try rfl
    · simp (disch := omega) only [X10_unmix, X10_unmix_J16, X10_isCell_eq h430 hL hi f45 f46 kl kw, if_neg h1, mset_same, zn_add, zn_mul, zn_addl, zn_ladd, zn_mull, zn_lmul, zn_le, zn_lt, zn_eq, zn_lel, zn_ltl, zn_eql, zn_lle, zn_llt, zn_leq, zn_sub, zn_subl, zn_m1, gl_eq, bind2_some, bind3_some, Option.bind_some, bz_0, bz_1, ib_0, ib_1, ib_bz, rd_nI, rd_l, if_pos, if_neg, if_true, if_false, ite_true, ite_false, eq_self, j00, j10, j20, j30, k00, k01, k02, k03, i20, i30, km0, i10, i01, im0, im1, i0m, i1m]
      try rfl
  · have ha : gal NL 5 i = true := gal_al g1 hi
    have hlt := lw_lt hl hc
    have hle := lw_le kl kw
    have ha7 : gal NL 7 (32 * i + (l * w + c)) = true := gal7 g1 i ln w _ hi f45 f46 kl kw hlt
    obtain ⟨r1, r2, r3, r4⟩ := g3 i ln w hi f45 f46 kl kw l c hl hc
    generalize hp : (if a4 = (0 : Int32) then (0 : Int32) else (1 : Int32)) = p4
    generalize hv : (if p4 = 0 then X 7 (32 * i + (l * w + c)) 3 else X 7 (32 * i + (l * w + c)) 4) = v
    have e1 : L_unmix (gal NL) N (nI i) (nI l) (nI c) p4 X = some (0, mset X 81 0 0 v) := by
      simp (disch := omega) only [L_unmix, X9_unmix, X9_unmix_J40, X9_cellOf_yes hL h4 hi ha f52 f53 kw kl f6 hl hc, if_neg (zn_nn (a := 32 * i + (l * w + c)) (by omega)), dr_nI ha7 (by omega : 32 * i + (l * w + c) < 2147483648), zn_add, zn_mul, zn_addl, zn_ladd, zn_mull, zn_lmul, zn_le, zn_lt, zn_eq, zn_lel, zn_ltl, zn_eql, zn_lle, zn_llt, zn_leq, zn_sub, zn_subl, zn_m1, gl_eq, bind2_some, bind3_some, Option.bind_some, bz_0, bz_1, ib_0, ib_1, ib_bz, rd_nI, rd_l, if_pos, if_neg, if_true, if_false, ite_true, ite_false, eq_self, j00, j10, j20, j30, k00, k01, k02, k03, i20, i30, km0, i10, i01, im0, im1, i0m, i1m]
      rw [← hv]
      by_cases h0 : p4 = 0
      · rw [if_pos h0, if_pos h0]; rfl
      · rw [if_neg h0, if_neg h0]; rfl
    have x430 : (mset X 81 0 0 v) 43 0 0 = nI L := by simp [mset_at, mset_row, h430]
    have x45 : (mset X 81 0 0 v) 45 0 i = nI ln := by simp [mset_at, mset_row, f45]
    have x46 : (mset X 81 0 0 v) 46 0 i = nI w := by simp [mset_at, mset_row, f46]
    obtain ⟨Y, y1, y2, y3⟩ := X10_unmixes_eq (al := al) (N := N) (b := 32 * i + 8 * l + c) (X := mset (mset X 81 0 0 v) 43 0 46 0) (by omega) (by omega)
    have e56 : (mset (mset X 81 0 0 v) 43 0 46 0) 56 0 = X 56 0 := by funext j; simp [mset_at, mset_row]
    have e54 : (mset (mset X 81 0 0 v) 43 0 46 0) 54 0 = X 54 0 := by funext j; simp [mset_at, mset_row]
    have e55 : (mset (mset X 81 0 0 v) 43 0 46 0) 55 0 = X 55 0 := by funext j; simp [mset_at, mset_row]
    rw [e56, e54, e55] at y1 y3
    have e2 : X10_unmix al N (nI i) (nI l) (nI c) p4 (mset X 81 0 0 v) = some (v, Y) := by
      simp (disch := omega) only [X10_unmix, X10_unmix_J16, X10_unmix_J61, X10_isCell_eq x430 hL hi x45 x46 kl kw, if_pos (⟨ir_nI (by omega) hl, ir_nI (by omega) hc⟩ : ir (nI l) ln ∧ ir (nI c) w), mset_same, X10_cellAt, zn_add, zn_mul, zn_addl, zn_ladd, zn_mull, zn_lmul, zn_le, zn_lt, zn_eq, zn_lel, zn_ltl, zn_eql, zn_lle, zn_llt, zn_leq, zn_sub, zn_subl, zn_m1, gl_eq, bind2_some, bind3_some, Option.bind_some, bz_0, bz_1, ib_0, ib_1, ib_bz, rd_nI, rd_l, if_pos, if_neg, if_true, if_false, ite_true, ite_false, eq_self, j00, j10, j20, j30, k00, k01, k02, k03, i20, i30, km0, i10, i01, im0, im1, i0m, i1m, y1]
      rw [← hv, r2, r3]
      unfold mO mU
      by_cases hcn : cntP (cmB (X 56 0) (X 54 0) (X 55 0) (32 * i + 8 * l + c)) 100 = 1
      · obtain ⟨y4, y5⟩ := y3 (by omega)
        by_cases h0 : p4 = 0
        · rw [if_pos hcn, if_pos h0, if_pos h0, if_pos hcn, y4]
        · rw [if_pos hcn, if_neg h0, if_neg h0, if_pos hcn, y5]
      · rw [if_neg hcn]
        by_cases h0 : p4 = 0
        · rw [if_pos h0, if_neg hcn]
        · rw [if_neg h0, if_neg hcn]
    refine ⟨_, _, K_ans e1 e2 ?_ ?_, gJ_sm (fun k q j hs => ?_) h⟩
    · rw [y2 43 0 46 (by omega), mset_same]
    · rw [y2 81 0 0 (by omega)]; simp [mset_at, mset_row]
    · have hk : ¬ (k = 43 ∧ (j = 29 ∨ j = 30)) := by
        rintro ⟨rfl, rfl | rfl⟩ <;> simp [scr] at hs
      rw [y2 k q j hk]
      simp only [mset_at]
      rw [if_neg, if_neg]
      · rintro ⟨rfl, -, -⟩; simp [scr] at hs
      · rintro ⟨rfl, -, rfl⟩; simp [scr] at hs
theorem case3 {NL : List (Nat × Nat)} {al : Nat → Nat → Bool} {N : Nat} {X : gM} (hN : 1000000 ≤ N) (a1 a2 a3 a4 a5 a6 : Int32) (h : gJ NL X) : ∃ (rr : Int32) (X' : gM), K3 (gal NL) al N [] a1 a2 a3 a4 a5 a6 X = some (rr, X') ∧ gJ NL X' := by
  unfold K3
  rw [eqn_nil, Option.bind_some]
  obtain ⟨L, F, D, W, K, g1, g2, g3, g4, g5, g6, g7, g8, g9, g10, g11, g12⟩ := id h
  obtain ⟨hL, h430, h002, h4, hlf⟩ := id g2
  rcases cell3 (NL := NL) (F := F) (W := W) (K := K) g2 a1 a2 a3 with h1 | ⟨i, ln, w, hi, rfl, f45, f46, kl, kw, f52, f53, f6, h1 | ⟨l, c, hl, hc, rfl, rfl⟩⟩
  · refine ⟨_, _, K_thrown (k := 1) (r := 0) (X1 := X) (X2 := mset X 43 0 46 1) ?_ ?_ (mset_same ..) (by decide), gJ_th _ h⟩
    · simp (disch := omega) only [L_image, X9_image, X9_image_J24, X9_cellOf_no1 hL h4 h1, if_pos m1_neg, zn_add, zn_mul, zn_addl, zn_ladd, zn_mull, zn_lmul, zn_le, zn_lt, zn_eq, zn_lel, zn_ltl, zn_eql, zn_lle, zn_llt, zn_leq, zn_sub, zn_subl, zn_m1, gl_eq, bind2_some, bind3_some, Option.bind_some, bz_0, bz_1, ib_0, ib_1, ib_bz, rd_nI, rd_l, if_pos, if_neg, if_true, if_false, ite_true, ite_false, eq_self, j00, j10, j20, j30, k00, k01, k02, k03, i20, i30, km0, i10, i01, im0, im1, i0m, i1m]
      try rfl
    · simp (disch := omega) only [X10_image, X10_image_J21, X10_image_J42, X10_isCell_no1 h430 (by omega) h1, mset_same, zn_add, zn_mul, zn_addl, zn_ladd, zn_mull, zn_lmul, zn_le, zn_lt, zn_eq, zn_lel, zn_ltl, zn_eql, zn_lle, zn_llt, zn_leq, zn_sub, zn_subl, zn_m1, gl_eq, bind2_some, bind3_some, Option.bind_some, bz_0, bz_1, ib_0, ib_1, ib_bz, rd_nI, rd_l, if_pos, if_neg, if_true, if_false, ite_true, ite_false, eq_self, j00, j10, j20, j30, k00, k01, k02, k03, i20, i30, km0, i10, i01, im0, im1, i0m, i1m]
      try rfl
  · have ha : gal NL 5 i = true := gal_al g1 hi
    refine ⟨_, _, K_thrown (k := 1) (r := 0) (X1 := X) (X2 := mset X 43 0 46 1) ?_ ?_ (mset_same ..) (by decide), gJ_th _ h⟩
    · simp (disch := omega) only [L_image, X9_image, X9_image_J24, X9_cellOf_no2 hL h4 hi ha f52 f53 h1, if_pos m1_neg, zn_add, zn_mul, zn_addl, zn_ladd, zn_mull, zn_lmul, zn_le, zn_lt, zn_eq, zn_lel, zn_ltl, zn_eql, zn_lle, zn_llt, zn_leq, zn_sub, zn_subl, zn_m1, gl_eq, bind2_some, bind3_some, Option.bind_some, bz_0, bz_1, ib_0, ib_1, ib_bz, rd_nI, rd_l, if_pos, if_neg, if_true, if_false, ite_true, ite_false, eq_self, j00, j10, j20, j30, k00, k01, k02, k03, i20, i30, km0, i10, i01, im0, im1, i0m, i1m]
      try rfl
    · simp (disch := omega) only [X10_image, X10_image_J21, X10_image_J42, X10_isCell_eq h430 hL hi f45 f46 kl kw, if_neg h1, mset_same, zn_add, zn_mul, zn_addl, zn_ladd, zn_mull, zn_lmul, zn_le, zn_lt, zn_eq, zn_lel, zn_ltl, zn_eql, zn_lle, zn_llt, zn_leq, zn_sub, zn_subl, zn_m1, gl_eq, bind2_some, bind3_some, Option.bind_some, bz_0, bz_1, ib_0, ib_1, ib_bz, rd_nI, rd_l, if_pos, if_neg, if_true, if_false, ite_true, ite_false, eq_self, j00, j10, j20, j30, k00, k01, k02, k03, i20, i30, km0, i10, i01, im0, im1, i0m, i1m]
      try rfl
  · have ha : gal NL 5 i = true := gal_al g1 hi
    have hlt := lw_lt hl hc
    have hle := lw_le kl kw
    have ha7 : gal NL 7 (32 * i + (l * w + c)) = true := gal7 g1 i ln w _ hi f45 f46 kl kw hlt
    have hcell : ir (nI l) ln ∧ ir (nI c) w := ⟨ir_nI (by omega) hl, ir_nI (by omega) hc⟩
    by_cases h4a : 0 ≤ a4 ∧ a4 ≤ 2
    · obtain ⟨t, ht, rfl⟩ := ir_ex (by omega) ((ir_3 _).mp h4a)
      by_cases h5 : -1 ≤ a5 ∧ a5 ≤ 162
      · obtain ⟨r1, r2, r3, r4⟩ := g3 i ln w hi f45 f46 kl kw l c hl hc
        obtain ⟨Y, y1, y2, y3, y4⟩ := X0_measure_eq (al := gal NL) (N := N) (a := 32 * i + (l * w + c)) (X := mset X 8 (32 * i + (l * w + c)) t a5) (by omega)
        have e1 : L_image (gal NL) N (nI i) (nI l) (nI c) (nI t) a5 X = some (0, mset Y 81 0 0 (Y 7 (32 * i + (l * w + c)) 4)) := by
          by_cases h6 : a5 = -1
          · simp (disch := omega) only [L_image, X9_image, X9_image_J58, X9_cellOf_yes hL h4 hi ha f52 f53 kw kl f6 hl hc, if_neg (zn_nn (a := 32 * i + (l * w + c)) (by omega)), dr_nI ha7 (by omega : 32 * i + (l * w + c) < 2147483648), X9_isWithin_eq, if_pos h4a, if_pos h6, zn_add, zn_mul, zn_addl, zn_ladd, zn_mull, zn_lmul, zn_le, zn_lt, zn_eq, zn_lel, zn_ltl, zn_eql, zn_lle, zn_llt, zn_leq, zn_sub, zn_subl, zn_m1, gl_eq, bind2_some, bind3_some, Option.bind_some, bz_0, bz_1, ib_0, ib_1, ib_bz, rd_nI, rd_l, if_pos, if_neg, if_true, if_false, ite_true, ite_false, eq_self, j00, j10, j20, j30, k00, k01, k02, k03, i20, i30, km0, i10, i01, im0, im1, i0m, i1m, y1]
          · have h7 : 0 ≤ a5 ∧ a5 ≤ 162 := ⟨by
              have q1 := Int32.le_iff_toInt_le.mp h5.1
              have q2 : (-1 : Int32).toInt = -1 := rfl
              have q3 : (0 : Int32).toInt = 0 := rfl
              rw [Int32.le_iff_toInt_le]
              have q4 : a5.toInt ≠ -1 := fun q => h6 (Int32.toInt_inj.mp (q.trans q2.symm))
              omega, h5.2⟩
            simp (disch := omega) only [L_image, X9_image, X9_image_J58, X9_cellOf_yes hL h4 hi ha f52 f53 kw kl f6 hl hc, if_neg (zn_nn (a := 32 * i + (l * w + c)) (by omega)), dr_nI ha7 (by omega : 32 * i + (l * w + c) < 2147483648), X9_isWithin_eq, if_pos h4a, if_neg h6, if_pos h7, zn_add, zn_mul, zn_addl, zn_ladd, zn_mull, zn_lmul, zn_le, zn_lt, zn_eq, zn_lel, zn_ltl, zn_eql, zn_lle, zn_llt, zn_leq, zn_sub, zn_subl, zn_m1, gl_eq, bind2_some, bind3_some, Option.bind_some, bz_0, bz_1, ib_0, ib_1, ib_bz, rd_nI, rd_l, if_pos, if_neg, if_true, if_false, ite_true, ite_false, eq_self, j00, j10, j20, j30, k00, k01, k02, k03, i20, i30, km0, i10, i01, im0, im1, i0m, i1m, y1]
        have hY : ∀ k p j, ¬ (k = 7 ∧ p = 32 * i + (l * w + c) ∧ (j = 3 ∨ j = 4)) → ¬ (k = 8) → Y k p j = X k p j := fun k p j q1 q2 => by
          rw [y2 k p j q1]
          simp [mset_at, mset_row, q2]
        generalize hv : Y 7 (32 * i + (l * w + c)) 4 = v at e1
        have x430 : (mset Y 81 0 0 v) 43 0 0 = nI L := by simp [mset_at, mset_row, h430, hY]
        have x45 : (mset Y 81 0 0 v) 45 0 i = nI ln := by simp [mset_at, mset_row, f45, hY]
        have x46 : (mset Y 81 0 0 v) 46 0 i = nI w := by simp [mset_at, mset_row, f46, hY]
        obtain ⟨Z, z1, z2, z3⟩ := X10_unmixes_eq (al := al) (N := N) (b := 32 * i + 8 * l + c) (X := mset (mset (mset Y 81 0 0 v) 43 0 46 0) 56 0 (3 * (32 * i + 8 * l + c) + t) a5) (by omega) (by omega)
        have e54 : (mset (mset (mset Y 81 0 0 v) 43 0 46 0) 56 0 (3 * (32 * i + 8 * l + c) + t) a5) 54 0 = X 54 0 := by funext j; simp [mset_at, mset_row, hY]
        have e55 : (mset (mset (mset Y 81 0 0 v) 43 0 46 0) 56 0 (3 * (32 * i + 8 * l + c) + t) a5) 55 0 = X 55 0 := by funext j; simp [mset_at, mset_row, hY]
        have e56 : ∀ j, (mset (mset (mset Y 81 0 0 v) 43 0 46 0) 56 0 (3 * (32 * i + 8 * l + c) + t) a5) 56 0 j = if j = 3 * (32 * i + 8 * l + c) + t then a5 else X 56 0 j := fun j => by
          simp [mset_at, mset_row, hY]
        have e8 : ∀ p j, Y 8 p j = if p = 32 * i + (l * w + c) ∧ j = t then a5 else X 8 p j := fun p j => by
          rw [y2 8 p j (by omega)]
          simp [mset_at, mset_row]
        have hm := mU_cg (im := (mset X 8 (32 * i + (l * w + c)) t a5) 8 (32 * i + (l * w + c))) (ov := (mset X 8 (32 * i + (l * w + c)) t a5) 2 0) (un := (mset X 8 (32 * i + (l * w + c)) t a5) 3 0) (im' := (mset (mset (mset Y 81 0 0 v) 43 0 46 0) 56 0 (3 * (32 * i + 8 * l + c) + t) a5) 56 0) (ov' := X 54 0) (un' := X 55 0) (b := 0) (b' := 32 * i + 8 * l + c) (fun k hk => by
          rw [e56, Nat.mul_zero, Nat.zero_add]
          by_cases hkt : k = t
          · subst hkt; simp [mset_at, mset_row]
          · rw [if_neg (by omega)]
            simpa [mset_at, mset_row, hkt] using r1 k hk) (fun k hk => by simpa [mset_at, mset_row] using (g11 k hk).1) (fun k hk => by simpa [mset_at, mset_row] using (g11 k hk).2)
        have hvv : v = mU ((mset (mset (mset Y 81 0 0 v) 43 0 46 0) 56 0 (3 * (32 * i + 8 * l + c) + t) a5) 56 0) (X 54 0) (X 55 0) (32 * i + 8 * l + c) := by
          refine hv.symm.trans (y4.trans hm.1)
        unfold mU at hvv
        rw [e54, e55] at z1 z3
        have e2 : X10_image al N (nI i) (nI l) (nI c) (nI t) a5 (mset Y 81 0 0 v) = some (v, Z) := by
          simp (disch := omega) only [X10_image, X10_image_J42, X10_image_J93, X10_isCell_eq x430 hL hi x45 x46 kl kw, if_pos hcell, X10_in_eq, if_pos h4a, if_pos h5, mset_same, X10_cellAt, zn_add, zn_mul, zn_addl, zn_ladd, zn_mull, zn_lmul, zn_le, zn_lt, zn_eq, zn_lel, zn_ltl, zn_eql, zn_lle, zn_llt, zn_leq, zn_sub, zn_subl, zn_m1, gl_eq, bind2_some, bind3_some, Option.bind_some, bz_0, bz_1, ib_0, ib_1, ib_bz, rd_nI, rd_l, if_pos, if_neg, if_true, if_false, ite_true, ite_false, eq_self, j00, j10, j20, j30, k00, k01, k02, k03, i20, i30, km0, i10, i01, im0, im1, i0m, i1m, z1]
          by_cases hcn : cntP (cmB ((mset (mset (mset Y 81 0 0 v) 43 0 46 0) 56 0 (3 * (32 * i + 8 * l + c) + t) a5) 56 0) (X 54 0) (X 55 0) (32 * i + 8 * l + c)) 100 = 1
          · rw [if_pos hcn] at hvv
            rw [if_pos hcn, (z3 (by omega)).2]
            exact congrArg (fun x => some (x, Z)) hvv.symm
          · rw [if_neg hcn] at hvv
            rw [if_neg hcn]
            exact congrArg (fun x => some (x, Z)) hvv.symm
        have hZ : ∀ k p j, ¬ (k = 7 ∧ p = 32 * i + (l * w + c) ∧ (j = 3 ∨ j = 4)) → ¬ (k = 8) → ¬ k = 56 → ¬ k = 81 → ¬ (k = 43 ∧ (j = 29 ∨ j = 30 ∨ j = 46)) → Z k p j = X k p j := fun k p j q1 q2 q3 q4 q5 => by
          rw [z2 k p j (by omega)]
          simp only [mset_at]
          rw [if_neg (by omega), if_neg (by omega), if_neg (by omega), hY k p j q1 q2]
        have z56 : ∀ j, Z 56 0 j = if j = 3 * (32 * i + 8 * l + c) + t then a5 else X 56 0 j := fun j => by
          rw [z2 56 0 j (by omega), e56]
        have z8 : ∀ p j, Z 8 p j = if p = 32 * i + (l * w + c) ∧ j = t then a5 else X 8 p j := fun p j => by
          rw [z2 8 p j (by omega)]
          simp [mset_at, mset_row, e8]
        refine ⟨_, _, K_ans e1 e2 ?_ ?_, ?_⟩
        · rw [z2 43 0 46 (by omega)]; simp [mset_at, mset_row]
        · rw [z2 81 0 0 (by omega)]; simp [mset_at, mset_row]
        · refine ⟨L, F, D, W, K, jN_cg ?_ g1, jL_cg ?_ g2, ?_, ?_, jH_cg ?_ g5, jB_cg ?_ g6, jF_cg ?_ g7, jD_cg ?_ g8, jW_cg ?_ g9, jK_cg ?_ g10, jI_cg ?_ g11, jS_cg ?_ g12⟩
          rotate_left 2
          · intro i' ln' w' hi' k45 k46 kl' kw' l' c' hl' hc'
            have q45 : X 45 0 i' = nI ln' := by rw [← k45, hZ 45 0 i' (by omega) (by omega) (by omega) (by omega) (by omega)]
            have q46 : X 46 0 i' = nI w' := by rw [← k46, hZ 46 0 i' (by omega) (by omega) (by omega) (by omega) (by omega)]
            obtain ⟨u1, u2, u3, u4⟩ := g3 i' ln' w' hi' q45 q46 kl' kw' l' c' hl' hc'
            have z54 : Z 54 0 = X 54 0 := funext fun j => hZ 54 0 j (by omega) (by omega) (by omega) (by omega) (by omega)
            have z55 : Z 55 0 = X 55 0 := funext fun j => hZ 55 0 j (by omega) (by omega) (by omega) (by omega) (by omega)
            have hlt' := lw_lt hl' hc'
            have hle' := lw_le kl' kw'
            by_cases hsame : i' = i ∧ l' = l ∧ c' = c
            · obtain ⟨rfl, rfl, rfl⟩ := hsame
              have hw : w' = w := (zn_eq (by omega) (by omega)).mp (q46.symm.trans f46)
              subst hw
              refine ⟨fun k hk => ?_, ?_, ?_, fun s hs => ?_⟩
              · rw [z8, z56]
                by_cases hkt : k = t
                · rw [if_pos ⟨rfl, hkt⟩, if_pos (by omega)]
                · rw [if_neg (by omega), if_neg (by omega)]; exact u1 k hk
              · rw [z2 7 _ 3 (by omega), z54, z55]
                have : Z 56 0 = (mset (mset (mset Y 81 0 0 v) 43 0 46 0) 56 0 (3 * (32 * i' + 8 * l' + c') + t) a5) 56 0 := funext fun j => z2 56 0 j (by omega)
                rw [this, ← hm.2, ← y3]; simp [mset_at, mset_row]
              · rw [z2 7 _ 4 (by omega), z54, z55]
                have : Z 56 0 = (mset (mset (mset Y 81 0 0 v) 43 0 46 0) 56 0 (3 * (32 * i' + 8 * l' + c') + t) a5) 56 0 := funext fun j => z2 56 0 j (by omega)
                rw [this, ← hm.1, ← y4]; simp [mset_at, mset_row]
              · exact sR_cg (fun j => hZ 9 _ _ (by omega) (by omega) (by omega) (by omega) (by omega)) (fun j => hZ 10 _ _ (by omega) (by omega) (by omega) (by omega) (by omega)) (fun j => hZ 57 _ _ (by omega) (by omega) (by omega) (by omega) (by omega)) (u4 s hs)
            · have hab : 32 * i' + (l' * w' + c') ≠ 32 * i + (l * w + c) ∧ 32 * i' + 8 * l' + c' ≠ 32 * i + 8 * l + c := by
                refine ⟨fun q => ?_, fun q => ?_⟩
                · have hii : i' = i := by omega
                  subst hii
                  have hw : w' = w := (zn_eq (by omega) (by omega)).mp (q46.symm.trans f46)
                  subst hw
                  have := lw_inj hc' hc (by omega : l' * w' + c' = l * w' + c)
                  exact hsame ⟨rfl, this.1, this.2⟩
                · exact hsame ⟨by omega, by omega, by omega⟩
              have hb56 : ∀ k, k < 3 → Z 56 0 (3 * (32 * i' + 8 * l' + c') + k) = X 56 0 (3 * (32 * i' + 8 * l' + c') + k) := fun k hk => by
                rw [z56, if_neg]
                have := hab.2
                omega
              have hmm := mU_cg (im := Z 56 0) (im' := X 56 0) (ov := X 54 0) (un := X 55 0) (b := 32 * i' + 8 * l' + c') hb56 (fun _ _ => rfl) (fun _ _ => rfl)
              refine ⟨fun k hk => ?_, ?_, ?_, fun s hs => ?_⟩
              · rw [z8, if_neg (fun q => hab.1 q.1), hb56 k hk]; exact u1 k hk
              · rw [hZ 7 _ 3 (by omega) (by omega) (by omega) (by omega) (by omega), z54, z55, hmm.2]; exact u2
              · rw [hZ 7 _ 4 (by omega) (by omega) (by omega) (by omega) (by omega), z54, z55, hmm.1]; exact u3
              · exact sR_cg (fun j => hZ 9 _ _ (by omega) (by omega) (by omega) (by omega) (by omega)) (fun j => hZ 10 _ _ (by omega) (by omega) (by omega) (by omega) (by omega)) (fun j => hZ 57 _ _ (by omega) (by omega) (by omega) (by omega) (by omega)) (u4 s hs)
          · intro i' hLi hi'
            obtain ⟨u1, u2, u3, u4⟩ := g4 i' hLi hi'
            refine ⟨fun c' hc' => ⟨fun k hk => ?_, fun s k hs hk => ?_⟩, fun k hk => ?_, ?_, ?_⟩
            · rw [z56, if_neg (by omega)]; exact (u1 c' hc').1 k hk
            · rw [hZ 57 _ _ (by omega) (by omega) (by omega) (by omega) (by omega)]; exact (u1 c' hc').2 s k hs hk
            · rw [hZ 49 _ _ (by omega) (by omega) (by omega) (by omega) (by omega)]; exact u2 k hk
            · rw [hZ 50 _ _ (by omega) (by omega) (by omega) (by omega) (by omega)]; exact u3
            · rw [hZ 51 _ _ (by omega) (by omega) (by omega) (by omega) (by omega)]; exact u4
          all_goals
            intro k p j hd
            have hz : ¬ k = 7 ∧ ¬ k = 8 ∧ ¬ k = 56 ∧ ¬ k = 81 ∧ ¬ (k = 43 ∧ (j = 29 ∨ j = 30 ∨ j = 46)) := by
              refine ⟨?_, ?_, ?_, ?_, ?_⟩
              all_goals
                intro hk
                first
                  | (subst hk; simp [djN, djL, djC, djZ, djH, djB, djF, djD, djW, djK, djI, djS] at hd; done)
                  | (obtain ⟨rfl, hk⟩ := hk; simp [djN, djL, djC, djZ, djH, djB, djF, djD, djW, djK, djI, djS] at hd; omega)
                  | (obtain ⟨rfl, hk⟩ := hk; simp [djN, djL, djC, djZ, djH, djB, djF, djD, djW, djK, djI, djS] at hd; done)
            obtain ⟨w1, w2, w3, w4, w5⟩ := hz
            exact hZ k p j (fun q => w1 q.1) w2 w3 w4 w5
      · have h5' : ¬ (0 ≤ a5 ∧ a5 ≤ 162) := fun q => h5 ⟨Int32.le_trans (by decide) q.1, q.2⟩
        have h6 : ¬ a5 = -1 := fun q => h5 (by subst q; decide)
        refine ⟨_, _, K_thrown (k := 2) (r := 0) (X1 := X) (X2 := mset X 43 0 46 2) ?_ ?_ (mset_same ..) (by decide), gJ_th _ h⟩
        · simp (disch := omega) only [L_image, X9_image, X9_cellOf_yes hL h4 hi ha f52 f53 kw kl f6 hl hc, if_neg (zn_nn (a := 32 * i + (l * w + c)) (by omega)), X9_isWithin_eq, if_pos h4a, if_neg h5', if_neg h6, zn_add, zn_mul, zn_addl, zn_ladd, zn_mull, zn_lmul, zn_le, zn_lt, zn_eq, zn_lel, zn_ltl, zn_eql, zn_lle, zn_llt, zn_leq, zn_sub, zn_subl, zn_m1, gl_eq, bind2_some, bind3_some, Option.bind_some, bz_0, bz_1, ib_0, ib_1, ib_bz, rd_nI, rd_l, if_pos, if_neg, if_true, if_false, ite_true, ite_false, eq_self, j00, j10, j20, j30, k00, k01, k02, k03, i20, i30, km0, i10, i01, im0, im1, i0m, i1m]
          try rfl
        · simp (disch := omega) only [X10_image, X10_image_J42, X10_isCell_eq h430 hL hi f45 f46 kl kw, if_pos hcell, X10_in_eq, if_pos h4a, if_neg h5, mset_same, zn_add, zn_mul, zn_addl, zn_ladd, zn_mull, zn_lmul, zn_le, zn_lt, zn_eq, zn_lel, zn_ltl, zn_eql, zn_lle, zn_llt, zn_leq, zn_sub, zn_subl, zn_m1, gl_eq, bind2_some, bind3_some, Option.bind_some, bz_0, bz_1, ib_0, ib_1, ib_bz, rd_nI, rd_l, if_pos, if_neg, if_true, if_false, ite_true, ite_false, eq_self, j00, j10, j20, j30, k00, k01, k02, k03, i20, i30, km0, i10, i01, im0, im1, i0m, i1m]
          try rfl
    · refine ⟨_, _, K_thrown (k := 1) (r := 0) (X1 := X) (X2 := mset X 43 0 46 1) ?_ ?_ (mset_same ..) (by decide), gJ_th _ h⟩
      · simp (disch := omega) only [L_image, X9_image, X9_image_J24, X9_cellOf_yes hL h4 hi ha f52 f53 kw kl f6 hl hc, if_neg (zn_nn (a := 32 * i + (l * w + c)) (by omega)), X9_isWithin_eq, if_neg h4a, zn_add, zn_mul, zn_addl, zn_ladd, zn_mull, zn_lmul, zn_le, zn_lt, zn_eq, zn_lel, zn_ltl, zn_eql, zn_lle, zn_llt, zn_leq, zn_sub, zn_subl, zn_m1, gl_eq, bind2_some, bind3_some, Option.bind_some, bz_0, bz_1, ib_0, ib_1, ib_bz, rd_nI, rd_l, if_pos, if_neg, if_true, if_false, ite_true, ite_false, eq_self, j00, j10, j20, j30, k00, k01, k02, k03, i20, i30, km0, i10, i01, im0, im1, i0m, i1m]
        try rfl
      · simp (disch := omega) only [X10_image, X10_image_J21, X10_image_J42, X10_isCell_eq h430 hL hi f45 f46 kl kw, if_pos hcell, X10_in_eq, if_neg h4a, mset_same, zn_add, zn_mul, zn_addl, zn_ladd, zn_mull, zn_lmul, zn_le, zn_lt, zn_eq, zn_lel, zn_ltl, zn_eql, zn_lle, zn_llt, zn_leq, zn_sub, zn_subl, zn_m1, gl_eq, bind2_some, bind3_some, Option.bind_some, bz_0, bz_1, ib_0, ib_1, ib_bz, rd_nI, rd_l, if_pos, if_neg, if_true, if_false, ite_true, ite_false, eq_self, j00, j10, j20, j30, k00, k01, k02, k03, i20, i30, km0, i10, i01, im0, im1, i0m, i1m]
        try rfl
