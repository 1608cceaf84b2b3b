/-! the cases hand and handOf -/
theorem hands_of {L : Nat} {X : gM} (g2 : jL L X) (g5 : jH X) : ∃ h s, hM 10 X h s ∧ hC L X h s := by
  obtain ⟨hL, h430, h002, h4, hlf⟩ := g2
  have hm : hM 10 X (fun i k => (X 49 0 (3 * i + k)).toNatClampNeg) (fun i => (X 50 0 i).toNatClampNeg) := by
    intro i hi
    obtain ⟨q1, v, hv, q2⟩ := g5 i hi
    refine ⟨fun k hk => ?_, ?_, ?_⟩
    · obtain ⟨u, hu, q3⟩ := q1 k hk
      show (X 49 0 (3 * i + k)).toNatClampNeg ≤ 20 ∧ X 49 0 (3 * i + k) = nI (X 49 0 (3 * i + k)).toNatClampNeg
      rw [q3, zn_tN (by omega)]
      exact ⟨hu, rfl⟩
    · show (X 50 0 i).toNatClampNeg ≤ 3
      rw [q2, zn_tN (by omega)]; exact hv
    · show X 50 0 i = nI (X 50 0 i).toNatClampNeg
      rw [q2, zn_tN (by omega)]
  refine ⟨_, _, hm, fun i hi => ?_⟩
  obtain ⟨b, ln, w, hb, l1, l2, w1, w2, f44, f45, f46, f50, f51, f52, f53, f6, f55, f55b, f56, f56b, f57, f58, f59, f510, -⟩ := hlf i hi
  obtain ⟨q1, q2, q3⟩ := hm i (by omega)
  refine ⟨fun k hk => (q1 k hk).1, ?_, ?_, ?_, q2, ?_⟩
  · rw [f57]; exact (q1 0 (by omega)).2
  · rw [f58]; exact (q1 1 (by omega)).2
  · rw [f59]; exact (q1 2 (by omega)).2
  · rw [f510]; exact q3
theorem hM_cg {n : Nat} {X Y : gM} {h : Nat → Nat → Nat} {s : Nat → Nat} (e49 : ∀ j, Y 49 0 j = X 49 0 j) (e50 : ∀ j, Y 50 0 j = X 50 0 j) (g : hM n X h s) : hM n Y h s := fun i hi => by
  obtain ⟨q1, q2, q3⟩ := g i hi
  exact ⟨fun k hk => ⟨(q1 k hk).1, (e49 _).trans (q1 k hk).2⟩, q2, (e50 _).trans q3⟩
theorem hM_le {n m : Nat} {X : gM} {h : Nat → Nat → Nat} {s : Nat → Nat} (g : hM n X h s) (hm : m ≤ n) : hM m X h s := fun i hi => g i (by omega)
theorem case18 {NL : List (Nat × Nat)} {al : Nat → Nat → Bool} {N : Nat} {X : gM} (hN : 1000000 ≤ N) (a1 a2 a3 a4 a5 a6 : Int32) (h : gJ NL X) : ∃ (rr : Int32) (X' : gM), K18 (gal NL) al N [] a1 a2 a3 a4 a5 a6 X = some (rr, X') ∧ gJ NL X' := by
  unfold K18
  rw [eqn_nil, Option.bind_some]
  obtain ⟨L, F, D, W, K, g1, g2, g3, g4, g5, g6, g7, g8, g9, g10, g11, g12⟩ := id h
  obtain ⟨hL, h430, h002, h4, hlf⟩ := id g2
  rcases ir_or a1 (n := L) (by omega) with ⟨i, hi, rfl⟩ | h1
  · obtain ⟨hh, ss, hm, hc⟩ := hands_of g2 g5
    have hal : ∀ i, i < L → gal NL 5 i = true := fun i hi => gal_al g1 hi
    have h50 : ∀ i, i < L → X 5 i 0 = nI i := fun i hi => by
      obtain ⟨b, ln, w, hb, l1, l2, w1, w2, f44, f45, f46, f50, -⟩ := hlf i hi
      exact f50
    obtain ⟨Y, f, y1, y2, y3, y4⟩ := X9_settleHands_eq (al := gal NL) (N := N) (by omega) hL h4 h50 hal hc
    have e1 : L_handOf (gal NL) N (nI i) X = some (0, mset Y 81 0 0 (nI (f i))) := by
      have r1 : Y 5 i 0 = nI i := (y2 5 i 0 (by omega)).trans (h50 i hi)
      simp (disch := omega) only [L_handOf, X9_handOf, X9_leafOf_yes hL h4 hi, if_neg (zn_nn (a := i) (by omega)), y1, dr_nI (hal i hi) (by omega : i < 2147483648), r1, y3 i hi, zn_add, zn_mul, zn_addl, zn_ladd, zn_mull, zn_lmul, zn_le, zn_lt, zn_eq, zn_lel, zn_ltl, zn_eql, zn_lle, zn_llt, zn_leq, zn_sub, zn_subl, zn_m1, gl_eq, bind2_some, bind3_some, Option.bind_some, bz_0, bz_1, ib_0, ib_1, ib_bz, rd_nI, rd_l, if_pos, if_neg, if_true, if_false, ite_true, ite_false, eq_self, j00, j10, j20, j30, k00, k01, k02, k03, i20, i30, km0, i10, i01, im0, im1, i0m, i1m]
    obtain ⟨Z, f', z1, z2, z3, z4⟩ := X10_findsHands_eq (al := al) (N := N) (n := L) (X := mset (mset Y 81 0 0 (nI (f i))) 43 0 46 0) (h := hh) (s := ss) (by omega) hL (by simp [mset_at, y2, h430])
      (hM_cg (fun j => by simp [mset_at, y2]) (fun j => by simp [mset_at, y2]) (hM_le hm hL))
    have e2 : X10_handOf al N (nI i) (mset Y 81 0 0 (nI (f i))) = some (nI (f' i), Z) := by
      have r1 : (mset Y 81 0 0 (nI (f i))) 43 0 0 = nI L := by simp [mset_at, y2, h430]
      simp (disch := omega) only [X10_handOf, X10_handOf_J14, X10_isLeaf_eq al N _ r1 (by omega : L < 2147483648), if_pos (ir_nI (by omega) hi : ir (nI i) L), mset_same, z1, z3 i hi, zn_add, zn_mul, zn_addl, zn_ladd, zn_mull, zn_lmul, zn_le, zn_lt, zn_eq, zn_lel, zn_ltl, zn_eql, zn_lle, zn_llt, zn_leq, zn_sub, zn_subl, zn_m1, gl_eq, bind2_some, bind3_some, Option.bind_some, bz_0, bz_1, ib_0, ib_1, ib_bz, rd_nI, rd_l, if_pos, if_neg, if_true, if_false, ite_true, ite_false, eq_self, j00, j10, j20, j30, k00, k01, k02, k03, i20, i30, km0, i10, i01, im0, im1, i0m, i1m]
    refine ⟨0, Z, K_ans e1 e2 ?_ ?_, gJ_sm (fun k q j hs => ?_) h⟩
    · rw [z2 43 0 46 (by omega), mset_same]
    · rw [z2 81 0 0 (by omega), finR_eq z4 y4 hi]; simp [mset_at]
    · have hz : ¬ (k = 78 ∨ k = 81 ∨ k = 42 ∨ (k = 43 ∧ j = 46)) := by
        rintro (rfl | rfl | rfl | ⟨rfl, rfl⟩) <;> simp [scr] at hs
      rw [z2 k q j (by omega)]
      simp only [mset_at]
      rw [if_neg (by omega), if_neg (by omega), y2 k q j (by omega)]
  · refine ⟨_, _, K_thrown (k := 1) (r := 0) (X1 := X) (X2 := mset X 43 0 46 1) ?_ ?_ (mset_same ..) (by decide), gJ_th _ h⟩
    · simp (disch := omega) only [L_handOf, X9_handOf, X9_leafOf_no hL h4 h1, zn_add, zn_mul, zn_addl, zn_ladd, zn_mull, zn_lmul, zn_le, zn_lt, zn_eq, zn_lel, zn_ltl, zn_eql, zn_lle, zn_llt, zn_leq, zn_sub, zn_subl, zn_m1, gl_eq, bind2_some, bind3_some, Option.bind_some, bz_0, bz_1, ib_0, ib_1, ib_bz, rd_nI, rd_l, if_pos, if_neg, if_true, if_false, ite_true, ite_false, eq_self, j00, j10, j20, j30, k00, k01, k02, k03, i20, i30, km0, i10, i01, im0, im1, i0m, i1m]
      try rfl
    · simp (disch := omega) only [X10_handOf, X10_handOf_J14, X10_isLeaf_eq al N _ h430 (by omega : L < 2147483648), if_neg h1, mset_same, zn_add, zn_mul, zn_addl, zn_ladd, zn_mull, zn_lmul, zn_le, zn_lt, zn_eq, zn_lel, zn_ltl, zn_eql, zn_lle, zn_llt, zn_leq, zn_sub, zn_subl, zn_m1, gl_eq, bind2_some, bind3_some, Option.bind_some, bz_0, bz_1, ib_0, ib_1, ib_bz, rd_nI, rd_l, if_pos, if_neg, if_true, if_false, ite_true, ite_false, eq_self, j00, j10, j20, j30, k00, k01, k02, k03, i20, i30, km0, i10, i01, im0, im1, i0m, i1m]
      try rfl
theorem cntP_ext {P : Nat → Bool} {n m : Nat} (hnm : n ≤ m) (h : ∀ k, n ≤ k → k < m → P k = false) : cntP P m = cntP P n := by
  induction m with
  | zero => have : n = 0 := by omega
            subst this; rfl
  | succ m ih =>
    by_cases hn : n = m + 1
    · subst hn; rfl
    · have e : cntP P (m + 1) = cntP P m + (if P m = true then 1 else 0) := rfl
      rw [e, ih (by omega) (fun k h1 h2 => h k h1 (by omega)), h m (by omega) (by omega)]
      rfl
theorem cntP_t {P : Nat → Bool} {n : Nat} (h : P n = true) : cntP P (n + 1) = cntP P n + 1 := by
  have e : cntP P (n + 1) = cntP P n + (if P n = true then 1 else 0) := rfl
  rw [e, if_pos h]
theorem cntP_f {P : Nat → Bool} {n : Nat} (h : P n = false) : cntP P (n + 1) = cntP P n := by
  have e : cntP P (n + 1) = cntP P n + (if P n = true then 1 else 0) := rfl
  rw [e, h]; rfl
/-- how many hands: the class -/
theorem X9_hand_cnt {al : Nat → Nat → Bool} {N n : Nat} {X : gM} {f : Nat → Nat} (hN : 1000 ≤ N) (hn : n ≤ 10) (h4 : ∀ j, X 4 0 j = if j < n then nI j else -1) (h5 : ∀ i, i < n → X 5 i 0 = nI i) (hal : ∀ i, i < n → al 5 i = true) (hf : rtC n X f) (hfl : ∀ k, k < n → f k ≤ k) :
    X9_hand_L124 al N (fun p7 Y => X9_hand_J170 al N p7 Y) N 0 10 0 X = some (0, nI (cntP (fun k => decide (k < n ∧ f k = k)) 10), X) := by
  refine m_up0 10 (fun fu i (s : Int32 × gM) => X9_hand_L124 al N (fun p7 Y => X9_hand_J170 al N p7 Y) fu s.1 10 i s.2) (fun i s => s = (nI (cntP (fun k => decide (k < n ∧ f k = k)) i), X)) (fun o => o = some (0, nI (cntP (fun k => decide (k < n ∧ f k = k)) 10), X)) (0, X) (by omega) ?_ ?_ rfl
  · rintro i fu s hi rfl ih
    have ih := ih _ rfl
    have hle := cntP_le (fun k => decide (k < n ∧ f k = k)) i
    dsimp only at ih
    simp (disch := omega) only [X9_hand_L124, X9_hand_J164, h4, zn_add, zn_mul, zn_addl, zn_ladd, zn_mull, zn_lmul, zn_le, zn_lt, zn_eq, zn_lel, zn_ltl, zn_eql, zn_lle, zn_llt, zn_leq, zn_sub, zn_subl, zn_m1, gl_eq, bind2_some, bind3_some, Option.bind_some, bz_0, bz_1, ib_0, ib_1, ib_bz, rd_nI, rd_l, if_pos, if_neg, if_true, if_false, ite_true, ite_false, eq_self, j00, j10, j20, j30, k00, k01, k02, k03, i20, i30, km0, i10, i01, im0, im1, i0m, i1m]
    by_cases hin : i < n
    · have := hfl i hin
      simp (disch := omega) only [if_pos hin, if_neg (zn_nn (a := i) (by omega)), dr_nI (hal i hin) (by omega : i < 2147483648), h5 i hin, hf i hin, zn_add, zn_mul, zn_addl, zn_ladd, zn_mull, zn_lmul, zn_le, zn_lt, zn_eq, zn_lel, zn_ltl, zn_eql, zn_lle, zn_llt, zn_leq, zn_sub, zn_subl, zn_m1, gl_eq, bind2_some, bind3_some, Option.bind_some, bz_0, bz_1, ib_0, ib_1, ib_bz, rd_nI, rd_l, if_pos, if_neg, if_true, if_false, ite_true, ite_false, eq_self, j00, j10, j20, j30, k00, k01, k02, k03, i20, i30, km0, i10, i01, im0, im1, i0m, i1m]
      by_cases he : f i = i
      · rw [if_pos he]
        rw [cntP_t (P := fun k => decide (k < n ∧ f k = k)) (decide_eq_true (⟨hin, he⟩ : i < n ∧ f i = i))] at ih
        exact ih
      · rw [if_neg he]
        rw [cntP_f (P := fun k => decide (k < n ∧ f k = k)) (decide_eq_false (fun q => he q.2 : ¬ (i < n ∧ f i = i)))] at ih
        exact ih
    · simp (disch := omega) only [if_neg hin, zn_add, zn_mul, zn_addl, zn_ladd, zn_mull, zn_lmul, zn_le, zn_lt, zn_eq, zn_lel, zn_ltl, zn_eql, zn_lle, zn_llt, zn_leq, zn_sub, zn_subl, zn_m1, gl_eq, bind2_some, bind3_some, Option.bind_some, bz_0, bz_1, ib_0, ib_1, ib_bz, rd_nI, rd_l, if_pos, if_neg, if_true, if_false, ite_true, ite_false, eq_self, j00, j10, j20, j30, k00, k01, k02, k03, i20, i30, km0, i10, i01, im0, im1, i0m, i1m]
      rw [cntP_f (P := fun k => decide (k < n ∧ f k = k)) (decide_eq_false (fun q => hin q.1 : ¬ (i < n ∧ f i = i)))] at ih
      exact ih
  · rintro fu s rfl
    simp (disch := omega) only [X9_hand_L124, X9_hand_J170, zn_add, zn_mul, zn_addl, zn_ladd, zn_mull, zn_lmul, zn_le, zn_lt, zn_eq, zn_lel, zn_ltl, zn_eql, zn_lle, zn_llt, zn_leq, zn_sub, zn_subl, zn_m1, gl_eq, bind2_some, bind3_some, Option.bind_some, bz_0, bz_1, ib_0, ib_1, ib_bz, rd_nI, rd_l, if_pos, if_neg, if_true, if_false, ite_true, ite_false, eq_self, j00, j10, j20, j30, k00, k01, k02, k03, i20, i30, km0, i10, i01, im0, im1, i0m, i1m]
theorem X10_hand_cnt {al : Nat → Nat → Bool} {N n : Nat} {X : gM} {f : Nat → Nat} (hN : 1000 ≤ N) (hn : n ≤ 10) (hL : X 43 0 0 = nI n) (hf : rtM n X f) (hfl : ∀ k, k < n → f k ≤ k) :
    X10_hand_L121 al N (fun p6 Y => X10_hand_J158 al N p6 Y) N 0 0 X = some (nI (cntP (fun k => decide (k < n ∧ f k = k)) n), X) := by
  refine m_up0 n (fun fu i (s : Int32 × gM) => X10_hand_L121 al N (fun p7 Y => X10_hand_J158 al N p7 Y) fu s.1 i s.2) (fun i s => s = (nI (cntP (fun k => decide (k < n ∧ f k = k)) i), X)) (fun o => o = some (nI (cntP (fun k => decide (k < n ∧ f k = k)) n), X)) (0, X) (by omega) ?_ ?_ rfl
  · rintro i fu s hin rfl ih
    have ih := ih _ rfl
    have hle := cntP_le (fun k => decide (k < n ∧ f k = k)) i
    have := hfl i hin
    dsimp only at ih
    simp (disch := omega) only [X10_hand_L121, X10_hand_J149, hL, hf i hin, zn_add, zn_mul, zn_addl, zn_ladd, zn_mull, zn_lmul, zn_le, zn_lt, zn_eq, zn_lel, zn_ltl, zn_eql, zn_lle, zn_llt, zn_leq, zn_sub, zn_subl, zn_m1, gl_eq, bind2_some, bind3_some, Option.bind_some, bz_0, bz_1, ib_0, ib_1, ib_bz, rd_nI, rd_l, if_pos, if_neg, if_true, if_false, ite_true, ite_false, eq_self, j00, j10, j20, j30, k00, k01, k02, k03, i20, i30, km0, i10, i01, im0, im1, i0m, i1m]
    by_cases he : f i = i
    · rw [if_pos he]
      rw [cntP_t (P := fun k => decide (k < n ∧ f k = k)) (decide_eq_true (⟨hin, he⟩ : i < n ∧ f i = i))] at ih
      exact ih
    · rw [if_neg he]
      rw [cntP_f (P := fun k => decide (k < n ∧ f k = k)) (decide_eq_false (fun q => he q.2 : ¬ (i < n ∧ f i = i)))] at ih
      exact ih
  · rintro fu s rfl
    simp (disch := omega) only [X10_hand_L121, X10_hand_J158, hL, zn_add, zn_mul, zn_addl, zn_ladd, zn_mull, zn_lmul, zn_le, zn_lt, zn_eq, zn_lel, zn_ltl, zn_eql, zn_lle, zn_llt, zn_leq, zn_sub, zn_subl, zn_m1, gl_eq, bind2_some, bind3_some, Option.bind_some, bz_0, bz_1, ib_0, ib_1, ib_bz, rd_nI, rd_l, if_pos, if_neg, if_true, if_false, ite_true, ite_false, eq_self, j00, j10, j20, j30, k00, k01, k02, k03, i20, i30, km0, i10, i01, im0, im1, i0m, i1m]
theorem case17 {NL : List (Nat × Nat)} {al : Nat → Nat → Bool} {N : Nat} {X : gM} (hN : 1000000 ≤ N) (a1 a2 a3 a4 a5 a6 : Int32) (h : gJ NL X) : ∃ (rr : Int32) (X' : gM), K17 (gal NL) al N [] a1 a2 a3 a4 a5 a6 X = some (rr, X') ∧ gJ NL X' := by
  unfold K17
  rw [eqn_nil, Option.bind_some]
  obtain ⟨L, F, D, W, K, g1, g2, g3, g4, g5, g6, g7, g8, g9, g10, g11, g12⟩ := id h
  obtain ⟨hL, h430, h002, h4, hlf⟩ := id g2
  rcases ir_or a1 (n := L) (by omega) with ⟨i, hi, rfl⟩ | h1
  · have hil : ir (nI i) L := ir_nI (by omega) hi
    by_cases c2 : 0 ≤ a2 ∧ a2 ≤ 20
    · by_cases c3 : 0 ≤ a3 ∧ a3 ≤ 20
      · by_cases c4 : 0 ≤ a4 ∧ a4 ≤ 20
        · by_cases c5 : 0 ≤ a5 ∧ a5 ≤ 3
          · obtain ⟨v2, w2, rfl⟩ : ∃ v, v < 21 ∧ a2 = nI v := ir_ex (by omega) ((ir_le a2 20 (by omega)).mp c2)
            obtain ⟨v3, w3, rfl⟩ : ∃ v, v < 21 ∧ a3 = nI v := ir_ex (by omega) ((ir_le a3 20 (by omega)).mp c3)
            obtain ⟨v4, w4, rfl⟩ : ∃ v, v < 21 ∧ a4 = nI v := ir_ex (by omega) ((ir_le a4 20 (by omega)).mp c4)
            obtain ⟨v5, w5, rfl⟩ : ∃ v, v < 4 ∧ a5 = nI v := ir_ex (by omega) ((ir_le a5 3 (by omega)).mp c5)
            obtain ⟨hh, ss, hm, hc⟩ := hands_of g2 g5
            have hal : ∀ i, i < L → gal NL 5 i = true := fun i hi => gal_al g1 hi
            have h50 : ∀ i, i < L → X 5 i 0 = nI i := fun i hi => by
              obtain ⟨b, ln, w, hb, l1, l2, w1, w2, f44, f45, f46, f50, -⟩ := hlf i hi
              exact f50
            generalize hX1 : mset (mset (mset (mset X 5 i 7 (nI v2)) 5 i 8 (nI v3)) 5 i 9 (nI v4)) 5 i 10 (nI v5) = X1
            have x1 : ∀ k p j, ¬ (k = 5 ∧ p = i ∧ 7 ≤ j ∧ j ≤ 10) → X1 k p j = X k p j := fun k p j hk => by
              rw [← hX1]
              simp only [mset_at]
              rw [if_neg (by omega), if_neg (by omega), if_neg (by omega), if_neg (by omega)]
            have hc1 : hC L X1 (fun i' k => if i' = i then (if k = 0 then v2 else if k = 1 then v3 else v4) else hh i' k) (fun i' => if i' = i then v5 else ss i') := by
              intro i' hi'
              by_cases hii : i' = i
              · subst hii
                rw [← hX1]
                refine ⟨fun k hk => ?_, by simp [mset_at], by simp [mset_at], by simp [mset_at], by simp; omega, by simp [mset_at]⟩
                simp only [if_true]
                by_cases hk0 : k = 0
                · rw [if_pos hk0]; omega
                · rw [if_neg hk0]
                  by_cases hk1 : k = 1
                  · rw [if_pos hk1]; omega
                  · rw [if_neg hk1]; omega
              · obtain ⟨q1, q2, q3, q4, q5, q6⟩ := hc i' hi'
                simp only [if_neg hii]
                exact ⟨q1, (x1 5 i' 7 (by omega)).trans q2, (x1 5 i' 8 (by omega)).trans q3, (x1 5 i' 9 (by omega)).trans q4, q5, (x1 5 i' 10 (by omega)).trans q6⟩
            obtain ⟨Y, f, y1, y2, y3, y4⟩ := X9_settleHands_eq (al := gal NL) (N := N) (X := X1) (by omega) hL (fun j => (x1 4 0 j (by omega)).trans (h4 j)) (fun i' hi' => (x1 5 i' 0 (by omega)).trans (h50 i' hi')) hal hc1
            have hcnt := X9_hand_cnt (al := gal NL) (N := N) (n := L) (X := Y) (f := f) (by omega) hL (fun j => (y2 4 0 j (by omega)).trans ((x1 4 0 j (by omega)).trans (h4 j))) (fun i' hi' => (y2 5 i' 0 (by omega)).trans ((x1 5 i' 0 (by omega)).trans (h50 i' hi'))) hal y3 (fun k hk => (y4.1 k hk).1)
            generalize hv : nI (cntP (fun k => decide (k < L ∧ f k = k)) 10) = v at hcnt
            have e1 : L_hand (gal NL) N (nI i) (nI v2) (nI v3) (nI v4) (nI v5) X = some (0, mset Y 81 0 0 v) := by
              unfold L_hand X9_hand
              simp (disch := omega) only [X9_leafOf_yes hL h4 hi, if_neg (zn_nn (a := i) (by omega)), X9_isWithin_eq, if_pos c2, if_pos c3, if_pos c4, if_pos c5, dr_nI (hal i hi) (by omega : i < 2147483648), bind2_some, ib_0, gl_eq, Option.bind_some, hX1, y1, hcnt, bind3_some, i10, if_false, if_true]
            generalize hX2 : mset (mset (mset (mset (mset (mset Y 81 0 0 v) 43 0 46 0) 49 0 (3 * i) (nI v2)) 49 0 (3 * i + 1) (nI v3)) 49 0 (3 * i + 2) (nI v4)) 50 0 i (nI v5) = X2
            have x2 : ∀ k p j, ¬ (k = 81 ∨ (k = 43 ∧ j = 46) ∨ (k = 49 ∧ 3 * i ≤ j ∧ j < 3 * i + 3) ∨ (k = 50 ∧ j = i)) → X2 k p j = Y k p j := fun k p j hk => by
              rw [← hX2]
              simp only [mset_at]
              rw [if_neg (by omega), if_neg (by omega), if_neg (by omega), if_neg (by omega), if_neg (by omega), if_neg (by omega)]
            have m49 : ∀ i' k, k < 3 → X2 49 0 (3 * i' + k) = if i' = i then nI (if k = 0 then v2 else if k = 1 then v3 else v4) else X 49 0 (3 * i' + k) := by
              intro i' k hk
              by_cases hii : i' = i
              · subst hii
                rw [if_pos rfl, ← hX2]
                have hk3 : k = 0 ∨ k = 1 ∨ k = 2 := by omega
                rcases hk3 with rfl | rfl | rfl
                · simp [mset_at]
                · simp [mset_at]
                · simp [mset_at]
              · rw [if_neg hii, x2 49 0 _ (by omega), y2 49 0 _ (by omega), x1 49 0 _ (by omega)]
            have m50 : ∀ i', X2 50 0 i' = if i' = i then nI v5 else X 50 0 i' := by
              intro i'
              by_cases hii : i' = i
              · subst hii
                rw [if_pos rfl, ← hX2]
                simp [mset_at]
              · rw [if_neg hii, x2 50 0 _ (by omega), y2 50 0 _ (by omega), x1 50 0 _ (by omega)]
            have hm2 : hM 10 X2 (fun i' k => if i' = i then (if k = 0 then v2 else if k = 1 then v3 else v4) else hh i' k) (fun i' => if i' = i then v5 else ss i') := by
              intro i' hi'
              obtain ⟨q1, q2, q3⟩ := hm i' hi'
              refine ⟨fun k hk => ?_, ?_, ?_⟩
              · rw [m49 i' k hk]
                by_cases hii : i' = i
                · simp only [if_pos hii, and_true]
                  by_cases hk0 : k = 0
                  · rw [if_pos hk0]; omega
                  · rw [if_neg hk0]
                    by_cases hk1 : k = 1
                    · rw [if_pos hk1]; omega
                    · rw [if_neg hk1]; omega
                · simp only [if_neg hii]; exact q1 k hk
              · by_cases hii : i' = i
                · simp only [if_pos hii]; omega
                · simp only [if_neg hii]; exact q2
              · rw [m50 i']
                by_cases hii : i' = i
                · simp only [if_pos hii]
                · simp only [if_neg hii]; exact q3
            have x2L : X2 43 0 0 = nI L := by rw [x2 43 0 0 (by omega), y2 43 0 0 (by omega), x1 43 0 0 (by omega), h430]
            obtain ⟨Z, f', z1, z2, z3, z4⟩ := X10_findsHands_eq (al := al) (N := N) (n := L) (X := X2) (by omega) hL x2L (hM_le hm2 hL)
            have hcnt2 := X10_hand_cnt (al := al) (N := N) (n := L) (X := Z) (f := f') (by omega) hL ((z2 43 0 0 (by omega)).trans x2L) z3 (fun k hk => (z4.1 k hk).1)
            have hveq : nI (cntP (fun k => decide (k < L ∧ f' k = k)) L) = v := by
              rw [← hv, cntP_ext (n := L) (m := 10) hL (fun k h1 h2 => decide_eq_false (fun q => by omega))]
              congr 1
              refine cntP_cg L (fun k hk => ?_)
              rw [finR_eq z4 y4 hk]
            rw [hveq] at hcnt2
            have e2 : X10_hand al N (nI i) (nI v2) (nI v3) (nI v4) (nI v5) (mset Y 81 0 0 v) = some (v, Z) := by
              have r1 : (mset Y 81 0 0 v) 43 0 0 = nI L := by simp [mset_at, y2, x1, h430]
              unfold X10_hand
              simp (disch := omega) only [X10_hand_J59, X10_isLeaf_eq al N _ r1 (by omega : L < 2147483648), if_pos hil, X10_in_eq, if_pos c2, if_pos c3, if_pos c4, if_pos c5, mset_same, bind2_some, ib_0, gl_eq, i10, j00, if_false, if_true, zn_lmul, zn_addl, rd_nI, Option.bind_some, hX2, z1, hcnt2]
            have hZ : ∀ k p j, ¬ (k = 78 ∨ k = 81 ∨ k = 42 ∨ (k = 43 ∧ j = 46) ∨ (k = 49 ∧ 3 * i ≤ j ∧ j < 3 * i + 3) ∨ (k = 50 ∧ j = i) ∨ (k = 5 ∧ p = i ∧ 7 ≤ j ∧ j ≤ 10)) → Z k p j = X k p j := fun k p j hk => by
              rw [z2 k p j (by omega), x2 k p j (by omega), y2 k p j (by omega), x1 k p j (by omega)]
            have z5 : ∀ p j, Z 5 p j = X1 5 p j := fun p j => by
              rw [z2 5 p j (by omega), x2 5 p j (by omega), y2 5 p j (by omega)]
            refine ⟨0, Z, K_ans e1 e2 ?_ ?_, ?_⟩
            · rw [z2 43 0 46 (by omega), ← hX2]; simp [mset_at]
            · rw [z2 81 0 0 (by omega), ← hX2]; simp [mset_at]
            · refine ⟨L, F, D, W, K, jN_cg (fun k p j hd => hZ k p j (by simp only [djN, djL, djC, djZ, djH, djB, djF, djD, djW, djK, djI, djS, Bool.or_eq_true, Bool.and_eq_true, decide_eq_true_eq] at hd; omega)) g1, ?_, jC_cg (fun k p j hd => hZ k p j (by simp only [djN, djL, djC, djZ, djH, djB, djF, djD, djW, djK, djI, djS, Bool.or_eq_true, Bool.and_eq_true, decide_eq_true_eq] at hd; omega)) g3, ?_, ?_, jB_cg (fun k p j hd => hZ k p j (by simp only [djN, djL, djC, djZ, djH, djB, djF, djD, djW, djK, djI, djS, Bool.or_eq_true, Bool.and_eq_true, decide_eq_true_eq] at hd; omega)) g6, jF_cg (fun k p j hd => hZ k p j (by simp only [djN, djL, djC, djZ, djH, djB, djF, djD, djW, djK, djI, djS, Bool.or_eq_true, Bool.and_eq_true, decide_eq_true_eq] at hd; omega)) g7, jD_cg (fun k p j hd => hZ k p j (by simp only [djN, djL, djC, djZ, djH, djB, djF, djD, djW, djK, djI, djS, Bool.or_eq_true, Bool.and_eq_true, decide_eq_true_eq] at hd; omega)) g8, jW_cg (fun k p j hd => hZ k p j (by simp only [djN, djL, djC, djZ, djH, djB, djF, djD, djW, djK, djI, djS, Bool.or_eq_true, Bool.and_eq_true, decide_eq_true_eq] at hd; omega)) g9, jK_cg (fun k p j hd => hZ k p j (by simp only [djN, djL, djC, djZ, djH, djB, djF, djD, djW, djK, djI, djS, Bool.or_eq_true, Bool.and_eq_true, decide_eq_true_eq] at hd; omega)) g10, jI_cg (fun k p j hd => hZ k p j (by simp only [djN, djL, djC, djZ, djH, djB, djF, djD, djW, djK, djI, djS, Bool.or_eq_true, Bool.and_eq_true, decide_eq_true_eq] at hd; omega)) g11, jS_cg (fun k p j hd => hZ k p j (by simp only [djN, djL, djC, djZ, djH, djB, djF, djD, djW, djK, djI, djS, Bool.or_eq_true, Bool.and_eq_true, decide_eq_true_eq] at hd; omega)) g12⟩
              · refine ⟨hL, (hZ 43 0 0 (by omega)).trans h430, (hZ 0 0 2 (by omega)).trans h002, fun j => (hZ 4 0 j (by omega)).trans (h4 j), fun i' hi' => ?_⟩
                obtain ⟨b, ln, w, hb, l1, l2, w1, w2, f44, f45, f46, f50, f51, f52, f53, f6, f55, f55b, f56, f56b, f57, f58, f59, f510, f511, f511b, f512⟩ := hlf i' hi'
                have z49 : ∀ k, k < 3 → Z 49 0 (3 * i' + k) = if i' = i then nI (if k = 0 then v2 else if k = 1 then v3 else v4) else X 49 0 (3 * i' + k) := fun k hk => (z2 49 0 _ (by omega)).trans (m49 i' k hk)
                have z50 : Z 50 0 i' = if i' = i then nI v5 else X 50 0 i' := (z2 50 0 _ (by omega)).trans (m50 i')
                have z490 := z49 0 (by omega)
                rw [Nat.add_zero] at z490
                refine ⟨b, ln, w, hb, l1, l2, w1, by assumption, ?_⟩
                rw [hZ 44 0 i' (by omega), hZ 45 0 i' (by omega), hZ 46 0 i' (by omega), hZ 5 i' 0 (by omega), hZ 5 i' 1 (by omega), hZ 5 i' 2 (by omega), hZ 5 i' 3 (by omega), hZ 5 i' 5 (by omega), hZ 5 i' 6 (by omega), hZ 5 i' 11 (by omega), hZ 5 i' 12 (by omega), hZ 47 0 i' (by omega), hZ 48 0 i' (by omega), hZ 51 0 i' (by omega), hZ 52 0 i' (by omega)]
                refine ⟨f44, f45, f46, f50, f51, f52, f53, fun j => (hZ 6 i' j (by omega)).trans (f6 j), f55, f55b, f56, f56b, ?_, ?_, ?_, ?_, f511, f511b, f512⟩
                · rw [z490, z5]
                  by_cases hii : i' = i
                  · subst hii; rw [if_pos rfl, ← hX1]; simp [mset_at]
                  · rw [if_neg hii, x1 5 i' 7 (by omega)]; exact f57
                · rw [z49 1 (by omega), z5]
                  by_cases hii : i' = i
                  · subst hii; rw [if_pos rfl, ← hX1]; simp [mset_at]
                  · rw [if_neg hii, x1 5 i' 8 (by omega)]; exact f58
                · rw [z49 2 (by omega), z5]
                  by_cases hii : i' = i
                  · subst hii; rw [if_pos rfl, ← hX1]; simp [mset_at]
                  · rw [if_neg hii, x1 5 i' 9 (by omega)]; exact f59
                · rw [z50, z5]
                  by_cases hii : i' = i
                  · subst hii; rw [if_pos rfl, ← hX1]; simp [mset_at]
                  · rw [if_neg hii, x1 5 i' 10 (by omega)]; exact f510
              · intro i' hLi hi'
                obtain ⟨u1, u2, u3, u4⟩ := g4 i' hLi hi'
                refine ⟨fun c hc => ⟨fun k hk => (hZ 56 0 _ (by omega)).trans ((u1 c hc).1 k hk), fun s k hs hk => (hZ 57 0 _ (by omega)).trans ((u1 c hc).2 s k hs hk)⟩, fun k hk => (hZ 49 0 _ (by omega)).trans (u2 k hk), (hZ 50 0 _ (by omega)).trans u3, (hZ 51 0 _ (by omega)).trans u4⟩
              · intro i' hi'
                obtain ⟨q1, q2, q3⟩ := hm2 i' hi'
                refine ⟨fun k hk => ⟨_, (q1 k hk).1, ?_⟩, _, q2, ?_⟩
                · rw [z2 49 0 _ (by omega)]; exact (q1 k hk).2
                · rw [z2 50 0 _ (by omega)]; exact q3
          · refine ⟨_, _, K_thrown (k := 2) (r := 0) (X1 := X) (X2 := mset X 43 0 46 2) ?_ ?_ (mset_same ..) (by decide), gJ_th _ h⟩
            · simp (disch := omega) only [L_hand, X9_hand, X9_hand_J40, X9_hand_J69, X9_leafOf_yes hL h4 hi, if_neg (zn_nn (a := i) (by omega)), X9_isWithin_eq, if_pos c2, if_pos c3, if_pos c4, if_neg c5, zn_add, zn_mul, zn_addl, zn_ladd, zn_mull, zn_lmul, zn_le, zn_lt, zn_eq, zn_lel, zn_ltl, zn_eql, zn_lle, zn_llt, zn_leq, zn_sub, zn_subl, zn_m1, gl_eq, bind2_some, bind3_some, Option.bind_some, bz_0, bz_1, ib_0, ib_1, ib_bz, rd_nI, rd_l, if_pos, if_neg, if_true, if_false, ite_true, ite_false, eq_self, j00, j10, j20, j30, k00, k01, k02, k03, i20, i30, km0, i10, i01, im0, im1, i0m, i1m]
              try rfl
            · simp (disch := omega) only [X10_hand, X10_hand_J54, X10_hand_J59, X10_isLeaf_eq al N _ h430 (by omega : L < 2147483648), if_pos hil, X10_in_eq, if_pos c2, if_pos c3, if_pos c4, if_neg c5, mset_same, zn_add, zn_mul, zn_addl, zn_ladd, zn_mull, zn_lmul, zn_le, zn_lt, zn_eq, zn_lel, zn_ltl, zn_eql, zn_lle, zn_llt, zn_leq, zn_sub, zn_subl, zn_m1, gl_eq, bind2_some, bind3_some, Option.bind_some, bz_0, bz_1, ib_0, ib_1, ib_bz, rd_nI, rd_l, if_pos, if_neg, if_true, if_false, ite_true, ite_false, eq_self, j00, j10, j20, j30, k00, k01, k02, k03, i20, i30, km0, i10, i01, im0, im1, i0m, i1m]
              try rfl
        · refine ⟨_, _, K_thrown (k := 2) (r := 0) (X1 := X) (X2 := mset X 43 0 46 2) ?_ ?_ (mset_same ..) (by decide), gJ_th _ h⟩
          · simp (disch := omega) only [L_hand, X9_hand, X9_hand_J40, X9_hand_J69, X9_leafOf_yes hL h4 hi, if_neg (zn_nn (a := i) (by omega)), X9_isWithin_eq, if_pos c2, if_pos c3, if_neg c4, zn_add, zn_mul, zn_addl, zn_ladd, zn_mull, zn_lmul, zn_le, zn_lt, zn_eq, zn_lel, zn_ltl, zn_eql, zn_lle, zn_llt, zn_leq, zn_sub, zn_subl, zn_m1, gl_eq, bind2_some, bind3_some, Option.bind_some, bz_0, bz_1, ib_0, ib_1, ib_bz, rd_nI, rd_l, if_pos, if_neg, if_true, if_false, ite_true, ite_false, eq_self, j00, j10, j20, j30, k00, k01, k02, k03, i20, i30, km0, i10, i01, im0, im1, i0m, i1m]
            try rfl
          · simp (disch := omega) only [X10_hand, X10_hand_J54, X10_hand_J59, X10_isLeaf_eq al N _ h430 (by omega : L < 2147483648), if_pos hil, X10_in_eq, if_pos c2, if_pos c3, if_neg c4, mset_same, zn_add, zn_mul, zn_addl, zn_ladd, zn_mull, zn_lmul, zn_le, zn_lt, zn_eq, zn_lel, zn_ltl, zn_eql, zn_lle, zn_llt, zn_leq, zn_sub, zn_subl, zn_m1, gl_eq, bind2_some, bind3_some, Option.bind_some, bz_0, bz_1, ib_0, ib_1, ib_bz, rd_nI, rd_l, if_pos, if_neg, if_true, if_false, ite_true, ite_false, eq_self, j00, j10, j20, j30, k00, k01, k02, k03, i20, i30, km0, i10, i01, im0, im1, i0m, i1m]
            try rfl
      · refine ⟨_, _, K_thrown (k := 2) (r := 0) (X1 := X) (X2 := mset X 43 0 46 2) ?_ ?_ (mset_same ..) (by decide), gJ_th _ h⟩
        · simp (disch := omega) only [L_hand, X9_hand, X9_hand_J40, X9_hand_J69, X9_leafOf_yes hL h4 hi, if_neg (zn_nn (a := i) (by omega)), X9_isWithin_eq, if_pos c2, if_neg c3, zn_add, zn_mul, zn_addl, zn_ladd, zn_mull, zn_lmul, zn_le, zn_lt, zn_eq, zn_lel, zn_ltl, zn_eql, zn_lle, zn_llt, zn_leq, zn_sub, zn_subl, zn_m1, gl_eq, bind2_some, bind3_some, Option.bind_some, bz_0, bz_1, ib_0, ib_1, ib_bz, rd_nI, rd_l, if_pos, if_neg, if_true, if_false, ite_true, ite_false, eq_self, j00, j10, j20, j30, k00, k01, k02, k03, i20, i30, km0, i10, i01, im0, im1, i0m, i1m]
          try rfl
        · simp (disch := omega) only [X10_hand, X10_hand_J54, X10_hand_J59, X10_isLeaf_eq al N _ h430 (by omega : L < 2147483648), if_pos hil, X10_in_eq, if_pos c2, if_neg c3, mset_same, zn_add, zn_mul, zn_addl, zn_ladd, zn_mull, zn_lmul, zn_le, zn_lt, zn_eq, zn_lel, zn_ltl, zn_eql, zn_lle, zn_llt, zn_leq, zn_sub, zn_subl, zn_m1, gl_eq, bind2_some, bind3_some, Option.bind_some, bz_0, bz_1, ib_0, ib_1, ib_bz, rd_nI, rd_l, if_pos, if_neg, if_true, if_false, ite_true, ite_false, eq_self, j00, j10, j20, j30, k00, k01, k02, k03, i20, i30, km0, i10, i01, im0, im1, i0m, i1m]
          try rfl
    · refine ⟨_, _, K_thrown (k := 2) (r := 0) (X1 := X) (X2 := mset X 43 0 46 2) ?_ ?_ (mset_same ..) (by decide), gJ_th _ h⟩
      · simp (disch := omega) only [L_hand, X9_hand, X9_hand_J40, X9_hand_J69, X9_leafOf_yes hL h4 hi, if_neg (zn_nn (a := i) (by omega)), X9_isWithin_eq, if_neg c2, zn_add, zn_mul, zn_addl, zn_ladd, zn_mull, zn_lmul, zn_le, zn_lt, zn_eq, zn_lel, zn_ltl, zn_eql, zn_lle, zn_llt, zn_leq, zn_sub, zn_subl, zn_m1, gl_eq, bind2_some, bind3_some, Option.bind_some, bz_0, bz_1, ib_0, ib_1, ib_bz, rd_nI, rd_l, if_pos, if_neg, if_true, if_false, ite_true, ite_false, eq_self, j00, j10, j20, j30, k00, k01, k02, k03, i20, i30, km0, i10, i01, im0, im1, i0m, i1m]
        try rfl
      · simp (disch := omega) only [X10_hand, X10_hand_J54, X10_hand_J59, X10_isLeaf_eq al N _ h430 (by omega : L < 2147483648), if_pos hil, X10_in_eq, if_neg c2, mset_same, zn_add, zn_mul, zn_addl, zn_ladd, zn_mull, zn_lmul, zn_le, zn_lt, zn_eq, zn_lel, zn_ltl, zn_eql, zn_lle, zn_llt, zn_leq, zn_sub, zn_subl, zn_m1, gl_eq, bind2_some, bind3_some, Option.bind_some, bz_0, bz_1, ib_0, ib_1, ib_bz, rd_nI, rd_l, if_pos, if_neg, if_true, if_false, ite_true, ite_false, eq_self, j00, j10, j20, j30, k00, k01, k02, k03, i20, i30, km0, i10, i01, im0, im1, i0m, i1m]
        try rfl
  · refine ⟨_, _, K_thrown (k := 1) (r := 0) (X1 := X) (X2 := mset X 43 0 46 1) ?_ ?_ (mset_same ..) (by decide), gJ_th _ h⟩
    · simp (disch := omega) only [L_hand, X9_hand, X9_leafOf_no hL h4 h1, zn_add, zn_mul, zn_addl, zn_ladd, zn_mull, zn_lmul, zn_le, zn_lt, zn_eq, zn_lel, zn_ltl, zn_eql, zn_lle, zn_llt, zn_leq, zn_sub, zn_subl, zn_m1, gl_eq, bind2_some, bind3_some, Option.bind_some, bz_0, bz_1, ib_0, ib_1, ib_bz, rd_nI, rd_l, if_pos, if_neg, if_true, if_false, ite_true, ite_false, eq_self, j00, j10, j20, j30, k00, k01, k02, k03, i20, i30, km0, i10, i01, im0, im1, i0m, i1m]
      try rfl
    · simp (disch := omega) only [X10_hand, X10_hand_J54, X10_hand_J59, X10_isLeaf_eq al N _ h430 (by omega : L < 2147483648), if_neg h1, mset_same, zn_add, zn_mul, zn_addl, zn_ladd, zn_mull, zn_lmul, zn_le, zn_lt, zn_eq, zn_lel, zn_ltl, zn_eql, zn_lle, zn_llt, zn_leq, zn_sub, zn_subl, zn_m1, gl_eq, bind2_some, bind3_some, Option.bind_some, bz_0, bz_1, ib_0, ib_1, ib_bz, rd_nI, rd_l, if_pos, if_neg, if_true, if_false, ite_true, ite_false, eq_self, j00, j10, j20, j30, k00, k01, k02, k03, i20, i30, km0, i10, i01, im0, im1, i0m, i1m]
      try rfl
