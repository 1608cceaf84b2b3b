/-! reading a line: the class, its load -/
section
variable {al : Nat → Nat → Bool} {N : Nat}
theorem X0_addTo_eq (hN : 1000 ≤ N) {a b c s : Nat} {X Y : gM} {lt vt : Nat → Nat} {v : Nat → Nat} (hs : s < 3) (hc : c < 8) (g : sF X a b s lt vt) (h9 : ∀ j, Y 9 a j = X 9 a j) (h10 : ∀ j, Y 10 a j = X 10 a j) (hv : ∀ k, k < 26 → v k ≤ 1000 ∧ Y 32 0 (26 * c + k) = nI (v k)) :
    ∃ Z, X0_addTo al N a (nI (26 * c)) (nI s) Y = some (0, Z) ∧ (∀ k p j, ¬ (k = 32 ∧ p = 0 ∧ 26 * c ≤ j ∧ j < 26 * c + 26) → Z k p j = Y k p j) ∧ ∀ k, k < 26 → Z 32 0 (26 * c + k) = nI (v k + Wf lt vt k) := by
  obtain ⟨g1, g2, g3⟩ := g
  have e3 : 3 * s = 3 * s := rfl
  have key : ∀ Q : Option (Int32 × gM) → Prop, (∀ Z, (∀ k p j, ¬ (k = 32 ∧ p = 0 ∧ 26 * c ≤ j ∧ j < 26 * c + 26) → Z k p j = Y k p j) → (∀ k, k < 26 → Z 32 0 (26 * c + k) = nI (v k + Wf lt vt k)) → Q (some (0, Z))) → Q (X0_addTo al N a (nI (26 * c)) (nI s) Y) := by
    intro Q hQ
    unfold X0_addTo
    refine m_up0 3 (fun fu i (Z : gM) => X0_addTo_L3 al N (fun Y => X0_addTo_J54 al N Y) fu a (nI (26 * c)) (nI s) i Z)
      (fun i Z => (∀ k p j, ¬ (k = 32 ∧ p = 0 ∧ 26 * c ≤ j ∧ j < 26 * c + 26) → Z k p j = Y k p j) ∧ ∀ k, k < 26 → Z 32 0 (26 * c + k) = nI (v k + sumN (fun j => eW lt vt j k) i)) Q Y (by omega) ?_ ?_ ⟨fun _ _ _ _ => rfl, fun k hk => (hv k hk).2⟩
    · rintro i fu Z hi ⟨h1, h2⟩ ih
      obtain ⟨q1, q2, q3, q4⟩ := g1 i hi
      have em : s * 3 = 3 * s := Nat.mul_comm s 3
      have r9 : Z 9 a (3 * s + i) = nI (lt i) := by rw [h1 9 a _ (by omega), h9, q3]
      have r10 : Z 10 a (3 * s + i) = nI (vt i) := by rw [h1 10 a _ (by omega), h10, q4]
      have hle : ∀ k, sumN (fun j => eW lt vt j k) i ≤ 27 := fun k => by
        have hb : ∀ j, j < 3 → eW lt vt j k ≤ 9 := fun j hj => by
          have := (g1 j hj).2.1
          unfold eW; split <;> omega
        have hi3 : i = 0 ∨ i = 1 ∨ i = 2 := by omega
        have b0 := hb 0 (by omega)
        have b1 := hb 1 (by omega)
        rcases hi3 with rfl | rfl | rfl
        · show (0 : Nat) ≤ 27; omega
        · show 0 + eW lt vt 0 k ≤ 27; omega
        · show 0 + eW lt vt 0 k + eW lt vt 1 k ≤ 27; omega
      simp (disch := omega) only [X0_addTo_L3, X0_addTo_J48, em, r9, r10, zn_add, zn_mul, zn_addl, zn_ladd, zn_mull, zn_lmul, zn_le, zn_lt, zn_eq, zn_lel, zn_ltl, zn_eql, zn_lle, zn_llt, zn_leq, zn_sub, zn_subl, zn_m1, gl_eq, bind2_some, bind3_some, Option.bind_some, bz_0, bz_1, ib_0, ib_1, ib_bz, rd_nI, rd_l, if_pos, if_neg, if_true, if_false, ite_true, ite_false, eq_self, j00, j10, j20, j30, k00, k01, k02, k03, i20, i30, km0, i10, i01, im0, im1, i0m, i1m]
      by_cases hz : vt i = 0
      · rw [if_pos hz]
        refine ih Z ⟨h1, fun k hk => ?_⟩
        rw [h2 k hk]
        have : eW lt vt i k = 0 := by unfold eW; rw [hz]; split <;> rfl
        show _ = nI (v k + (sumN (fun j => eW lt vt j k) i + eW lt vt i k))
        rw [this, Nat.add_zero]
      · rw [if_neg hz]
        have r32 := h2 (lt i) q1
        have hvk := (hv (lt i) q1).1
        have hlk := hle (lt i)
        simp (disch := omega) only [r32, zn_add]
        refine ih _ ⟨fun k p j hk => ?_, fun k hk => ?_⟩
        · rw [mset_at, if_neg (by omega), h1 k p j hk]
        · show (mset Z 32 0 (26 * c + lt i) (nI (v (lt i) + sumN (fun j => eW lt vt j (lt i)) i + vt i))) 32 0 (26 * c + k) = nI (v k + (sumN (fun j => eW lt vt j k) i + eW lt vt i k))
          rw [mset_at]
          by_cases hkl : k = lt i
          · subst hkl
            rw [if_pos ⟨rfl, rfl, rfl⟩]
            unfold eW
            rw [if_pos rfl]
            congr 1; omega
          · rw [if_neg (by omega), h2 k hk]
            have : eW lt vt i k = 0 := by unfold eW; rw [if_neg (fun z => hkl z.symm)]
            rw [this, Nat.add_zero]
    · rintro fu Z ⟨h1, h2⟩
      simp (disch := omega) only [X0_addTo_L3, X0_addTo_J54, zn_add, zn_mul, zn_addl, zn_ladd, zn_mull, zn_lmul, zn_le, zn_lt, zn_eq, zn_lel, zn_ltl, zn_eql, zn_lle, zn_llt, zn_leq, zn_sub, zn_subl, zn_m1, gl_eq, bind2_some, bind3_some, Option.bind_some, bz_0, bz_1, ib_0, ib_1, ib_bz, rd_nI, rd_l, if_pos, if_neg, if_true, if_false, ite_true, ite_false, eq_self, j00, j10, j20, j30, k00, k01, k02, k03, i20, i30, km0, i10, i01, im0, im1, i0m, i1m]
      refine hQ Z h1 (fun k hk => ?_)
      rw [h2 k hk]
      show nI (v k + (0 + eW lt vt 0 k + eW lt vt 1 k + eW lt vt 2 k)) = nI (v k + (eW lt vt 0 k + eW lt vt 1 k + eW lt vt 2 k))
      rw [Nat.zero_add]
  exact key (fun o => ∃ Z, o = some (0, Z) ∧ (∀ k p j, ¬ (k = 32 ∧ p = 0 ∧ 26 * c ≤ j ∧ j < 26 * c + 26) → Z k p j = Y k p j) ∧ ∀ k, k < 26 → Z 32 0 (26 * c + k) = nI (v k + Wf lt vt k)) (fun Z h1 h2 => ⟨Z, rfl, h1, h2⟩)
/-- one cell is loaded -/
theorem X6_load_eq (hN : 1000 ≤ N) {X Y : gM} {i l m c A : Nat} {y : Int32} (hc : c < 8) (hA : A < 320) (hal : al 7 A = true) (hcR : cR X A (32 * i + 8 * l + c)) (hO : lnO X i l m) (hcm : c < m)
    (hY : ∀ k p j, ¬ (k = 29 ∨ k = 30 ∨ k = 31 ∨ k = 32) → Y k p j = X k p j) (h32 : ∀ k, k < 26 → Y 32 0 (26 * c + k) = 0) :
    ∃ Z, X6_load al N (nI A) (nI c) y Y = some (0, Z) ∧ (∀ k p j, ¬ ((k = 30 ∧ p = 0 ∧ j = c) ∨ (k = 31 ∧ p = 0 ∧ j = c) ∨ (k = 32 ∧ p = 0 ∧ 26 * c ≤ j ∧ j < 26 * c + 26)) → Z k p j = Y k p j) ∧
      Z 30 0 c = (if lnB X i l c = true then 1 else 0) ∧ (lnB X i l c = false → (∀ k, k < 26 → Z 32 0 (26 * c + k) = nI (lnG X i l y c k)) ∧ Z 31 0 c = nI (lnN X i l y c)) := by
  obtain ⟨r1, r2, r3, r4⟩ := hcR
  have key : ∀ Q : Option (Int32 × gM) → Prop, (∀ Z, (∀ k p j, ¬ ((k = 30 ∧ p = 0 ∧ j = c) ∨ (k = 31 ∧ p = 0 ∧ j = c) ∨ (k = 32 ∧ p = 0 ∧ 26 * c ≤ j ∧ j < 26 * c + 26)) → Z k p j = Y k p j) → Z 30 0 c = (if lnB X i l c = true then 1 else 0) → (lnB X i l c = false → (∀ k, k < 26 → Z 32 0 (26 * c + k) = nI (lnG X i l y c k)) ∧ Z 31 0 c = nI (lnN X i l y c)) → Q (some (0, Z))) → Q (X6_load al N (nI A) (nI c) y Y) := by
    intro Q hQ
    have hbl : X0_isBlank al N A Y = some (if lnB X i l c = true then 1 else 0, Y) := by
      unfold X0_isBlank X0_isBlank_J12 lnB
      rw [hY 7 A 4 (by omega), r3]
      by_cases q : mU (X 56 0) (X 54 0) (X 55 0) (32 * i + 8 * l + c) = 0
      · rw [if_pos q, decide_eq_true q]; rfl
      · rw [if_neg q, decide_eq_false q]; rfl
    unfold X6_load
    rw [if_neg (zn_nn (by omega)), dr_nI hal (by omega), Option.bind_some, hbl, bind2_some, ib_0]
    generalize hB0 : lnB X i l c = bb
    rw [hB0] at hQ
    cases bb with
    | true =>
      rw [if_pos rfl]
      simp (disch := omega) only [X6_load_J21, X6_load_J42, zn_add, zn_mul, zn_addl, zn_ladd, zn_mull, zn_lmul, zn_le, zn_lt, zn_eq, zn_lel, zn_ltl, zn_eql, zn_lle, zn_llt, zn_leq, zn_sub, zn_subl, zn_m1, gl_eq, bind2_some, bind3_some, Option.bind_some, bz_0, bz_1, ib_0, ib_1, ib_bz, rd_nI, rd_l, if_pos, if_neg, if_true, if_false, ite_true, ite_false, eq_self, j00, j10, j20, j30, k00, k01, k02, k03, i20, i30, km0, i10, i01, im0, im1, i0m, i1m, mset_same]
      have e30 : (mset (mset Y 30 0 c 1) 31 0 c 0) 30 0 c = 1 := by rw [mset_at, if_neg (by omega), mset_same]
      simp (disch := omega) only [e30, i10, if_false]
      refine hQ _ (fun k p j hk => ?_) e30 (fun h => by cases h)
      simp only [mset_at]
      rw [if_neg (by omega), if_neg (by omega)]
    | false =>
      rw [if_neg (by decide)]
      simp (disch := omega) only [X6_load_J20, X6_load_J21, zn_add, zn_mul, zn_addl, zn_ladd, zn_mull, zn_lmul, zn_le, zn_lt, zn_eq, zn_lel, zn_ltl, zn_eql, zn_lle, zn_llt, zn_leq, zn_sub, zn_subl, zn_m1, gl_eq, bind2_some, bind3_some, Option.bind_some, bz_0, bz_1, ib_0, ib_1, ib_bz, rd_nI, rd_l, if_pos, if_neg, if_true, if_false, ite_true, ite_false, eq_self, j00, j10, j20, j30, k00, k01, k02, k03, i20, i30, km0, i10, i01, im0, im1, i0m, i1m]
      generalize hY2 : mset (mset Y 30 0 c 0) 31 0 c 0 = Y2
      have y2 : ∀ k p j, ¬ ((k = 30 ∧ p = 0 ∧ j = c) ∨ (k = 31 ∧ p = 0 ∧ j = c)) → Y2 k p j = Y k p j := fun k p j hk => by
        rw [← hY2]
        simp only [mset_at]
        rw [if_neg (by omega), if_neg (by omega)]
      have e30 : Y2 30 0 c = 0 := by rw [← hY2, mset_at, if_neg (by omega), mset_same]
      have e31 : Y2 31 0 c = 0 := by rw [← hY2, mset_same]
      have ecm : c * 26 = 26 * c := Nat.mul_comm c 26
      rw [e30, if_pos rfl, ecm]
      refine m_up0 3 (fun fu s (Z : gM) => X6_load_L52 al N (fun p2 p4 Y => X6_load_J86 al N p2 p4 Y) fu (nI A) (nI c) y (nI (26 * c)) s Z)
        (fun s Z => (∀ k p j, ¬ (k = 32 ∧ p = 0 ∧ 26 * c ≤ j ∧ j < 26 * c + 26) → Z k p j = Y2 k p j) ∧ ∀ k, k < 26 → Z 32 0 (26 * c + k) = nI (sumN (fun s => if bt y s = true then lnW X i l c s k else 0) s)) Q Y2 (by omega) ?_ ?_ ⟨fun _ _ _ _ => rfl, fun k hk => by rw [y2 32 0 _ (by omega), h32 k hk]; rfl⟩
      · rintro s fu Z hs ⟨h1, h2⟩ ih
        simp (disch := omega) only [X6_load_L52, X6_load_J80, b_tst1 (by omega : s < 32), dr_nI hal (by omega : A < 2147483648), zn_add, zn_mul, zn_addl, zn_ladd, zn_mull, zn_lmul, zn_le, zn_lt, zn_eq, zn_lel, zn_ltl, zn_eql, zn_lle, zn_llt, zn_leq, zn_sub, zn_subl, zn_m1, gl_eq, bind2_some, bind3_some, Option.bind_some, bz_0, bz_1, ib_0, ib_1, ib_bz, rd_nI, rd_l, if_pos, if_neg, if_true, if_false, ite_true, ite_false, eq_self, j00, j10, j20, j30, k00, k01, k02, k03, i20, i30, km0, i10, i01, im0, im1, i0m, i1m]
        have hsb : ∀ k, k < 26 → sumN (fun s => if bt y s = true then lnW X i l c s k else 0) s ≤ 1000 := fun k hk => by
          have hb : ∀ s', s' < 3 → (if bt y s' = true then lnW X i l c s' k else 0) ≤ 27 := fun s' hs' => by
            have := (hO c s' k hcm hs' hk).1
            split <;> omega
          have hs3 : s = 0 ∨ s = 1 ∨ s = 2 := by omega
          have b0 := hb 0 (by omega)
          have b1 := hb 1 (by omega)
          rcases hs3 with rfl | rfl | rfl
          · show (0 : Nat) ≤ 1000; omega
          · show 0 + (if bt y 0 = true then lnW X i l c 0 k else 0) ≤ 1000; omega
          · show 0 + (if bt y 0 = true then lnW X i l c 0 k else 0) + (if bt y 1 = true then lnW X i l c 1 k else 0) ≤ 1000; omega
        by_cases hb : bt y s = true
        · rw [if_pos hb]
          obtain ⟨lt, vt, hF⟩ := sR_sF (r4 s hs)
          obtain ⟨Z2, z1, z2, z3⟩ := X0_addTo_eq (al := al) hN hs hc hF (Y := Z) (fun j => by rw [h1 9 A j (by omega), y2 9 A j (by omega), hY 9 A j (by omega)]) (fun j => by rw [h1 10 A j (by omega), y2 10 A j (by omega), hY 10 A j (by omega)]) (fun k hk => ⟨hsb k hk, h2 k hk⟩)
          rw [z1, bind2_some]
          refine ih Z2 ⟨fun k p j hk => by rw [z2 k p j hk, h1 k p j hk], fun k hk => ?_⟩
          rw [z3 k hk]
          show nI (_ + Wf lt vt k) = nI (sumN (fun s => if bt y s = true then lnW X i l c s k else 0) s + (if bt y s = true then lnW X i l c s k else 0))
          rw [if_pos hb]
          have : lnW X i l c s k = Wf lt vt k := by
            have h27 := Wf_le (lt := lt) (fun j hj => (hF.1 j hj).2.1) k
            unfold lnW
            rw [hF.2.2 k hk, zn_tN (by omega)]
          rw [this]
        · rw [if_neg hb]
          refine ih Z ⟨h1, fun k hk => ?_⟩
          rw [h2 k hk]
          show _ = nI (sumN (fun s => if bt y s = true then lnW X i l c s k else 0) s + (if bt y s = true then lnW X i l c s k else 0))
          rw [if_neg hb]; rfl
      · rintro fu Z ⟨h1, h2⟩
        simp (disch := omega) only [X6_load_L52, X6_load_J86, zn_add, zn_mul, zn_addl, zn_ladd, zn_mull, zn_lmul, zn_le, zn_lt, zn_eq, zn_lel, zn_ltl, zn_eql, zn_lle, zn_llt, zn_leq, zn_sub, zn_subl, zn_m1, gl_eq, bind2_some, bind3_some, Option.bind_some, bz_0, bz_1, ib_0, ib_1, ib_bz, rd_nI, rd_l, if_pos, if_neg, if_true, if_false, ite_true, ite_false, eq_self, j00, j10, j20, j30, k00, k01, k02, k03, i20, i30, km0, i10, i01, im0, im1, i0m, i1m]
        have h2' : ∀ k, k < 26 → Z 32 0 (26 * c + k) = nI (lnG X i l y c k) := fun k hk => by
          rw [h2 k hk, lnG_eq hc hk]
          show nI (0 + (if bt y 0 = true then lnW X i l c 0 k else 0) + (if bt y 1 = true then lnW X i l c 1 k else 0) + (if bt y 2 = true then lnW X i l c 2 k else 0)) = _
          rw [Nat.zero_add]; rfl
        have hGle := lnG_le (y := y) (m := c + 1) (fun c' s k h => hO c' s k (by omega)) (by omega)
        refine m_up0 26 (fun fu k (Z' : gM) => X6_load_L89 al N (fun Y => X6_load_J125 al N Y) fu (nI c) (nI (26 * c)) k Z')
          (fun k Z' => (∀ k p j, ¬ (k = 31 ∧ p = 0 ∧ j = c) → Z' k p j = Z k p j) ∧ Z' 31 0 c = nI (cntP (fun k => decide (0 < lnG X i l y c k)) k)) Q Z (by omega) ?_ ?_ ⟨fun _ _ _ _ => rfl, by rw [h1 31 0 c (by omega), e31]; rfl⟩
        · rintro k fu' Z' hk ⟨t1, t2⟩ ih'
          have hle := cntP_le (fun k => decide (0 < lnG X i l y c k)) k
          have hG := hGle c k (by omega)
          have r32 : Z' 32 0 (26 * c + k) = nI (lnG X i l y c k) := by rw [t1 32 0 _ (by omega), h2' k hk]
          simp (disch := omega) only [X6_load_L89, X6_load_J119, r32, t2, zn_add, zn_mul, zn_addl, zn_ladd, zn_mull, zn_lmul, zn_le, zn_lt, zn_eq, zn_lel, zn_ltl, zn_eql, zn_lle, zn_llt, zn_leq, zn_sub, zn_subl, zn_m1, gl_eq, bind2_some, bind3_some, Option.bind_some, bz_0, bz_1, ib_0, ib_1, ib_bz, rd_nI, rd_l, if_pos, if_neg, if_true, if_false, ite_true, ite_false, eq_self, j00, j10, j20, j30, k00, k01, k02, k03, i20, i30, km0, i10, i01, im0, im1, i0m, i1m]
          by_cases hz : lnG X i l y c k ≤ 0
          · rw [if_pos hz]
            refine ih' Z' ⟨t1, ?_⟩
            rw [t2, cntP_f (P := fun k => decide (0 < lnG X i l y c k)) (decide_eq_false (by omega))]
          · rw [if_neg hz]
            refine ih' _ ⟨fun k' p j hk' => ?_, ?_⟩
            · rw [mset_at, if_neg (by omega), t1 k' p j hk']
            · rw [mset_same, cntP_t (P := fun k => decide (0 < lnG X i l y c k)) (decide_eq_true (by omega))]
        · rintro fu' Z' ⟨t1, t2⟩
          simp (disch := omega) only [X6_load_L89, X6_load_J125, zn_add, zn_mul, zn_addl, zn_ladd, zn_mull, zn_lmul, zn_le, zn_lt, zn_eq, zn_lel, zn_ltl, zn_eql, zn_lle, zn_llt, zn_leq, zn_sub, zn_subl, zn_m1, gl_eq, bind2_some, bind3_some, Option.bind_some, bz_0, bz_1, ib_0, ib_1, ib_bz, rd_nI, rd_l, if_pos, if_neg, if_true, if_false, ite_true, ite_false, eq_self, j00, j10, j20, j30, k00, k01, k02, k03, i20, i30, km0, i10, i01, im0, im1, i0m, i1m]
          refine hQ Z' (fun k p j hk => ?_) ?_ (fun _ => ⟨fun k hk => ?_, t2⟩)
          · rw [t1 k p j (by omega), h1 k p j (by omega), y2 k p j (by omega)]
          · rw [t1 30 0 c (by omega), h1 30 0 c (by omega), e30]; rfl
          · rw [t1 32 0 _ (by omega)]; exact h2' k hk
  exact key (fun o => ∃ Z, o = some (0, Z) ∧ (∀ k p j, ¬ ((k = 30 ∧ p = 0 ∧ j = c) ∨ (k = 31 ∧ p = 0 ∧ j = c) ∨ (k = 32 ∧ p = 0 ∧ 26 * c ≤ j ∧ j < 26 * c + 26)) → Z k p j = Y k p j) ∧
      Z 30 0 c = (if lnB X i l c = true then 1 else 0) ∧ (lnB X i l c = false → (∀ k, k < 26 → Z 32 0 (26 * c + k) = nI (lnG X i l y c k)) ∧ Z 31 0 c = nI (lnN X i l y c))) (fun Z h1 h2 h3 => ⟨Z, rfl, h1, h2, h3⟩)
end
