/-! state: the case -/
theorem iff_f {α : Type} (a b : α) : (if (false = true) then a else b) = b := if_neg (by decide)
theorem case23 {NL : List (Nat × Nat)} {al : Nat → Nat → Bool} {N : Nat} {X : gM} (hN : 1000000 ≤ N) (a1 a2 a3 a4 a5 a6 : Int32) (h : gJ NL X) : ∃ (rr : Int32) (X' : gM), K23 (gal NL) al N [] a1 a2 a3 a4 a5 a6 X = some (rr, X') ∧ gJ NL X' := by
  unfold K23
  rw [eqn_nil, Option.bind_some]
  obtain ⟨L, F, D, W, K, g1, g2, g3, g4, g5, g6, g7, g8, g9, g10, g11, g12⟩ := id h
  obtain ⟨hL, h430, h002, h4, hlf⟩ := id g2
  rcases cell3 (NL := NL) (F := F) (W := W) (K := K) g2 a1 a2 a3 with h1 | ⟨i, ln, m, hi, rfl, f45, f46, kl, kw, f52, f53, f6, h1 | ⟨l, c, hl, hc, rfl, rfl⟩⟩
  · refine ⟨_, _, K_thrown (k := 1) (r := 0) (X1 := X) (X2 := mset X 43 0 46 1) ?_ ?_ (mset_same ..) (by decide), gJ_th _ h⟩
    · unfold L_state X9_state
      rw [X9_leafOf_no hL h4 h1, bind2_some, if_pos m1_neg]
      rfl
    · unfold X10_state
      rw [X10_isCell_no1 h430 (by omega) h1, bind2_some, if_pos rfl]
      unfold X10_state_J31
      rw [gl_eq, mset_same, if_neg (by decide)]
  · have ha : gal NL 5 i = true := gal_al g1 hi
    refine ⟨_, _, K_thrown (k := 1) (r := 0) (X1 := X) (X2 := mset X 43 0 46 1) ?_ ?_ (mset_same ..) (by decide), gJ_th _ h⟩
    · unfold L_state X9_state
      rw [X9_leafOf_yes hL h4 hi, bind2_some, if_neg (zn_nn (by omega)), dr_nI ha (by omega), Option.bind_some, X2_cellAt_no f52 f53 h1, bind2_some, if_pos m1_neg]
      rfl
    · unfold X10_state
      rw [X10_isCell_eq h430 hL hi f45 f46 kl kw, if_neg h1, bind2_some, if_pos rfl]
      unfold X10_state_J31
      rw [gl_eq, mset_same, if_neg (by decide)]
  · have ha : gal NL 5 i = true := gal_al g1 hi
    have hlt := lw_lt hl hc
    have hle := lw_le kl kw
    have hcell : ir (nI l) ln ∧ ir (nI c) m := ⟨ir_nI (by omega) hl, ir_nI (by omega) hc⟩
    have hca := X2_cellAt_yes (al := gal NL) (N := N) (i := i) (X := X) f52 f53 kw kl f6 hl hc
    by_cases h3 : 0 ≤ a4 ∧ a4 ≤ 7
    · obtain ⟨Y, y1, y2, y3, y4, y5, y6⟩ := readBoth (al := al) (y := a4) (by omega : 1000 ≤ N) g1 g2 g3 g9 hi hl kl f45 f46 f52 f53 f6 (by omega) kw
      obtain ⟨t1, t2, t3, t4, t5, t6, t7⟩ := id y3
      have hbb := rdT_le m W (lnB X i l) (lnH X i l m a4) (lnN X i l a4) (lnL X) (lnD X) t5 (fun w hw => (t7 w hw).1) m (Nat.le_refl m)
      rw [Nat.sub_self] at hbb
      have hBP := bhP_of m W (lnB X i l) (lnH X i l m a4) (lnN X i l a4) (lnL X) (lnD X) t5 (fun w hw => (t7 w hw).1)
      have hwd : ∀ w, w < W → 1 ≤ lnL X w ∧ ∀ k, k < lnL X w → lnD X w k < 26 := fun w hw => by
        obtain ⟨q1, q2, q3, q4, q5⟩ := t7 w hw
        exact ⟨q1, fun k hk => (q5 k hk).1⟩
      have hfl : ∀ p w f, w < W → fitW m (lnB X i l) (lnH X i l m a4) (lnN X i l a4) (lnL X) (lnD X) w p = some f → p + lnL X w ≤ m := fun p w f hw hf => by
        have := (fitF_le m (lnB X i l) (lnH X i l m a4) (lnN X i l a4) (lnD X) t5 w p (lnL X w) 0 f hf).2 (by have := (hwd w hw).1; omega)
        omega
      generalize hS : rdT m W (lnB X i l) (lnH X i l m a4) (lnN X i l a4) (lnL X) (lnD X) m = S at y5 y6 hbb hBP
      have hBb : ∀ c g, c ≤ m → S.1 c = some g → g ≤ 648 := fun c g hc hg => by
        have := hbb c g (Nat.zero_le c) hc hg
        have h2 : 81 * (m - c) ≤ 81 * 8 := Nat.mul_le_mul_left 81 (by omega)
        omega
      obtain ⟨B0, hB0, hB0e⟩ : ∃ B0, B0 ≤ 648 ∧ (S.1 0 = some B0 ∨ S.1 0 = none) := by
        cases hq : S.1 0 with
        | none => exact ⟨0, Nat.zero_le _, Or.inr rfl⟩
        | some b => exact ⟨b, hBb 0 b (Nat.zero_le m) hq, Or.inl rfl⟩
      have h35 : ∀ c, c ≤ m → Y 35 0 c = enc (S.1 c) := fun c hc => (y5 c (Nat.zero_le c) hc).1
      obtain ⟨Y2, u1, u2, u3⟩ := gather_eq (al := gal NL) (N := N) (B := S.1) (B0 := B0) (by omega) y3 y4 (fun w hw => gal_al g1 (Or.inl hw)) hBP hB0 hBb h35
      -- the class's answer
      generalize hv : (if Y 35 0 0 = -1 then (0 : Int32) else if lnB X i l c = true then 1 else if bcE (Y2 39 0 c) ≤ 1 then (if Y 31 0 c = 0 then 4 else if Y 31 0 c = 1 then 2 else 3) else 5) = v
      have est : X6_standing (gal NL) N (nI c) Y2 = some (v, Y2) := by
        have e29 : Y2 29 0 0 = nI m := by rw [u2 29 0 0 (by omega)]; exact t1
        have e350 : Y2 35 0 0 = Y 35 0 0 := u2 35 0 0 (by omega)
        have e30 : Y2 30 0 c = if lnB X i l c = true then 1 else 0 := by rw [u2 30 0 c (by omega)]; exact (t4 c hc).1
        have e31 : Y2 31 0 c = Y 31 0 c := u2 31 0 c (by omega)
        have nc : ¬ nI m ≤ nI c := fun q => by
          have := (zn_le (by omega) (by omega)).mp q
          omega
        unfold X6_standing
        rw [if_neg (zn_nn (by omega)), e29, if_neg nc, show (rd (0 : Int32) 9) = some 0 from rd_nI (a := 0) (by omega) (by omega), Option.bind_some, e350, ← hv]
        by_cases c1 : Y 35 0 0 = -1
        · rw [if_pos c1, if_pos c1]; rfl
        · rw [if_neg c1, if_neg c1, rd_nI (by omega) (by omega), Option.bind_some, e30]
          cases hb : lnB X i l c with
          | true => rw [show (if (true = true) then (1 : Int32) else 0) = 1 from if_pos rfl, if_neg (by decide), if_pos rfl]
          | false =>
            rw [iff_f, if_pos rfl, Option.bind_some, bcE_eq, bind2_some, iff_f]
            by_cases c2 : bcE (Y2 39 0 c) ≤ 1
            · rw [if_pos c2, if_pos c2, Option.bind_some, e31]
              by_cases c3 : Y 31 0 c = 0
              · rw [if_pos c3, if_pos c3]
              · rw [if_neg c3, if_neg c3, Option.bind_some, e31]
                by_cases c4 : Y 31 0 c = 1
                · rw [if_pos c4, if_pos c4]; rfl
                · rw [if_neg c4, if_neg c4]; rfl
            · rw [if_neg c2, if_neg c2]
      have e1 : L_state (gal NL) N (nI i) (nI l) (nI c) a4 X = some (0, mset Y2 81 0 0 v) := by
        unfold L_state X9_state
        rw [X9_leafOf_yes hL h4 hi, bind2_some, if_neg (zn_nn (by omega)), dr_nI ha (by omega), Option.bind_some, hca, bind2_some, if_neg (zn_nn (by omega)), X9_isLayer_eq, bind2_some, if_pos h3, if_neg (by decide), y1, bind2_some, u1, bind2_some, est, bind2_some, bind3_some, if_pos rfl]
      obtain ⟨Z, z1, z2, z3, z4⟩ := y6 (mset (mset Y2 81 0 0 v) 43 0 46 0) (fun k p j hk => by
        rw [mset_at, if_neg (by omega), mset_at, if_neg (by omega), u2 k p j (by omega), y2 k p j (by omega)])
      have h68 : ∀ c, c ≤ m → Z 68 0 c = enc (S.1 c) := fun c hc => (z4 c (Nat.zero_le c) hc).1
      have z46 : Z 43 0 46 = 0 := by rw [z2 43 0 46 (by omega), mset_same]
      have z81 : Z 81 0 0 = v := by rw [z2 81 0 0 (by omega), mset_at, if_neg (by omega), mset_same]
      have z46i : Z 46 0 i = nI m := by rw [z2 46 0 i (by omega), mset_at, if_neg (by omega), mset_at, if_neg (by omega), u2 46 0 i (by omega), y2 46 0 i (by omega), f46]
      have key : ∃ Z', X10_state al N (nI i) (nI l) (nI c) a4 (mset Y2 81 0 0 v) = some (v, Z') ∧ ∀ k q j, ¬ (q = 0 ∧ k = 69) → Z' k q j = Z k q j := by
        have hic := X10_isCell_eq (al := al) (N := N) (X := mset Y2 81 0 0 v) (q := nI l) (c := nI c) (by rw [mset_at, if_neg (by omega), u2 43 0 0 (by omega), y2 43 0 0 (by omega), h430]) hL hi (by rw [mset_at, if_neg (by omega), u2 45 0 i (by omega), y2 45 0 i (by omega), f45]) (by rw [mset_at, if_neg (by omega), u2 46 0 i (by omega), y2 46 0 i (by omega), f46]) kl kw
        rw [if_pos hcell] at hic
        unfold X10_state
        rw [hic, bind2_some, if_neg (by decide), X10_in_eq, bind2_some, if_pos h3, if_neg (by decide)]
        unfold X10_state_J31
        rw [gl_eq, mset_same, if_pos (by decide), z1, bind2_some, show (rd (0 : Int32) 9) = some 0 from rd_nI (a := 0) (by omega) (by omega), Option.bind_some, h68 0 (Nat.zero_le m), ← hv, h35 0 (Nat.zero_le m)]
        rcases hB0e with hB0e | hB0e
        · have en : ¬ enc (S.1 0) = -1 := by rw [hB0e]; exact zn_ne1 (by omega)
          have e72 : Z 72 0 c = if lnB X i l c = true then 1 else 0 := (z3.2.2.2.1 c hc).1
          have e74 : Z 74 0 c = nI (lnN X i l a4 c) := (z3.2.2.2.1 c hc).2.2.1
          rw [if_neg en, if_neg en, rd_nI (by omega) (by omega), Option.bind_some, e72]
          cases hb : lnB X i l c with
          | true =>
            rw [show (if (true = true) then (1 : Int32) else 0) = 1 from if_pos rfl, if_neg (by decide), if_pos rfl]
            exact ⟨Z, rfl, fun _ _ _ _ => rfl⟩
          | false =>
            have e31 : Y 31 0 c = nI (lnN X i l a4 c) := ((t4 c hc).2.1 hb).2
            obtain ⟨Z2, w1, w2⟩ := lettersOf_eq (al := al) (N := N) (B := S.1) (B0 := B0) (by omega) z3 hBP hB0 hBb hB0e h68 hc
            have hmask : Y2 39 0 c = (gaT m W (lnB X i l) (lnH X i l m a4) (lnN X i l a4) (lnL X) (lnD X) S.1 B0 m).2 c := u3 hB0e c hc
            obtain ⟨⟨-, s2⟩, c', a', g', s3, s4, -, -, -, s5⟩ := gaT_st m W (lnB X i l) (lnH X i l m a4) (lnN X i l a4) (lnL X) (lnD X) S.1 B0 hBP hwd hfl hB0e m (Nat.le_refl m)
            have hm0 := s5 c (by omega) hb
            have hm26 := s2 c
            rw [← hmask] at w1 hm0 hm26
            generalize Y2 39 0 c = mk at w1 hm0 hm26
            have hone := one_all hm0 hm26
            rw [iff_f, if_pos rfl, iff_f, rd_nI (by omega) (by omega), Option.bind_some, z46i, w1, bind2_some, isOne_eq, bind2_some]
            have e74' : Z2 74 0 c = nI (lnN X i l a4 c) := by rw [w2 74 0 c (by omega), e74]
            by_cases c2 : mk &&& (mk - 1) = 0
            · have hc2 : ¬ mk = 0 ∧ mk &&& (mk - 1) = 0 := ⟨hm0, c2⟩
              have i1 : ¬ (1 : Int32) = 0 := by decide
              rw [if_pos (hone.mpr c2), if_pos hc2, if_neg i1, Option.bind_some, e74', e31]
              by_cases c3 : nI (lnN X i l a4 c) = (0 : Int32)
              · rw [if_pos c3, if_pos c3]
                exact ⟨Z2, rfl, w2⟩
              · rw [if_neg c3, if_neg c3, Option.bind_some, e74']
                by_cases c4 : nI (lnN X i l a4 c) = (1 : Int32)
                · rw [if_pos c4, if_pos c4]
                  exact ⟨Z2, rfl, w2⟩
                · rw [if_neg c4, if_neg c4]
                  exact ⟨Z2, rfl, w2⟩
            · have hc2 : ¬ (¬ mk = 0 ∧ mk &&& (mk - 1) = 0) := fun q => c2 q.2
              rw [if_neg (mt hone.mp c2), if_neg hc2, if_pos rfl]
              exact ⟨Z2, rfl, w2⟩
        · have en : enc (S.1 0) = -1 := by rw [hB0e]; rfl
          rw [if_pos en, if_pos en]
          exact ⟨Z, rfl, fun _ _ _ _ => rfl⟩
      obtain ⟨Z', k1, k2⟩ := key
      refine ⟨0, Z', K_ans e1 k1 (by rw [k2 43 0 46 (by omega), z46]) (by rw [k2 81 0 0 (by omega), z81]), gJ_sm (fun k p j hs => ?_) h⟩
      have hk : ¬ ((68 ≤ k ∧ k ≤ 81) ∨ (29 ≤ k ∧ k ≤ 36) ∨ k = 38 ∨ k = 39 ∨ (k = 43 ∧ (j = 29 ∨ j = 30 ∨ j = 46))) := by
        intro hc
        simp [scr] at hs
        omega
      rw [k2 k p j (by omega), z2 k p j (by omega), mset_at, if_neg (by omega), mset_at, if_neg (by omega), u2 k p j (by omega), y2 k p j (by omega)]
    · refine ⟨_, _, K_thrown (k := 2) (r := 0) (X1 := X) (X2 := mset X 43 0 46 2) ?_ ?_ (mset_same ..) (by decide), gJ_th _ h⟩
      · unfold L_state X9_state
        rw [X9_leafOf_yes hL h4 hi, bind2_some, if_neg (zn_nn (by omega)), dr_nI ha (by omega), Option.bind_some, hca, bind2_some, if_neg (zn_nn (by omega)), X9_isLayer_eq, bind2_some, if_neg h3, if_pos rfl]
        rfl
      · unfold X10_state
        rw [X10_isCell_eq h430 hL hi f45 f46 kl kw, if_pos hcell, bind2_some, if_neg (by decide), X10_in_eq, bind2_some, if_neg h3, if_pos rfl]
        unfold X10_state_J31
        rw [gl_eq, mset_same, if_neg (by decide)]
