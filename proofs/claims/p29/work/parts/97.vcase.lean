/-! rests: the case -/
theorem case24 {NL : List (Nat × Nat)} {al : Nat → Nat → Bool} {N : Nat} {X : gM} (hN : 1000000 ≤ N) (a1 a2 a3 a4 a5 a6 : Int32) (h : gJ NL X) : ∃ (rr : Int32) (X' : gM), K24 (gal NL) al N [] a1 a2 a3 a4 a5 a6 X = some (rr, X') ∧ gJ NL X' := by
  unfold K24
  rw [eqn_nil, Option.bind_some]
  obtain ⟨L, F, D, W, K, hJ⟩ := id h
  have hJ' : JJ NL L F D W K X := hJ
  obtain ⟨g1, g2, g3, g4, g5, g6, g7, g8, g9, g10, g11, g12⟩ := id hJ
  obtain ⟨hL, h430, -, h4, hlv⟩ := id g2
  rcases ir_or a1 (n := L) (by omega) with ⟨x, hx, rfl⟩ | hx
  · obtain ⟨b, ln, w, hb, -, -, -, -, h44, -, -, h50, h51, -⟩ := hlv x hx
    have ha : gal NL 12 b = true := gal_al g1 hb
    have ha5 : gal NL 5 x = true := gal_al g1 hx
    have hir := ir_nI (n := L) (by omega) hx
    have hs : 3 * b < 6 := by omega
    have hsb : 3 * b / 3 = b := by omega
    have hs' : 3 * b + 2 < 6 := by omega
    have hsb' : (3 * b + 2) / 3 = b := by omega
    have hall : decide (3 * b % 3 = 1) = false := decide_eq_false (by omega)
    have hall' : decide ((3 * b + 2) % 3 = 1) = false := decide_eq_false (by omega)
    have hsur : X5_surveyed (gal NL) N b 0 X = X5_surveyed_J15 (gal NL) N b (3 * b) X := by unfold X5_surveyed; rw [if_pos rfl]
    obtain ⟨Y, y1, y2, y3, hJY⟩ := surv_J (N := N) (by omega) hJ' hs hsb
    have has : gal NL 14 (3 * b) = true := gal_al g1 hs
    have has' : gal NL 14 (3 * b + 2) = true := gal_al g1 hs'
    -- the mask
    generalize hm : Y 15 (3 * b) x = m
    have eY51 : Y 5 x 1 = nI b := by rw [y2 5 x 1 (by omega), h51]
    have eplaces : X9_placesOf (gal NL) N x 0 X = some (m, Y) := by
      unfold X9_placesOf
      rw [h51, dr_nI ha (by omega), Option.bind_some, hsur, y1, bind2_some, dr_nI has (by omega), Option.bind_some, y2 5 x 0 (by omega), h50, rd_nI (by omega) (by omega), Option.bind_some, hm]
    have eclass : X9_rests (gal NL) N (nI x) X = if bcE m = 1 then (bind2 (X5_surveyed_J15 (gal NL) N b (3 * b + 2) Y) fun r16 X17 => X9_rests_L65 (gal NL) N (fun p5 Y => X9_rests_J120 (gal NL) N p5 Y) N (nI x) m r16 0 12 0 X17) else some (0, 0, Y) := by
      unfold X9_rests
      rw [X9_leafOf_yes hL h4 hx, bind2_some, if_neg (zn_nn (by omega)), dr_nI ha5 (by omega), Option.bind_some, eplaces, bind2_some, bcE_eq, bind2_some]
      by_cases c : bcE m = 1
      · rw [if_pos c, if_pos c, eY51, dr_nI ha (by omega), Option.bind_some]
        rfl
      · rw [if_neg c, if_neg c]
    -- the sheets, from a world in which the class's answer lies
    have model : ∀ (Y2 : gM) (r : Int32), JJ NL L F D W K Y2 → sv (3 * b + 2) Y Y2 → ((¬ bcE m = 1 ∧ r = 0) ∨ (bcE m = 1 ∧ Y2 14 (3 * b + 2) 2 ≠ 0 ∧ rsA (fun f => ¬ Y2 17 (3 * b + 2) (10 * f + x) &&& (m ^^^ (-1)) = 0) F r)) → ∃ Z, X10_rests al N (nI x) (mset Y2 81 0 0 r) = some (r, Z) ∧ Z 43 0 46 = 0 ∧ Z 81 0 0 = r ∧ gJ NL Z := by
      intro Y2 r hJ2 hsv2 hr
      have hJG := JJ_sm (Sm_out (X := Y2) r 0) hJ2
      generalize hG : mset (mset Y2 81 0 0 r) 43 0 46 0 = G at hJG
      have eG : ∀ k p j, k ≠ 43 → k ≠ 81 → G k p j = Y2 k p j := fun k p j q1 q2 => by rw [← hG, mset_at, if_neg (fun z => q1 z.1), mset_at, if_neg (fun z => q2 z.1)]
      have e430 : (mset Y2 81 0 0 r) 43 0 0 = nI L := by rw [mset_at, if_neg (by omega)]; exact hJ2.2.1.2.1
      have eG44 : G 44 0 x = nI b := by rw [eG 44 0 x (by omega) (by omega), hsv2 44 0 x (by omega), y2 44 0 x (by omega), h44]
      have hxm : x ∈ lvs (G 44 0) b L := lvs_mem.mpr ⟨hx, eG44⟩
      have hF12 : F ≤ 12 := hJG.2.2.2.2.2.2.1.1
      have eG23 : G 43 0 23 = nI F := hJG.2.2.2.2.2.2.1.2.1
      obtain ⟨sh, Z0, z1, z2, z3, z4, zf, z5, -, z6, -⟩ := arr_J (al := al) (wo := 99) (x := 0) (y := 0) (all := false) (p2 := 0) (p3 := -1) (p4 := -1) (p5 := -1) hN hJG hb ⟨fun _ => rfl, fun _ => rfl⟩ wo99 (Or.inl rfl)
      have hsvG := svOK_of hJG hs (by rw [eG 14 _ 2 (by omega) (by omega), hsv2 14 _ 2 (by omega)]; exact y3) sh _ z2 (by rw [hsb]; exact z3) rfl
      have hmG : G 15 (3 * b) x = m := by rw [eG 15 _ x (by omega) (by omega), hsv2 15 _ x (by omega), hm]
      have hmbits : ∀ v, v < 32 → (mb m v = true ↔ nc (2 * sh) (fun a => fit G F (2 * sh) (lvs (G 44 0) b L) false 99 a ∧ a x = v) (lvs (G 44 0) b L) a00 ≠ 0) := fun v hv => by
        have h1 := hsvG.2.1 x (by rw [hsb]; exact hxm) v hv
        rw [hall, hsb, hmG] at h1
        exact h1
      have hZm : Z0 77 0 x = m := masks_eq (z6 x hxm) hmbits
      obtain ⟨n, hn, hmn⟩ := mask_n (by omega) hxm hmbits
      have hone : bcE m = 1 ↔ ¬ m = 0 ∧ m &&& (m - 1) = 0 := by
        rw [hmn, bcE_256 n hn, ← one_256 n hn]
        have := pop_8 n hn
        exact zn_eql (k := 1) (by omega) (by decide)
      unfold X10_rests
      rw [X10_isLeaf_eq al N _ e430 (by omega), bind2_some, if_pos hir, if_neg (by decide)]
      unfold X10_rests_J14
      rw [gl_eq, mset_same, if_pos (by decide), hG, rd_nI (by omega) (by omega), Option.bind_some, eG44, z4, bind2_some, Option.bind_some, gl_eq, hZm]
      refine m_up0 F (fun fu i (y : Int32 × gM) => X10_rests_L52 al N (fun p3 Y => X10_rests_J110 al N p3 Y) fu (nI x) m y.1 i y.2)
        (fun i y => (∀ k p j, k ≠ 75 → k ≠ 76 → k ≠ 77 → ¬ (k = 43 ∧ (j = 40 ∨ j = 42)) → y.2 k p j = G k p j) ∧ ((¬ bcE m = 1 ∧ y.1 = 0) ∨ (bcE m = 1 ∧ rsA (fun f => ¬ Y2 17 (3 * b + 2) (10 * f + x) &&& (m ^^^ (-1)) = 0) i y.1))) (fun o => ∃ Z, o = some (r, Z) ∧ Z 43 0 46 = 0 ∧ Z 81 0 0 = r ∧ gJ NL Z) (0, Z0) (by omega) ?_ ?_ ⟨fun k p j q1 q2 q3 q4 => zf k p j q1 q2 (fun z => q3 z.1) q4, ?_⟩
      · rintro i fu ⟨y0, y⟩ hi ⟨w1, w2⟩ ih
        have w1' : ∀ k p j, k ≠ 75 → k ≠ 76 → k ≠ 77 → ¬ (k = 43 ∧ (j = 40 ∨ j = 42)) → y k p j = G k p j := w1
        have e23 : y 43 0 23 = nI F := by rw [w1' 43 0 23 (by omega) (by omega) (by omega) (by omega), eG23]
        have nF : ¬ nI F ≤ nI i := fun q => by
          have := (zn_le (by omega) (by omega)).mp q
          omega
        have hSy : Sm G y := fun k i' j hs => w1' k i' j (by rintro rfl; exact absurd hs (by simp [scr])) (by rintro rfl; exact absurd hs (by simp [scr])) (by rintro rfl; exact absurd hs (by simp [scr])) (by
          rintro ⟨rfl, rfl | rfl⟩
          · exact absurd hs (by simp [scr])
          · exact absurd hs (by simp [scr]))
        have hJy := JJ_sm hSy hJG
        show ∃ Z, X10_rests_L52 al N (fun p3 Y => X10_rests_J110 al N p3 Y) (fu + 1) (nI x) m y0 (nI i) y = some (r, Z) ∧ _
        unfold X10_rests_L52
        rw [e23, if_neg nF, isOne_eq, bind2_some]
        by_cases c : bcE m = 1
        · obtain ⟨q1, q2, q3⟩ := (hr.resolve_left (fun z => z.1 c))
          have w2' := (w2.resolve_left (fun z => z.1 c)).2
          rw [if_pos (hone.mp c), if_neg (by decide), rd_nI (by omega) (by omega), Option.bind_some]
          have ey44 : y 44 0 x = nI b := by rw [w1' 44 0 x (by omega) (by omega) (by omega) (by omega), eG44]
          have ey44f : y 44 0 = G 44 0 := funext fun j => w1' 44 0 j (by omega) (by omega) (by omega) (by omega)
          obtain ⟨sh', Z1, v1, v2, v3, v4, vf, v5, -, v6, -⟩ := arr_J (al := al) (wo := i) (x := 0) (y := 0) (all := false) (p2 := 0) (p3 := nI i) (p4 := -1) (p5 := -1) hN hJy hb ⟨fun _ => rfl, fun _ => rfl⟩ (fun f hf => by
            rw [zn_eq (by omega) (by omega)]) (Or.inl rfl)
          have esh : sh' = sh := by
            rw [w1' 53 0 b (by omega) (by omega) (by omega) (by omega), z3] at v3
            exact ((zn_eq (by omega) (by omega)).mp v3).symm
          subst esh
          rw [ey44, v4, bind2_some, Option.bind_some]
          rw [ey44f] at v6 vf
          have h3 : ∀ v, v < 32 → (mb (Z1 77 0 x) v = true ↔ nc (2 * sh') (fun a => fit G F (2 * sh') (lvs (G 44 0) b L) false i a ∧ a x = v) (lvs (G 44 0) b L) a00 ≠ 0) := fun v hv => by
            rw [v6 x hxm v hv]
            have : nc (2 * sh') (fun a => fit y F (2 * sh') (lvs (G 44 0) b L) false i a ∧ a x = v) (lvs (G 44 0) b L) a00 = nc (2 * sh') (fun a => fit G F (2 * sh') (lvs (G 44 0) b L) false i a ∧ a x = v) (lvs (G 44 0) b L) a00 := nc_cgv _ _ fun a _ => and_congr (fit_e (fun k j k1 k2 => w1' k 0 j (by omega) (by omega) (by omega) (by omega)) a) Iff.rfl
            rw [this]
          have hsvG2 := svOK_of hJG hs' (by rw [eG 14 _ 2 (by omega) (by omega)]; exact q2) sh' _ v2 (by rw [hsb']; exact z3) rfl
          have h2 : ∀ v, v < 32 → (mb (Y2 17 (3 * b + 2) (10 * i + x)) v = true ↔ nc (2 * sh') (fun a => fito G F (2 * sh') (lvs (G 44 0) b L) i a ∧ a x = v) (lvs (G 44 0) b L) a00 ≠ 0) := fun v hv => by
            have h1 := hsvG2.2.2.2 (by omega) i (by omega) x (by rw [hsb']; exact hxm) v hv
            rw [hsb', eG 17 _ _ (by omega) (by omega)] at h1
            exact h1
          have hout := mask_out hF12 hi hmbits h2 h3
          have hnf : ∀ k p j, k ≠ 75 → k ≠ 76 → k ≠ 77 → ¬ (k = 43 ∧ (j = 40 ∨ j = 42)) → Z1 k p j = G k p j := fun k p j u1 u2 u3 u4 => by rw [vf k p j u1 u2 (fun z => u3 z.1) u4, w1' k p j u1 u2 u3 u4]
          by_cases c2 : Z1 77 0 x = m
          · rw [if_pos c2]
            show ∃ Z, X10_rests_L52 al N _ fu (nI x) m (y0 ||| 0) (nI i + 1) Z1 = some (r, Z) ∧ _
            rw [zn_a1, Int32.or_zero]
            exact ih (y0, Z1) ⟨hnf, Or.inr ⟨c, y0, w2', Or.inr ⟨fun z => z (hout.mp c2), rfl⟩⟩⟩
          · rw [if_neg c2]
            show ∃ Z, X10_rests_L52 al N _ fu (nI x) m (y0 ||| ((1 : Int32) <<< (nI i &&& 31))) (nI i + 1) Z1 = some (r, Z) ∧ _
            rw [zn_a1]
            exact ih (_, Z1) ⟨hnf, Or.inr ⟨c, y0, w2', Or.inl ⟨fun z => c2 (hout.mpr z), rfl⟩⟩⟩
        · rw [if_neg (fun q => c (hone.mpr q)), if_pos rfl]
          have h0 : r = 0 := (hr.resolve_right (fun z => c z.1)).2
          have h0' : y0 = 0 := (w2.resolve_right (fun z => c z.1)).2
          refine ⟨y, ?_, ?_, ?_, JJ_gJ hJy⟩
          · show some (y0, y) = some (r, y)
            rw [h0, h0']
          · rw [w1' 43 0 46 (by omega) (by omega) (by omega) (by omega), ← hG, mset_same]
          · rw [w1' 81 0 0 (by omega) (by omega) (by omega) (by omega), ← hG, mset_at, if_neg (by omega), mset_same]
      · rintro fu ⟨y0, y⟩ ⟨w1, w2⟩
        have w1' : ∀ k p j, k ≠ 75 → k ≠ 76 → k ≠ 77 → ¬ (k = 43 ∧ (j = 40 ∨ j = 42)) → y k p j = G k p j := w1
        have e23 : y 43 0 23 = nI F := by rw [w1' 43 0 23 (by omega) (by omega) (by omega) (by omega), eG23]
        have hSy : Sm G y := fun k i' j hs => w1' k i' j (by rintro rfl; exact absurd hs (by simp [scr])) (by rintro rfl; exact absurd hs (by simp [scr])) (by rintro rfl; exact absurd hs (by simp [scr])) (by
          rintro ⟨rfl, rfl | rfl⟩
          · exact absurd hs (by simp [scr])
          · exact absurd hs (by simp [scr]))
        show ∃ Z, X10_rests_L52 al N (fun p3 Y => X10_rests_J110 al N p3 Y) (fu + 1) (nI x) m y0 (nI F) y = some (r, Z) ∧ _
        unfold X10_rests_L52
        rw [e23, if_pos (Int32.le_refl _)]
        have hy0 : y0 = r := by
          rcases hr with ⟨q1, q2⟩ | ⟨q1, q2, q3⟩
          · rw [q2]
            exact (w2.resolve_right (fun z => q1 z.1)).2
          · exact rsA_u (w2.resolve_left (fun z => z.1 q1)).2 q3
        refine ⟨y, ?_, ?_, ?_, JJ_gJ (JJ_sm hSy hJG)⟩
        · show some (y0, y) = some (r, y)
          rw [hy0]
        · rw [w1' 43 0 46 (by omega) (by omega) (by omega) (by omega), ← hG, mset_same]
        · rw [w1' 81 0 0 (by omega) (by omega) (by omega) (by omega), ← hG, mset_at, if_neg (by omega), mset_same]
      · by_cases c : bcE m = 1
        · exact Or.inr ⟨c, rfl⟩
        · exact Or.inl ⟨c, rfl⟩
    by_cases c : bcE m = 1
    · obtain ⟨Y2, u1, u2, u3, hJ2⟩ := surv_J (N := N) (by omega) hJY hs' hsb'
      obtain ⟨hF12, -, -, h22, hfc⟩ := id hJ2.2.2.2.2.2.2.1
      obtain ⟨r, r1, r2⟩ := rests_class (al := gal NL) (N := N) (m := m) (x := x) (by omega) hF12 (by omega) hs' has' h22 (fun f hf => by
        obtain ⟨k, a, o, b', -, -, -, -, -, -, -, -, -, w0, -⟩ := hfc f hf
        exact ⟨gal_al g1 hf, w0⟩)
      obtain ⟨Z, m1, m2, m3, m4⟩ := model Y2 r hJ2 u2 (Or.inr ⟨c, u3, r2⟩)
      rw [if_pos c, u1, bind2_some, r1] at eclass
      refine ⟨_, _, K_ans (r := r) (X1 := mset Y2 81 0 0 r) (X2 := Z) ?_ m1 m2 m3, m4⟩
      unfold L_rests
      rw [eclass, bind3_some, if_pos rfl]
    · obtain ⟨Z, m1, m2, m3, m4⟩ := model Y 0 hJY (fun _ _ _ _ => rfl) (Or.inl ⟨c, rfl⟩)
      rw [if_neg c] at eclass
      refine ⟨_, _, K_ans (r := 0) (X1 := mset Y 81 0 0 0) (X2 := Z) ?_ m1 m2 m3, m4⟩
      unfold L_rests
      rw [eclass, bind3_some, if_pos rfl]
  · refine ⟨_, _, K_thrown (k := 1) (r := 0) (X1 := X) (X2 := mset X 43 0 46 1) ?_ ?_ (mset_same ..) (by decide), gJ_th _ h⟩
    · unfold L_rests X9_rests
      rw [X9_leafOf_no hL h4 hx, bind2_some, if_pos m1_neg, bind3_some]
      rfl
    · unfold X10_rests
      rw [X10_isLeaf_eq al N _ h430 (by omega), bind2_some, if_neg hx, if_pos rfl]
      unfold X10_rests_J14
      rw [gl_eq, mset_same, if_neg (by decide)]
