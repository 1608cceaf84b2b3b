/-! the case leaf -/
theorem front_in (p : Int32) : (-1 ≤ p ∧ p ≤ 1) ↔ (p = 0 ∨ p = 1 ∨ p = -1) := by
  constructor
  · rintro ⟨h1, h2⟩
    have q1 := Int32.le_iff_toInt_le.mp h1
    have q2 := Int32.le_iff_toInt_le.mp h2
    have e1 : (-1 : Int32).toInt = -1 := rfl
    have e2 : (1 : Int32).toInt = 1 := rfl
    have e0 : (0 : Int32).toInt = 0 := rfl
    have : p.toInt = 0 ∨ p.toInt = 1 ∨ p.toInt = -1 := by omega
    rcases this with q | q | q
    · exact Or.inl (Int32.toInt_inj.mp (q.trans e0.symm))
    · exact Or.inr (Or.inl (Int32.toInt_inj.mp (q.trans e2.symm)))
    · exact Or.inr (Or.inr (Int32.toInt_inj.mp (q.trans e1.symm)))
  · rintro (rfl | rfl | rfl) <;> decide
theorem X2_init_eq {al : Nat → Nat → Bool} {N L ln w b : Nat} (hN : 1000 ≤ N) (hL : L < 10) (hb : b < 2) (hln : ln ≤ 4) (hw : w ≤ 8) {X : gM} :
    ∃ Y, X2_init al N L (nI L) b (nI ln) (nI w) X = some (0, Y) ∧ (∀ k p j, ¬ (((k = 7 ∨ k = 8 ∨ k = 9 ∨ k = 10 ∨ k = 85) ∧ 32 * L ≤ p ∧ p < 32 * L + 32) ∨ ((k = 5 ∨ k = 6 ∨ k = 84) ∧ p = L)) → Y k p j = X k p j) ∧
      (∀ j, Y 6 L j = if j < ln * w then nI (32 * L + j) else -1) ∧ (∀ c, c < ln * w → (∀ k, k < 3 → Y 8 (32 * L + c) k = -1) ∧ (∀ j, Y 9 (32 * L + c) j = 0) ∧ (∀ j, Y 10 (32 * L + c) j = 0) ∧ Y 7 (32 * L + c) 3 = -1 ∧ Y 7 (32 * L + c) 4 = -1) ∧
      Y 5 L 0 = nI L ∧ Y 5 L 1 = nI b ∧ Y 5 L 2 = nI ln ∧ Y 5 L 3 = nI w ∧ Y 5 L 7 = 0 ∧ Y 5 L 8 = 0 ∧ Y 5 L 9 = 0 ∧ Y 5 L 10 = 0 ∧ Y 5 L 11 = 0 ∧ Y 5 L 12 = 4095 := by
  generalize hR : mset (msl (mset (mset (mset (mset (mset (mset (mset (mset (mset (mset (mset (mset X 84 L 5 (-1)) 84 L 6 0) 84 L 7 0) 84 L 8 0) 84 L 9 0) 84 L 10 0) 84 L 11 0) 84 L 12 4095) 84 L 0 (nI L)) 84 L 1 (nI b)) 84 L 2 (nI ln)) 84 L 3 (nI w)) 6 L (fun _ => -1)) 84 L 4 (nI L) = R
  have r1 : ∀ k p j, ¬ ((k = 84 ∨ k = 6) ∧ p = L) → R k p j = X k p j := fun k p j hk => by
    rw [← hR]
    simp only [mset_at, msl_at]
    repeat rw [if_neg (by omega)]
  have r6 : ∀ j, R 6 L j = -1 := fun j => by
    rw [← hR]; simp [mset_at, msl_at]
  have hrk : rk_5 L (R 84 L) = some 0 := by
    have e : R 84 L 4 = nI L := by rw [← hR, mset_same]
    unfold rk_5
    rw [e, zn_tN (by omega), if_pos ⟨zn_nn (by omega), rfl⟩]
  obtain ⟨Y, y1, y2, y3, y4⟩ := X2_init_L_eq (al := al) (N := N) (L := L) (ln := ln) (w := w) hN hL (lw_le hln hw) (X := msl R 5 L (R 84 L)) (fun j => by rw [msl_at, if_neg (by omega), r6])
  have y5 : ∀ j, Y 5 L j = R 84 L j := fun j => by
    rw [y2 5 L j (by omega), msl_at, if_pos ⟨rfl, rfl⟩]
  refine ⟨Y, ?_, fun k p j hk => ?_, y3, y4, ?_⟩
  · unfold X2_init
    simp (disch := omega) only [gl_eq, rn_some, Option.bind_some, hR, hrk, y1]
  · rw [y2 k p j (by omega), msl_at, if_neg (by omega), r1 k p j (by omega)]
  · simp only [y5]
    rw [← hR]
    refine ⟨?_, ?_, ?_, ?_, ?_, ?_, ?_, ?_, ?_, ?_⟩ <;> simp [mset_at, msl_at]
theorem avl_off3 {L L' F W K : Nat} {X Y : gM} {k i : Nat} (h5 : k ≠ 5) (h6 : k ≠ 6) (h7 : k ≠ 7) (h8 : k ≠ 8) (h9 : k ≠ 9) (h10 : k ≠ 10) : avl L' F W K Y k i ↔ avl L F W K X k i := by
  unfold avl
  split <;> first | exact Iff.rfl | contradiction | (split <;> first | exact Iff.rfl | contradiction)
theorem lvs_top {x : Nat → Int32} {b L : Nat} (h : x L = nI b) : lvs x b (L + 1) = lvs x b L ++ [L] := by
  rw [lvs, if_pos h]
theorem lvs_ntop {x : Nat → Int32} {b L : Nat} (h : ¬ x L = nI b) : lvs x b (L + 1) = lvs x b L := by
  rw [lvs, if_neg h, List.append_nil]
set_option maxHeartbeats 12000000 in
theorem leaf_new {NL : List (Nat × Nat)} {al : Nat → Nat → Bool} {N : Nat} {X : gM} {L F D W K b ln w v s : Nat} {a4 : Int32} (hN : 1000 ≤ N) (g : jN NL L F W K X ∧ jL L X ∧ jC L X ∧ jZ L X ∧ jH X ∧ jB L X ∧ jF L F X ∧ jD D X ∧ jW W X ∧ jK K X ∧ jI X ∧ jS L F X)
    (hL10 : L < 10) (hb : b < 2) (l1 : 1 ≤ ln) (l2 : ln ≤ 4) (w1 : 1 ≤ w) (w2 : w ≤ 8) (hp : a4 = 0 ∨ a4 = 1 ∨ a4 = -1) (hv : v ≤ 255) (h53 : X 53 0 b = nI s) (hs4 : s ≤ 4) (hl6 : (lvs (X 44 0) b L).length < 6) (hls : (lvs (X 44 0) b L).length < 2 * s)
    (hroom : X5_hasRoom (gal NL) N b X = some (1, X)) :
    ∃ X1 X2, X9_leaf_J72 (gal NL) N ((5, L) :: (6, L) :: cls L (ln * w)) (nI ln) (nI w) a4 (nI v) (nI b) X = some (0, nI L, X1) ∧ X10_leaf_J60 al N (nI b) (nI ln) (nI w) a4 (nI v) 0 (mset X1 81 0 0 (nI L)) = some (nI L, X2) ∧ X2 43 0 46 = 0 ∧ X2 81 0 0 = nI L ∧ gFr NL ((5, L) :: (6, L) :: cls L (ln * w)) ∧ gJ (NL ++ ((5, L) :: (6, L) :: cls L (ln * w))) X2 := by
  obtain ⟨g1, g2, g3, g4, g5, g6, g7, g8, g9, g10, g11, g12⟩ := g
  obtain ⟨hL, h430, h002, h4, hlf⟩ := id g2
  obtain ⟨h11, hB⟩ := id g6
  obtain ⟨hF12, e1, e2, h22, hf⟩ := id g7
  have hlw := lw_le l2 w2
  have ha12 : gal NL 12 b = true := gal_al g1 hb
  obtain ⟨s', s1', s2', h53', h12, h122, hm6, hms, h13⟩ := hB b hb
  obtain ⟨Y, y1, y2, y6, yc, y0, y1', y2', y3', y7, y8, y9, y10, y11, y12⟩ := X2_init_eq (al := gal NL) (N := N) (L := L) (ln := ln) (w := w) (b := b) hN hL10 hb l2 w2 (X := msl X 84 L rz_84)
  generalize hlen : (lvs (X 44 0) b L).length = len at *
  have y2X : ∀ k p j, ¬ (((k = 7 ∨ k = 8 ∨ k = 9 ∨ k = 10 ∨ k = 85) ∧ 32 * L ≤ p ∧ p < 32 * L + 32) ∨ ((k = 5 ∨ k = 6 ∨ k = 84) ∧ p = L)) → Y k p j = X k p j := fun k p j hk => by
    rw [y2 k p j hk, msl_at, if_neg (by omega)]
  generalize hX1 : mset (fgt (mset (mset (mset (mset (mset Y 5 L 5 a4) 5 L 6 (nI v)) 4 0 L (nI L)) 13 b len (nI L)) 12 b 2 (nI (len + 1))) b) 0 0 2 (nI (L + 1)) = X1
  have x1 : ∀ k p j, ¬ ((k = 5 ∧ p = L) ∨ (k = 4 ∧ j = L) ∨ (k = 13 ∧ p = b ∧ j = len) ∨ (k = 12 ∧ p = b ∧ j = 2) ∨ k = 14 ∨ (k = 0 ∧ j = 2)) → X1 k p j = Y k p j := fun k p j hk => by
    rw [← hX1]
    simp only [fgt, mset_at]
    rw [if_neg (by omega), if_neg (by omega), if_neg (by omega), if_neg (by omega), if_neg (by omega), if_neg (by omega), if_neg (by omega), if_neg (by omega), if_neg (by omega)]
  have x14 : ∀ s j, X1 14 s j = if j = 2 ∧ s / 3 = b then 0 else X 14 s j := fun s j => by
    have e14 : (mset (mset (mset (mset (mset Y 5 L 5 a4) 5 L 6 (nI v)) 4 0 L (nI L)) 13 b len (nI L)) 12 b 2 (nI (len + 1))) 14 s j = X 14 s j := by
      simp only [mset_at]
      rw [if_neg (by omega), if_neg (by omega), if_neg (by omega), if_neg (by omega), if_neg (by omega), y2X 14 s j (by omega)]
    rw [← hX1, mset_at, if_neg (by omega), fgt_14, e14]
  have hA : X9_leaf_J72 (gal NL) N ((5, L) :: (6, L) :: cls L (ln * w)) (nI ln) (nI w) a4 (nI v) (nI b) X = some (0, nI L, X1) := by
    have c5 : (0 : Int32) ≤ nI v ∧ nI v ≤ 255 := (ir_le (nI v) 255 (by omega)).mpr (ir_nI (by omega) (by omega))
    have q0 : X9_isWithin (gal NL) N (nI v) 0 255 X = some (1, X) := by rw [X9_isWithin_eq, if_pos c5]
    have q1 : eqn ((5, L) :: (6, L) :: cls L (ln * w)) ((5, L) :: (6, L) :: cls L (ln * w)) = some () := if_pos rfl
    have q2 : (msl X 84 L rz_84) 0 0 2 = nI L := by rw [msl_at, if_neg (by omega), h002]
    have q3 : (mset (mset Y 5 L 5 a4) 5 L 6 (nI v)) 0 0 2 = nI L := by
      rw [mset_at, if_neg (by omega), mset_at, if_neg (by omega), y2X 0 0 2 (by omega), h002]
    have q4 : X5_take (gadd (gal NL) ((5, L) :: (6, L) :: cls L (ln * w))) N b (nI L) (mset (mset (mset Y 5 L 5 a4) 5 L 6 (nI v)) 4 0 L (nI L)) = some (0, fgt (mset (mset (mset (mset (mset Y 5 L 5 a4) 5 L 6 (nI v)) 4 0 L (nI L)) 13 b len (nI L)) 12 b 2 (nI (len + 1))) b) := by
      have t1 : (mset (mset (mset Y 5 L 5 a4) 5 L 6 (nI v)) 4 0 L (nI L)) 12 b 2 = nI len := by
        rw [mset_at, if_neg (by omega), mset_at, if_neg (by omega), mset_at, if_neg (by omega), y2X 12 b 2 (by omega), h122]
      have t2 : (mset (mset (mset (mset Y 5 L 5 a4) 5 L 6 (nI v)) 4 0 L (nI L)) 13 b len (nI L)) 12 b 2 = nI len := by
        rw [mset_at, if_neg (by omega), t1]
      have t3 : dr (gadd (gal NL) ((5, L) :: (6, L) :: cls L (ln * w))) 5 (nI L) = some L := dr_nI (by unfold gadd; simp) (by omega)
      simp (disch := omega) only [X5_take, t1, zn_ltl, if_pos, t3, rd_nI, Option.bind_some, gl_eq, t2, zn_addl, X5_forget_eq, bind2_some]
    have q5 : (fgt (mset (mset (mset (mset (mset Y 5 L 5 a4) 5 L 6 (nI v)) 4 0 L (nI L)) 13 b len (nI L)) 12 b 2 (nI (len + 1))) b) 0 0 2 = nI L := by
      simp only [fgt, mset_at]
      rw [if_neg (by omega), if_neg (by omega), if_neg (by omega), if_neg (by omega), if_neg (by omega), if_neg (by omega), if_neg (by omega), if_neg (by omega), y2X 0 0 2 (by omega), h002]
    have q6 : X1 5 L 0 = nI L := by
      rw [← hX1]
      simp only [fgt, mset_at]
      rw [if_neg (by omega), if_neg (by omega), if_neg (by omega), if_neg (by omega), if_neg (by omega), if_neg (by omega), if_neg (by omega), if_neg (by omega), if_neg (by omega), y0]
    simp (disch := omega) only [X9_leaf_J72, q0, i10, if_false, if_true, eq_self, bind2_some, h002, zn_lle, if_neg, dr_nI ha12 (by omega : b < 2147483648), Option.bind_some, hroom, rd_nI, zn_mul, lfc_eq, q1, gl_eq, q2, y1, q3, q4, q5, zn_addl, hX1, q6]
  generalize hX2 : mset (mset (mset (mset (mset (mset (mset (mset (mset (mset X1 81 0 0 (nI L)) 43 0 46 0) 43 0 46 0) 44 0 L (nI b)) 45 0 L (nI ln)) 46 0 L (nI w)) 47 0 L a4) 48 0 L (nI v)) 52 0 L 4095) 43 0 0 (nI (L + 1)) = X2
  have x2 : ∀ k p j, ¬ (k = 81 ∨ (k = 43 ∧ (j = 46 ∨ j = 0)) ∨ ((k = 44 ∨ k = 45 ∨ k = 46 ∨ k = 47 ∨ k = 48 ∨ k = 52) ∧ j = L)) → X2 k p j = X1 k p j := fun k p j hk => by
    rw [← hX2]
    simp only [mset_at]
    rw [if_neg (by omega), if_neg (by omega), if_neg (by omega), if_neg (by omega), if_neg (by omega), if_neg (by omega), if_neg (by omega), if_neg (by omega), if_neg (by omega), if_neg (by omega)]
  have hZ : ∀ k p j, ¬ (k = 81 ∨ (k = 43 ∧ (j = 46 ∨ j = 0)) ∨ ((k = 44 ∨ k = 45 ∨ k = 46 ∨ k = 47 ∨ k = 48 ∨ k = 52) ∧ j = L) ∨ (k = 4 ∧ j = L) ∨ (k = 13 ∧ p = b ∧ j = len) ∨ (k = 12 ∧ p = b ∧ j = 2) ∨ k = 14 ∨ (k = 0 ∧ j = 2) ∨ ((k = 7 ∨ k = 8 ∨ k = 9 ∨ k = 10 ∨ k = 85) ∧ 32 * L ≤ p ∧ p < 32 * L + 32) ∨ ((k = 5 ∨ k = 6 ∨ k = 84) ∧ p = L)) → X2 k p j = X k p j := fun k p j hk => by
    rw [x2 k p j (by omega), x1 k p j (by omega), y2X k p j (by omega)]
  have n43 : X2 43 0 0 = nI (L + 1) := by rw [← hX2, mset_same]
  have n44 : X2 44 0 L = nI b := by rw [← hX2]; simp [mset_at]
  have n45 : X2 45 0 L = nI ln := by rw [← hX2]; simp [mset_at]
  have n46 : X2 46 0 L = nI w := by rw [← hX2]; simp [mset_at]
  have n47 : X2 47 0 L = a4 := by rw [← hX2]; simp [mset_at]
  have n48 : X2 48 0 L = nI v := by rw [← hX2]; simp [mset_at]
  have n52 : X2 52 0 L = 4095 := by rw [← hX2]; simp [mset_at]
  have hB2 : X10_leaf_J60 al N (nI b) (nI ln) (nI w) a4 (nI v) 0 (mset X1 81 0 0 (nI L)) = some (nI L, X2) := by
    have r0 : (mset (mset X1 81 0 0 (nI L)) 43 0 46 0) 43 0 0 = nI L := by rw [mset_at, if_neg (by omega), mset_at, if_neg (by omega), x1 43 0 0 (by omega), y2X 43 0 0 (by omega), h430]
    have r44 : (mset (mset X1 81 0 0 (nI L)) 43 0 46 0) 44 0 = X 44 0 := funext fun j => by
      rw [mset_at, if_neg (by omega), mset_at, if_neg (by omega), x1 44 0 j (by omega), y2X 44 0 j (by omega)]
    have r53 : (mset (mset X1 81 0 0 (nI L)) 43 0 46 0) 53 0 b = nI s := by rw [mset_at, if_neg (by omega), mset_at, if_neg (by omega), x1 53 0 b (by omega), y2X 53 0 b (by omega), h53]
    have hlv := X10_leavesOf_eq (al := al) (N := N) (L := L) (b := b) r0 hL hN
    rw [r44, hlen] at hlv
    have c0 : (mset (mset (mset X1 81 0 0 (nI L)) 43 0 46 0) 43 0 46 0) 43 0 0 = nI L := by rw [mset_at, if_neg (by omega), r0]
    have c1 : (mset (mset (mset (mset X1 81 0 0 (nI L)) 43 0 46 0) 43 0 46 0) 44 0 L (nI b)) 43 0 0 = nI L := by rw [mset_at, if_neg (by omega), c0]
    have c2 : (mset (mset (mset (mset (mset X1 81 0 0 (nI L)) 43 0 46 0) 43 0 46 0) 44 0 L (nI b)) 45 0 L (nI ln)) 43 0 0 = nI L := by rw [mset_at, if_neg (by omega), c1]
    have c3 : (mset (mset (mset (mset (mset (mset X1 81 0 0 (nI L)) 43 0 46 0) 43 0 46 0) 44 0 L (nI b)) 45 0 L (nI ln)) 46 0 L (nI w)) 43 0 0 = nI L := by rw [mset_at, if_neg (by omega), c2]
    have c4 : (mset (mset (mset (mset (mset (mset (mset X1 81 0 0 (nI L)) 43 0 46 0) 43 0 46 0) 44 0 L (nI b)) 45 0 L (nI ln)) 46 0 L (nI w)) 47 0 L a4) 43 0 0 = nI L := by rw [mset_at, if_neg (by omega), c3]
    have c5 : (mset (mset (mset (mset (mset (mset (mset (mset X1 81 0 0 (nI L)) 43 0 46 0) 43 0 46 0) 44 0 L (nI b)) 45 0 L (nI ln)) 46 0 L (nI w)) 47 0 L a4) 48 0 L (nI v)) 43 0 0 = nI L := by rw [mset_at, if_neg (by omega), c4]
    have c6 : (mset (mset (mset (mset (mset (mset (mset (mset (mset X1 81 0 0 (nI L)) 43 0 46 0) 43 0 46 0) 44 0 L (nI b)) 45 0 L (nI ln)) 46 0 L (nI w)) 47 0 L a4) 48 0 L (nI v)) 52 0 L 4095) 43 0 0 = nI L := by rw [mset_at, if_neg (by omega), c5]
    have d0 : ¬ L = 10 := by omega
    have d1 : ¬ len = 6 := by omega
    have d2 : ¬ len = 2 * s := by omega
    have d3 : L + 1 - 1 = L := by omega
    simp (disch := omega) only [X10_leaf_J60, X10_leaf_J114, mset_same, gl_eq, j00, if_true, hlv, bind2_some, r0, rd_nI, Option.bind_some, r53, zn_lmul, zn_eql, zn_eq, if_neg d0, if_neg d1, if_neg d2, c0, c1, c2, c3, c4, c5, c6, zn_addl, hX2, n43, zn_subl, d3]
  have hnw : ∀ k i, (k, i) ∈ ((5, L) :: (6, L) :: cls L (ln * w)) ↔ (k = 5 ∧ i = L) ∨ (k = 6 ∧ i = L) ∨ ((k = 7 ∨ k = 8 ∨ k = 9 ∨ k = 10) ∧ ∃ j, j < ln * w ∧ i = 32 * L + j) := fun k i => by
    rw [List.mem_cons, List.mem_cons, cls_mem, Prod.mk.injEq, Prod.mk.injEq]
  refine ⟨X1, X2, hA, hB2, ?_, ?_, ⟨?_, fun n hn => ?_⟩, ?_⟩
  · rw [← hX2]; simp [mset_at]
  · rw [← hX2]; simp [mset_at]
  · rw [List.nodup_cons, List.nodup_cons]
    refine ⟨fun hm => ?_, fun hm => ?_, cls_nd L _⟩
    · rcases List.mem_cons.mp hm with q | q
      · cases q
      · have := (cls_mem.mp q).1
        omega
    · have := (cls_mem.mp hm).1
      omega
  · obtain ⟨k, i⟩ := n
    have hk := (hnw k i).mp hn
    refine ⟨fun hin => ?_, by show k < 82; omega, by show k ≠ 38; omega⟩
    have hav := (g1 k i).mp hin
    rcases hk with ⟨rfl, rfl⟩ | ⟨rfl, rfl⟩ | ⟨rfl | rfl | rfl | rfl, j, hj, rfl⟩
    · change i < i at hav; omega
    · change i < i at hav; omega
    all_goals
      obtain ⟨q, ln', w', j', hq, -, -, z3, z4, z5, z6⟩ := hav
      have := lw_le z3 z4
      omega
  · have o44 : ∀ i, i < L → X2 44 0 i = X 44 0 i := fun i hi => hZ 44 0 i (by omega)
    have o45 : ∀ i, i < L → X2 45 0 i = X 45 0 i := fun i hi => hZ 45 0 i (by omega)
    have o46 : ∀ i, i < L → X2 46 0 i = X 46 0 i := fun i hi => hZ 46 0 i (by omega)
    have hcells : ∀ i, ((∃ q ln w j, q < L ∧ X 45 0 q = nI ln ∧ X 46 0 q = nI w ∧ ln ≤ 4 ∧ w ≤ 8 ∧ j < ln * w ∧ i = 32 * q + j) ∨ ∃ j, j < ln * w ∧ i = 32 * L + j) ↔ ∃ q ln w j, q < L + 1 ∧ X2 45 0 q = nI ln ∧ X2 46 0 q = nI w ∧ ln ≤ 4 ∧ w ≤ 8 ∧ j < ln * w ∧ i = 32 * q + j := by
      intro i
      constructor
      · rintro (⟨q, ln', w', j, z1, z2, z3, z4, z5, z6, z7⟩ | ⟨j, z1, z2⟩)
        · exact ⟨q, ln', w', j, by omega, by rw [o45 q z1]; exact z2, by rw [o46 q z1]; exact z3, z4, z5, z6, z7⟩
        · exact ⟨L, ln, w, j, by omega, n45, n46, l2, w2, z1, z2⟩
      · rintro ⟨q, ln', w', j, z1, z2, z3, z4, z5, z6, z7⟩
        by_cases hq : q = L
        · subst hq
          rw [n45] at z2
          rw [n46] at z3
          have e1 : ln = ln' := (zn_eq (by omega) (by omega)).mp z2
          have e2 : w = w' := (zn_eq (by omega) (by omega)).mp z3
          subst e1
          subst e2
          exact Or.inr ⟨j, z6, z7⟩
        · rw [o45 q (by omega)] at z2
          rw [o46 q (by omega)] at z3
          exact Or.inl ⟨q, ln', w', j, by omega, z2, z3, z4, z5, z6, z7⟩
    have lvb : lvs (X2 44 0) b (L + 1) = lvs (X 44 0) b L ++ [L] := by
      rw [lvs_top n44, lvs_cg o44]
    have lvo : ∀ b', b' ≠ b → b' < 2 → lvs (X2 44 0) b' (L + 1) = lvs (X 44 0) b' L := fun b' hbb hb' => by
      rw [lvs_ntop (fun z => hbb ((zn_eq (by omega) (by omega)).mp (z.symm.trans n44))), lvs_cg o44]
    refine ⟨L + 1, F, D, W, K, ?_, ?_, ?_, ?_, jH_cg (fun k p j hd => hZ k p j (by simp only [djN, djL, djC, djZ, djH, djB, djF, djD, djW, djK, djI, djS, Bool.or_eq_true, Bool.and_eq_true, decide_eq_true_eq] at hd; omega)) g5, ?_, ?_, jD_cg (fun k p j hd => hZ k p j (by simp only [djN, djL, djC, djZ, djH, djB, djF, djD, djW, djK, djI, djS, Bool.or_eq_true, Bool.and_eq_true, decide_eq_true_eq] at hd; omega)) g8, jW_cg (fun k p j hd => hZ k p j (by simp only [djN, djL, djC, djZ, djH, djB, djF, djD, djW, djK, djI, djS, Bool.or_eq_true, Bool.and_eq_true, decide_eq_true_eq] at hd; omega)) g9, jK_cg (fun k p j hd => hZ k p j (by simp only [djN, djL, djC, djZ, djH, djB, djF, djD, djW, djK, djI, djS, Bool.or_eq_true, Bool.and_eq_true, decide_eq_true_eq] at hd; omega)) g10, jI_cg (fun k p j hd => hZ k p j (by simp only [djN, djL, djC, djZ, djH, djB, djF, djD, djW, djK, djI, djS, Bool.or_eq_true, Bool.and_eq_true, decide_eq_true_eq] at hd; omega)) g11, ?_⟩
    · intro k i
      rw [List.mem_append, g1 k i, hnw k i]
      by_cases h5 : k = 5
      · subst h5; simp only [avl]
        constructor
        · rintro (q | ⟨-, q⟩ | ⟨q, -⟩ | ⟨q, -⟩) <;> omega
        · intro q
          by_cases q2 : i = L
          · exact Or.inr (Or.inl ⟨trivial, q2⟩)
          · exact Or.inl (by omega)
      by_cases h6 : k = 6
      · subst h6; simp only [avl]
        constructor
        · rintro (q | ⟨q, -⟩ | ⟨-, q⟩ | ⟨q, -⟩) <;> omega
        · intro q
          by_cases q2 : i = L
          · exact Or.inr (Or.inr (Or.inl ⟨trivial, q2⟩))
          · exact Or.inl (by omega)
      by_cases h7 : k = 7
      · subst h7; simp only [avl]; rw [← hcells i]; simp
      by_cases h8 : k = 8
      · subst h8; simp only [avl]; rw [← hcells i]; simp
      by_cases h9 : k = 9
      · subst h9; simp only [avl]; rw [← hcells i]; simp
      by_cases h10 : k = 10
      · subst h10; simp only [avl]; rw [← hcells i]; simp
      rw [avl_off3 (L := L) (L' := L + 1) (X := X) (Y := X2) h5 h6 h7 h8 h9 h10]
      constructor
      · rintro (q | q)
        · exact q
        · omega
      · exact Or.inl
    · refine ⟨by omega, n43, ?_, fun j => ?_, fun i hi => ?_⟩
      · rw [x2 0 0 2 (by omega), ← hX1, mset_same]
      · by_cases hj : j = L
        · subst hj
          rw [if_pos (by omega), x2 4 0 j (by omega), ← hX1]; simp [fgt, mset_at]
        · rw [hZ 4 0 j (by omega), h4 j]
          by_cases hlt : j < L
          · rw [if_pos hlt, if_pos (by omega)]
          · rw [if_neg hlt, if_neg (by omega)]
      · by_cases hiL : i = L
        · subst hiL
          obtain ⟨-, z49, z50, z51⟩ := g4 i (by omega) (by omega)
          have f5 : ∀ j, j ≠ 5 → j ≠ 6 → X2 5 i j = Y 5 i j := fun j h5 h6 => by
            rw [x2 5 i j (by omega), ← hX1]
            simp only [fgt, mset_at]
            rw [if_neg (by omega), if_neg (by omega), if_neg (by omega), if_neg (by omega), if_neg (by omega), if_neg (by omega), if_neg (by omega), if_neg (by omega), if_neg (by omega)]
          have f55 : X2 5 i 5 = a4 := by
            rw [x2 5 i 5 (by omega), ← hX1]; simp [fgt, mset_at]
          have f56 : X2 5 i 6 = nI v := by
            rw [x2 5 i 6 (by omega), ← hX1]; simp [fgt, mset_at]
          have k49 : ∀ k, k < 3 → X2 49 0 (3 * i + k) = 0 := fun k hk => by rw [hZ 49 0 _ (by omega)]; exact z49 k hk
          have k50 : X2 50 0 i = 0 := by rw [hZ 50 0 _ (by omega)]; exact z50
          have k51 : X2 51 0 i = 0 := by rw [hZ 51 0 _ (by omega)]; exact z51
          refine ⟨b, ln, w, hb, l1, l2, w1, w2, n44, n45, n46, ?_, ?_, ?_, ?_, fun j => ?_, ?_, ?_, ⟨v, hv, n48⟩, ?_, ?_, ?_, ?_, ?_, ⟨0, by omega, k51⟩, ?_, ?_⟩
          · rw [f5 0 (by omega) (by omega), y0]
          · rw [f5 1 (by omega) (by omega), y1']
          · rw [f5 2 (by omega) (by omega), y2']
          · rw [f5 3 (by omega) (by omega), y3']
          · rw [x2 6 i j (by omega), x1 6 i j (by omega), y6 j]
          · rw [n47]; rcases hp with q | q | q
            · exact Or.inr (Or.inl q)
            · exact Or.inr (Or.inr q)
            · exact Or.inl q
          · rw [f55, n47]
          · rw [f56, n48]
          · rw [f5 7 (by omega) (by omega), y7]; exact (k49 0 (by omega)).symm
          · rw [f5 8 (by omega) (by omega), y8]; exact (k49 1 (by omega)).symm
          · rw [f5 9 (by omega) (by omega), y9]; exact (k49 2 (by omega)).symm
          · rw [f5 10 (by omega) (by omega), y10, k50]
          · rw [f5 11 (by omega) (by omega), y11, k51]
          · rw [f5 12 (by omega) (by omega), y12, n52]
        · have hi' : i < L := by omega
          have o5 : ∀ j, X2 5 i j = X 5 i j := fun j => hZ 5 i j (by omega)
          have o6 : ∀ j, X2 6 i j = X 6 i j := fun j => hZ 6 i j (by omega)
          obtain ⟨b', ln', w', zs⟩ := hlf i hi'
          refine ⟨b', ln', w', ?_⟩
          simp only [o5, o6]
          rw [o44 i hi', o45 i hi', o46 i hi', hZ 47 0 i (by omega), hZ 48 0 i (by omega), hZ 49 0 (3 * i) (by omega), hZ 49 0 (3 * i + 1) (by omega), hZ 49 0 (3 * i + 2) (by omega), hZ 50 0 i (by omega), hZ 51 0 i (by omega), hZ 52 0 i (by omega)]
          exact zs
    · intro i ln' w' hi h45 h46 hl4 hw8 l c hl hc
      have hlt := lw_lt hl hc
      have hle := lw_le hl4 hw8
      have e54 : X2 54 0 = X 54 0 := funext fun j => hZ 54 0 j (by omega)
      have e55 : X2 55 0 = X 55 0 := funext fun j => hZ 55 0 j (by omega)
      have e56 : X2 56 0 = X 56 0 := funext fun j => hZ 56 0 j (by omega)
      have e57 : X2 57 0 = X 57 0 := funext fun j => hZ 57 0 j (by omega)
      by_cases hiL : i = L
      · subst hiL
        rw [n45] at h45
        rw [n46] at h46
        have e1 : ln = ln' := (zn_eq (by omega) (by omega)).mp h45
        have e2 : w = w' := (zn_eq (by omega) (by omega)).mp h46
        subst e1
        subst e2
        obtain ⟨zc, -⟩ := g4 i (by omega) (by omega)
        obtain ⟨z56, z57⟩ := zc (8 * l + c) (by omega)
        obtain ⟨v1, v2, v3, v4, v5⟩ := yc (l * w + c) hlt
        have o : ∀ k j, (k = 7 ∨ k = 8 ∨ k = 9 ∨ k = 10) → X2 k (32 * i + (l * w + c)) j = Y k (32 * i + (l * w + c)) j := fun k j hk => by
          rw [x2 k _ j (by omega), x1 k _ j (by omega)]
        have eb : 32 * i + (8 * l + c) = 32 * i + 8 * l + c := by omega
        rw [eb] at z56 z57
        have hu := mUn (im := X 56 0) (ov := X 54 0) (un := X 55 0) (b := 32 * i + 8 * l + c) z56
        refine ⟨fun k hk => ?_, ?_, ?_, fun s hs => ?_⟩
        · rw [o 8 k (by omega), v1 k hk, e56, z56 k hk]
        · rw [o 7 3 (by omega), v4, e54, e55, e56, hu.2]
        · rw [o 7 4 (by omega), v5, e54, e55, e56, hu.1]
        · refine ⟨0, 0, 0, 0, 0, 0, by omega, by omega, by omega, by omega, by omega, by omega, ?_, ?_, ?_, ?_, ?_, ?_, fun q => absurd rfl q, fun q => absurd rfl q, fun q => absurd rfl q, fun k hk => ?_⟩
          · rw [o 9 _ (by omega), v2]; rfl
          · rw [o 9 _ (by omega), v2]; rfl
          · rw [o 9 _ (by omega), v2]; rfl
          · rw [o 10 _ (by omega), v3]; rfl
          · rw [o 10 _ (by omega), v3]; rfl
          · rw [o 10 _ (by omega), v3]; rfl
          · rw [e57, z57 s k hs hk]
            have : ((if 0 = k then 0 else 0) + (if 0 = k then 0 else 0) + (if 0 = k then 0 else 0) : Nat) = 0 := by split <;> rfl
            rw [this]; rfl
      · have hi' : i < L := by omega
        rw [o45 i hi'] at h45
        rw [o46 i hi'] at h46
        obtain ⟨r1, r2, r3, r4⟩ := g3 i ln' w' hi' h45 h46 hl4 hw8 l c hl hc
        have o : ∀ k j, (k = 7 ∨ k = 8 ∨ k = 9 ∨ k = 10) → X2 k (32 * i + (l * w' + c)) j = X k (32 * i + (l * w' + c)) j := fun k j hk => hZ k _ j (by omega)
        refine ⟨fun k hk => ?_, ?_, ?_, fun s hs => ?_⟩
        · rw [o 8 k (by omega), e56, r1 k hk]
        · rw [o 7 3 (by omega), e54, e55, e56, r2]
        · rw [o 7 4 (by omega), e54, e55, e56, r3]
        · exact sR_cg (fun j => o 9 j (by omega)) (fun j => o 10 j (by omega)) (fun j => hZ 57 0 j (by omega)) (r4 s hs)
    · have gz : jZ (L + 1) X := fun i hi1 hi2 => g4 i (by omega) hi2
      exact jZ_cg (fun k p j hd => hZ k p j (by simp only [djN, djL, djC, djZ, djH, djB, djF, djD, djW, djK, djI, djS, Bool.or_eq_true, Bool.and_eq_true, decide_eq_true_eq] at hd; omega)) gz
    · refine ⟨fun j => by rw [hZ 11 0 j (by omega)]; exact h11 j, fun b' hb' => ?_⟩
      by_cases hbb : b' = b
      · subst hbb
        rw [lvb, List.length_append, hlen]
        refine ⟨s, by omega, hs4, by rw [hZ 53 0 b' (by omega)]; exact h53, ?_, ?_, ?_, ?_, fun j => ?_⟩
        · rw [hZ 12 b' 0 (by omega), h12, ← h53', h53]
        · rw [x2 12 b' 2 (by omega), ← hX1]; simp [fgt, mset_at]
        · show len + 1 ≤ 6; omega
        · show len + 1 ≤ 2 * s; omega
        · rw [lvg_app, hlen]
          by_cases hj : j = len
          · rw [if_pos hj, hj, x2 13 b' len (by omega), ← hX1]; simp [fgt, mset_at]
          · rw [if_neg hj, hZ 13 b' j (by omega), h13 j]
      · obtain ⟨t, t1, t2, t3, t4, t5, t6, t7, t8⟩ := hB b' hb'
        rw [lvo b' hbb hb']
        exact ⟨t, t1, t2, by rw [hZ 53 0 b' (by omega)]; exact t3, by rw [hZ 12 b' 0 (by omega)]; exact t4, by rw [hZ 12 b' 2 (by omega)]; exact t5, t6, t7, fun j => by rw [hZ 13 b' j (by omega)]; exact t8 j⟩
    · refine ⟨hF12, by rw [hZ 43 0 23 (by omega)]; exact e1, by rw [hZ 0 0 5 (by omega)]; exact e2, fun j => by rw [hZ 22 0 j (by omega)]; exact h22 j, fun f hf' => ?_⟩
      obtain ⟨k', a', o', b', hk', ha', hb', f44, f63, f64, f65, q3', qn3', f0, f1, f2, f3, f4, f5, f6, f66, f67⟩ := hf f hf'
      have n23 : ∀ j, X2 23 f j = X 23 f j := fun j => hZ 23 f j (by omega)
      rw [n23, n23, n23, n23, n23, n23, n23, hZ 63 0 f (by omega), hZ 64 0 f (by omega), hZ 65 0 f (by omega), hZ 66 0 f (by omega), hZ 67 0 f (by omega)]
      refine ⟨k', a', o', b', hk', by omega, hb', by rw [o44 a' ha']; exact f44, f63, f64, f65, q3', fun z => ?_, f0, f1, f2, f3, f4, f5, f6, f66, f67⟩
      obtain ⟨z1, z2, z3⟩ := qn3' z
      exact ⟨by omega, z2, by rw [o44 o' z1]; exact z3⟩
    · refine jS_up (b := b) (Nat.le_refl F) g12 (fun s j hs => ?_) (funext fun p => funext fun j => hZ 15 p j (by omega)) (funext fun p => funext fun j => hZ 16 p j (by omega)) (funext fun p => funext fun j => hZ 17 p j (by omega)) (funext fun p => funext fun j => hZ 18 p j (by omega)) (funext fun p => funext fun j => hZ 19 p j (by omega)) (funext fun p => funext fun j => hZ 21 p j (by omega)) (fun s hs hsb hsv => ?_)
      · rw [x2 14 s j (by omega), x14]
      · have hin : ∀ i ∈ lvs (X 44 0) (s / 3) L, i < L := fun i hi => (lvs_mem.mp hi).1
        refine svOK_cg (lvo _ hsb (by omega)) (hZ 53 0 _ (by omega)) (fun i' hi' => ?_) (fun i' hi' => ?_) (fun all f => ?_) (fun all f hc => ?_) ?_ (funext fun j => hZ 15 s j (by omega)) (funext fun j => hZ 16 s j (by omega)) (funext fun j => hZ 17 s j (by omega)) hsv
        · have := hin i' hi'
          exact hZ 48 0 i' (by omega)
        · have := hin i' hi'
          exact hZ 47 0 i' (by omega)
        · unfold cts
          rw [hZ 64 0 f (by omega), hZ 66 0 f (by omega), hZ 67 0 f (by omega)]
        · exact ⟨hZ 63 0 f (by omega), hZ 64 0 f (by omega), hZ 65 0 f (by omega)⟩
        · rw [x2 14 s 3 (by omega), x14, if_neg (by omega)]
theorem case0 {NL : List (Nat × Nat)} {al : Nat → Nat → Bool} {N : Nat} {X : gM} (hN : 1000000 ≤ N) (a1 a2 a3 a4 a5 a6 : Int32) (h : gJ NL X) : ∃ (nw : List (Nat × Nat)) (rr : Int32) (X' : gM), gFr NL nw ∧ K0 (gal NL) al N nw a1 a2 a3 a4 a5 a6 X = some (rr, X') ∧ gJ (NL ++ nw) X' := by
  unfold K0
  obtain ⟨L, F, D, W, K, g1, g2, g3, g4, g5, g6, g7, g8, g9, g10, g11, g12⟩ := id h
  obtain ⟨hL, h430, h002, h4, hlf⟩ := id g2
  obtain ⟨h11, hB⟩ := id g6
  have hfr0 : gFr NL [] := ⟨List.nodup_nil, fun n hn => by cases hn⟩
  have hthr : ∀ k : Int32, (k = 1 ∨ k = 2 ∨ k = 3) → L_leaf (gal NL) N [] a1 a2 a3 a4 a5 X = some (k, X) → (∃ X2, X10_leaf al N a1 a2 a3 a4 a5 X = some (0, X2) ∧ X2 43 0 46 = k ∧ gJ NL X2) → ∃ (nw : List (Nat × Nat)) (rr : Int32) (X' : gM), gFr NL nw ∧ (bind2 (L_leaf (gal NL) N nw a1 a2 a3 a4 a5 X) fun k1 X1 => bind2 (X10_leaf al N a1 a2 a3 a4 a5 X1) fun k2 X2 => bind2 (X10_thrown al N X2) fun k3 X3 => if k3 = k1 then (if k1 = (0 : Int32) then (if X3 81 0 0 = k2 then some ((0 : Int32), X3) else none) else some ((0 : Int32), X3)) else none) = some (rr, X') ∧ gJ (NL ++ nw) X' := by
    rintro k hk hA ⟨X2, hBB, ht, hj⟩
    refine ⟨[], 0, X2, hfr0, K_thrown hA hBB ht ?_, by rw [List.append_nil]; exact hj⟩
    rcases hk with rfl | rfl | rfl <;> decide
  have m60 : ∀ k : Int32, (k = 1 ∨ k = 2) → X10_leaf_J60 al N a1 a2 a3 a4 a5 k X = some (0, mset X 43 0 46 k) := fun k hk => by
    rcases hk with rfl | rfl
    · simp only [X10_leaf_J60, gl_eq, mset_same, j10, if_false]
    · simp only [X10_leaf_J60, gl_eq, mset_same, j20, if_false]
  rcases ir_or a1 (n := 2) (by omega) with ⟨b, hb, rfl⟩ | hno
  · obtain ⟨s, s1, s2, h53, h12, h122, hm6, hms, h13⟩ := hB b hb
    have hir : (0 : Int32) ≤ nI b ∧ nI b ≤ 1 := (ir_2 _).mpr (ir_nI (by omega) hb)
    have ha12 : gal NL 12 b = true := gal_al g1 hb
    have bad2 : (¬ (1 ≤ a2 ∧ a2 ≤ 4) ∨ ¬ (1 ≤ a3 ∧ a3 ≤ 8) ∨ ¬ (-1 ≤ a4 ∧ a4 ≤ 1) ∨ ¬ (0 ≤ a5 ∧ a5 ≤ 255)) → L_leaf (gal NL) N [] (nI b) a2 a3 a4 a5 X = some (2, X) ∧ X10_leaf al N (nI b) a2 a3 a4 a5 X = some (0, mset X 43 0 46 2) := by
      intro hbad
      by_cases c2 : 1 ≤ a2 ∧ a2 ≤ 4
      · by_cases c3 : 1 ≤ a3 ∧ a3 ≤ 8
        · by_cases c4 : -1 ≤ a4 ∧ a4 ≤ 1
          · have c5 : ¬ (0 ≤ a5 ∧ a5 ≤ 255) := by
              rcases hbad with q | q | q | q
              · exact absurd c2 q
              · exact absurd c3 q
              · exact absurd c4 q
              · exact q
            constructor
            · have e : X9_leaf_J72 (gal NL) N [] a2 a3 a4 a5 (nI b) X = some (2, 0, X) := by
                simp (disch := omega) only [X9_leaf_J72, X9_isWithin_eq, if_neg c5, gl_eq, bind2_some, bind3_some, Option.bind_some, bz_0, bz_1, ib_0, ib_1, ib_bz, rd_nI, rd_l, if_pos, if_neg, if_true, if_false, ite_true, ite_false, eq_self, j00, j10, j20, j30, k00, k01, k02, k03, i20, i30, km0, i10, i01, im0, im1, i0m, i1m]
              rcases (front_in a4).mp c4 with q | q | q
              · simp (disch := omega) only [L_leaf, X9_leaf, X9_quireOf_yes h11 hb, if_neg (zn_nn (a := b) (by omega)), X9_isWithin_eq, if_pos c2, if_pos c3, q, eq_self, if_true, e, eqn_nil, gl_eq, bind2_some, bind3_some, Option.bind_some, bz_0, bz_1, ib_0, ib_1, ib_bz, rd_nI, rd_l, if_pos, if_neg, if_true, if_false, ite_true, ite_false, eq_self, j00, j10, j20, j30, k00, k01, k02, k03, i20, i30, km0, i10, i01, im0, im1, i0m, i1m]
                rw [q] at e
                rw [e]; rfl
              · simp (disch := omega) only [L_leaf, X9_leaf, X9_quireOf_yes h11 hb, if_neg (zn_nn (a := b) (by omega)), X9_isWithin_eq, if_pos c2, if_pos c3, q, eq_self, if_true, i10, if_false, e, eqn_nil, gl_eq, bind2_some, bind3_some, Option.bind_some, bz_0, bz_1, ib_0, ib_1, ib_bz, rd_nI, rd_l, if_pos, if_neg, if_true, if_false, ite_true, ite_false, eq_self, j00, j10, j20, j30, k00, k01, k02, k03, i20, i30, km0, i10, i01, im0, im1, i0m, i1m]
                rw [q] at e
                rw [e]; rfl
              · simp (disch := omega) only [L_leaf, X9_leaf, X9_quireOf_yes h11 hb, if_neg (zn_nn (a := b) (by omega)), X9_isWithin_eq, if_pos c2, if_pos c3, q, eq_self, if_true, im0, im1, if_false, e, eqn_nil, gl_eq, bind2_some, bind3_some, Option.bind_some, bz_0, bz_1, ib_0, ib_1, ib_bz, rd_nI, rd_l, if_pos, if_neg, if_true, if_false, ite_true, ite_false, eq_self, j00, j10, j20, j30, k00, k01, k02, k03, i20, i30, km0, i10, i01, im0, im1, i0m, i1m]
                rw [q] at e
                rw [e]; rfl
            · simp (disch := omega) only [X10_leaf, X10_in_eq, if_pos hir, if_pos c2, if_pos c3, if_pos c4, if_neg c5, X10_leaf_J55, m60 2 (Or.inr rfl), gl_eq, bind2_some, bind3_some, Option.bind_some, bz_0, bz_1, ib_0, ib_1, ib_bz, rd_nI, rd_l, if_pos, if_neg, if_true, if_false, ite_true, ite_false, eq_self, j00, j10, j20, j30, k00, k01, k02, k03, i20, i30, km0, i10, i01, im0, im1, i0m, i1m]
          · constructor
            · have q1 : ¬ a4 = 0 := fun z => c4 ((front_in a4).mpr (Or.inl z))
              have q2 : ¬ a4 = 1 := fun z => c4 ((front_in a4).mpr (Or.inr (Or.inl z)))
              have q3 : ¬ a4 = -1 := fun z => c4 ((front_in a4).mpr (Or.inr (Or.inr z)))
              simp (disch := omega) only [L_leaf, X9_leaf, X9_quireOf_yes h11 hb, if_neg (zn_nn (a := b) (by omega)), X9_isWithin_eq, if_pos c2, if_pos c3, if_neg q1, if_neg q2, if_neg q3, eqn_nil, gl_eq, bind2_some, bind3_some, Option.bind_some, bz_0, bz_1, ib_0, ib_1, ib_bz, rd_nI, rd_l, if_pos, if_neg, if_true, if_false, ite_true, ite_false, eq_self, j00, j10, j20, j30, k00, k01, k02, k03, i20, i30, km0, i10, i01, im0, im1, i0m, i1m]
              try rfl
            · simp (disch := omega) only [X10_leaf, X10_in_eq, if_pos hir, if_pos c2, if_pos c3, if_neg c4, X10_leaf_J55, m60 2 (Or.inr rfl), gl_eq, bind2_some, bind3_some, Option.bind_some, bz_0, bz_1, ib_0, ib_1, ib_bz, rd_nI, rd_l, if_pos, if_neg, if_true, if_false, ite_true, ite_false, eq_self, j00, j10, j20, j30, k00, k01, k02, k03, i20, i30, km0, i10, i01, im0, im1, i0m, i1m]
        · constructor
          · simp (disch := omega) only [L_leaf, X9_leaf, X9_leaf_J39, X9_quireOf_yes h11 hb, if_neg (zn_nn (a := b) (by omega)), X9_isWithin_eq, if_pos c2, if_neg c3, eqn_nil, gl_eq, bind2_some, bind3_some, Option.bind_some, bz_0, bz_1, ib_0, ib_1, ib_bz, rd_nI, rd_l, if_pos, if_neg, if_true, if_false, ite_true, ite_false, eq_self, j00, j10, j20, j30, k00, k01, k02, k03, i20, i30, km0, i10, i01, im0, im1, i0m, i1m]
            try rfl
          · simp (disch := omega) only [X10_leaf, X10_in_eq, if_pos hir, if_pos c2, if_neg c3, X10_leaf_J55, m60 2 (Or.inr rfl), gl_eq, bind2_some, bind3_some, Option.bind_some, bz_0, bz_1, ib_0, ib_1, ib_bz, rd_nI, rd_l, if_pos, if_neg, if_true, if_false, ite_true, ite_false, eq_self, j00, j10, j20, j30, k00, k01, k02, k03, i20, i30, km0, i10, i01, im0, im1, i0m, i1m]
      · constructor
        · simp (disch := omega) only [L_leaf, X9_leaf, X9_leaf_J39, X9_quireOf_yes h11 hb, if_neg (zn_nn (a := b) (by omega)), X9_isWithin_eq, if_neg c2, eqn_nil, gl_eq, bind2_some, bind3_some, Option.bind_some, bz_0, bz_1, ib_0, ib_1, ib_bz, rd_nI, rd_l, if_pos, if_neg, if_true, if_false, ite_true, ite_false, eq_self, j00, j10, j20, j30, k00, k01, k02, k03, i20, i30, km0, i10, i01, im0, im1, i0m, i1m]
          try rfl
        · simp (disch := omega) only [X10_leaf, X10_in_eq, if_pos hir, if_neg c2, X10_leaf_J55, m60 2 (Or.inr rfl), gl_eq, bind2_some, bind3_some, Option.bind_some, bz_0, bz_1, ib_0, ib_1, ib_bz, rd_nI, rd_l, if_pos, if_neg, if_true, if_false, ite_true, ite_false, eq_self, j00, j10, j20, j30, k00, k01, k02, k03, i20, i30, km0, i10, i01, im0, im1, i0m, i1m]
    by_cases c2 : 1 ≤ a2 ∧ a2 ≤ 4
    · by_cases c3 : 1 ≤ a3 ∧ a3 ≤ 8
      · by_cases c4 : -1 ≤ a4 ∧ a4 ≤ 1
        · by_cases c5 : 0 ≤ a5 ∧ a5 ≤ 255
          · have hJ72 : ∀ nw, X9_leaf (gal NL) N nw (nI b) a2 a3 a4 a5 X = X9_leaf_J72 (gal NL) N nw a2 a3 a4 a5 (nI b) X := fun nw => by
              rcases (front_in a4).mp c4 with q | q | q
              · simp (disch := omega) only [X9_leaf, X9_quireOf_yes h11 hb, if_neg (zn_nn (a := b) (by omega)), X9_isWithin_eq, if_pos c2, if_pos c3, q, eq_self, if_true, gl_eq, bind2_some, bind3_some, Option.bind_some, bz_0, bz_1, ib_0, ib_1, ib_bz, rd_nI, rd_l, if_pos, if_neg, if_true, if_false, ite_true, ite_false, eq_self, j00, j10, j20, j30, k00, k01, k02, k03, i20, i30, km0, i10, i01, im0, im1, i0m, i1m]
              · simp (disch := omega) only [X9_leaf, X9_quireOf_yes h11 hb, if_neg (zn_nn (a := b) (by omega)), X9_isWithin_eq, if_pos c2, if_pos c3, q, eq_self, if_true, i10, if_false, gl_eq, bind2_some, bind3_some, Option.bind_some, bz_0, bz_1, ib_0, ib_1, ib_bz, rd_nI, rd_l, if_pos, if_neg, if_true, if_false, ite_true, ite_false, eq_self, j00, j10, j20, j30, k00, k01, k02, k03, i20, i30, km0, i10, i01, im0, im1, i0m, i1m]
              · simp (disch := omega) only [X9_leaf, X9_quireOf_yes h11 hb, if_neg (zn_nn (a := b) (by omega)), X9_isWithin_eq, if_pos c2, if_pos c3, q, eq_self, if_true, im0, im1, if_false, gl_eq, bind2_some, bind3_some, Option.bind_some, bz_0, bz_1, ib_0, ib_1, ib_bz, rd_nI, rd_l, if_pos, if_neg, if_true, if_false, ite_true, ite_false, eq_self, j00, j10, j20, j30, k00, k01, k02, k03, i20, i30, km0, i10, i01, im0, im1, i0m, i1m]
            have hM60 : ∀ Y, X10_leaf al N (nI b) a2 a3 a4 a5 Y = X10_leaf_J60 al N (nI b) a2 a3 a4 a5 0 Y := fun Y => by
              simp (disch := omega) only [X10_leaf, X10_in_eq, if_pos hir, if_pos c2, if_pos c3, if_pos c4, if_pos c5, gl_eq, bind2_some, bind3_some, Option.bind_some, bz_0, bz_1, ib_0, ib_1, ib_bz, rd_nI, rd_l, if_pos, if_neg, if_true, if_false, ite_true, ite_false, eq_self, j00, j10, j20, j30, k00, k01, k02, k03, i20, i30, km0, i10, i01, im0, im1, i0m, i1m]
            have hroom : X5_hasRoom (gal NL) N b X = some (if (lvs (X 44 0) b L).length < 6 ∧ (lvs (X 44 0) b L).length < 2 * s then 1 else 0, X) := by
              unfold X5_hasRoom X5_hasRoom_J29 X5_hasRoom_J30
              rw [h122, h12]
              by_cases q1 : (lvs (X 44 0) b L).length < 6
              · by_cases q2 : (lvs (X 44 0) b L).length < 2 * s
                · simp (disch := omega) only [zn_add, zn_mul, zn_addl, zn_ladd, zn_mull, zn_lmul, zn_le, zn_lt, zn_eq, zn_lel, zn_ltl, zn_eql, zn_lle, zn_llt, zn_leq, zn_sub, zn_subl, zn_m1, gl_eq, bind2_some, bind3_some, Option.bind_some, bz_0, bz_1, ib_0, ib_1, ib_bz, rd_nI, rd_l, if_pos, if_neg, if_true, if_false, ite_true, ite_false, eq_self, j00, j10, j20, j30, k00, k01, k02, k03, i20, i30, km0, i10, i01, im0, im1, i0m, i1m, if_pos (⟨q1, q2⟩ : (lvs (X 44 0) b L).length < 6 ∧ (lvs (X 44 0) b L).length < 2 * s)]
                · simp (disch := omega) only [zn_add, zn_mul, zn_addl, zn_ladd, zn_mull, zn_lmul, zn_le, zn_lt, zn_eq, zn_lel, zn_ltl, zn_eql, zn_lle, zn_llt, zn_leq, zn_sub, zn_subl, zn_m1, gl_eq, bind2_some, bind3_some, Option.bind_some, bz_0, bz_1, ib_0, ib_1, ib_bz, rd_nI, rd_l, if_pos, if_neg, if_true, if_false, ite_true, ite_false, eq_self, j00, j10, j20, j30, k00, k01, k02, k03, i20, i30, km0, i10, i01, im0, im1, i0m, i1m, if_neg (fun z => q2 z.2 : ¬ ((lvs (X 44 0) b L).length < 6 ∧ (lvs (X 44 0) b L).length < 2 * s))]
              · simp (disch := omega) only [zn_add, zn_mul, zn_addl, zn_ladd, zn_mull, zn_lmul, zn_le, zn_lt, zn_eq, zn_lel, zn_ltl, zn_eql, zn_lle, zn_llt, zn_leq, zn_sub, zn_subl, zn_m1, gl_eq, bind2_some, bind3_some, Option.bind_some, bz_0, bz_1, ib_0, ib_1, ib_bz, rd_nI, rd_l, if_pos, if_neg, if_true, if_false, ite_true, ite_false, eq_self, j00, j10, j20, j30, k00, k01, k02, k03, i20, i30, km0, i10, i01, im0, im1, i0m, i1m, if_neg (fun z => q1 z.1 : ¬ ((lvs (X 44 0) b L).length < 6 ∧ (lvs (X 44 0) b L).length < 2 * s))]
            by_cases hok : L < 10 ∧ (lvs (X 44 0) b L).length < 6 ∧ (lvs (X 44 0) b L).length < 2 * s
            · obtain ⟨hL10, k6, k2s⟩ := hok
              obtain ⟨ln, hln, rfl⟩ := zn_ofl (p := a2) (k := 4) (by omega) (Int32.le_trans (by decide) c2.1) c2.2
              obtain ⟨w, hw, rfl⟩ := zn_ofl (p := a3) (k := 8) (by omega) (Int32.le_trans (by decide) c3.1) c3.2
              obtain ⟨v, hv, rfl⟩ := zn_ofl (p := a5) (k := 255) (by omega) c5.1 c5.2
              have l1 : 1 ≤ ln := (zn_lle (by omega) (by omega)).mp c2.1
              have w1 : 1 ≤ w := (zn_lle (by omega) (by omega)).mp c3.1
              rw [if_pos ⟨k6, k2s⟩] at hroom
              obtain ⟨X1, X2, d1, d2, d3, d4, d5, d6⟩ := leaf_new (al := al) (N := N) (a4 := a4) (by omega) ⟨g1, g2, g3, g4, g5, g6, g7, g8, g9, g10, g11, g12⟩ hL10 hb l1 hln w1 hw ((front_in a4).mp c4) hv h53 s2 k6 k2s hroom
              have e3 : L_leaf (gal NL) N ((5, L) :: (6, L) :: cls L (ln * w)) (nI b) (nI ln) (nI w) a4 (nI v) X = some (0, mset X1 81 0 0 (nI L)) := by
                simp only [L_leaf, hJ72, d1, bind3_some, eq_self, if_true]
              exact ⟨_, 0, X2, d5, K_ans e3 ((hM60 _).trans d2) d3 d4, d6⟩
            · refine hthr 3 (by decide) ?_ ⟨mset (mset X 43 0 46 0) 43 0 46 3, ?_, mset_same .., gJ_th _ (gJ_th _ h)⟩
              · by_cases hL10 : L < 10
                · have hok2 : ¬ ((lvs (X 44 0) b L).length < 6 ∧ (lvs (X 44 0) b L).length < 2 * s) := fun z => hok ⟨hL10, z⟩
                  simp (disch := omega) only [L_leaf, hJ72, X9_leaf_J72, X9_leaf_J109, X9_isWithin_eq, if_pos c5, h002, zn_lle, if_neg, dr_nI ha12 (by omega : b < 2147483648), hroom, if_neg hok2, eqn_nil, gl_eq, bind2_some, bind3_some, Option.bind_some, ib_0, i10, if_false, if_true, eq_self]
                  try rfl
                · simp (disch := omega) only [L_leaf, hJ72, X9_leaf_J72, X9_leaf_J109, X9_isWithin_eq, if_pos c5, h002, zn_lle, if_pos, eqn_nil, gl_eq, bind2_some, bind3_some, Option.bind_some, ib_0, i10, if_false, eq_self]
                  try rfl
              · have hlv := X10_leavesOf_eq (al := al) (N := N) (L := L) (b := b) (X := mset X 43 0 46 0) (by rw [mset_at, if_neg (by omega), h430]) hL (by omega)
                have e44 : (mset X 43 0 46 0) 44 0 = X 44 0 := by funext j; simp [mset_at]
                rw [e44] at hlv
                have r0 : (mset X 43 0 46 0) 43 0 0 = nI L := by rw [mset_at, if_neg (by omega), h430]
                have r53 : (mset X 43 0 46 0) 53 0 b = nI s := by rw [mset_at, if_neg (by omega), h53]
                rw [hM60]
                have m3 : ∀ Y, X10_leaf_J114 al N (nI b) a2 a3 a4 a5 3 Y = some (0, mset Y 43 0 46 3) := fun Y => by
                  simp only [X10_leaf_J114, gl_eq, mset_same, j30, if_false]
                simp (disch := omega) only [X10_leaf_J60, mset_same, gl_eq, j00, if_true, hlv, bind2_some, r0, X10_leaf_J109, m3, rd_nI, Option.bind_some, r53, zn_lmul, zn_eql, zn_eq]
                by_cases q1 : L = 10
                · rw [if_pos q1]
                · rw [if_neg q1]
                  by_cases q2 : (lvs (X 44 0) b L).length = 6
                  · rw [if_pos q2]
                  · rw [if_neg q2, if_pos]
                    apply Classical.byContradiction
                    intro q3
                    exact hok ⟨by omega, by omega, by omega⟩
          · obtain ⟨eA, eB⟩ := bad2 (Or.inr (Or.inr (Or.inr c5)))
            exact hthr 2 (by decide) eA ⟨_, eB, mset_same .., gJ_th _ h⟩
        · obtain ⟨eA, eB⟩ := bad2 (Or.inr (Or.inr (Or.inl c4)))
          exact hthr 2 (by decide) eA ⟨_, eB, mset_same .., gJ_th _ h⟩
      · obtain ⟨eA, eB⟩ := bad2 (Or.inr (Or.inl c3))
        exact hthr 2 (by decide) eA ⟨_, eB, mset_same .., gJ_th _ h⟩
    · obtain ⟨eA, eB⟩ := bad2 (Or.inl c2)
      exact hthr 2 (by decide) eA ⟨_, eB, mset_same .., gJ_th _ h⟩
  · refine hthr 1 (by decide) ?_ ⟨mset X 43 0 46 1, ?_, mset_same .., gJ_th _ h⟩
    · simp (disch := omega) only [L_leaf, X9_leaf, X9_quireOf_no hno, eqn_nil, gl_eq, bind2_some, bind3_some, Option.bind_some, bz_0, bz_1, ib_0, ib_1, ib_bz, rd_nI, rd_l, if_pos, if_neg, if_true, if_false, ite_true, ite_false, eq_self, j00, j10, j20, j30, k00, k01, k02, k03, i20, i30, km0, i10, i01, im0, im1, i0m, i1m]
      try rfl
    · simp (disch := omega) only [X10_leaf, X10_in_eq, if_neg (fun q => hno ((ir_2 _).mp q)), m60 1 (Or.inl rfl), gl_eq, bind2_some, bind3_some, Option.bind_some, bz_0, bz_1, ib_0, ib_1, ib_bz, rd_nI, rd_l, if_pos, if_neg, if_true, if_false, ite_true, ite_false, eq_self, j00, j10, j20, j30, k00, k01, k02, k03, i20, i30, km0, i10, i01, im0, im1, i0m, i1m]
