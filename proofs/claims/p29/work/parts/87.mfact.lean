/-! fact -/
theorem avl_off2 {L F F' W K : Nat} {X Y : gM} (e45 : Y 45 = X 45) (e46 : Y 46 = X 46) {k i : Nat} (h1 : k ≠ 23) : avl L F' W K Y k i ↔ avl L F W K X k i := by
  unfold avl
  rw [e45, e46]
  split <;> first | exact Iff.rfl | contradiction | (split <;> first | exact Iff.rfl | contradiction)
theorem X5_hasPlace_eq {al : Nat → Nat → Bool} {N b s : Nat} {p : Int32} {X : gM} (h : X 12 b 0 = nI s) (hs : s ≤ 4) : X5_hasPlace al N b p X = some (if ir p (2 * s) then 1 else 0, X) := by
  unfold X5_hasPlace X5_hasPlace_J18 X5_hasPlace_J19
  rw [h, zn_lmul]
  by_cases h1 : p < 0
  · rw [if_pos h1, if_neg (fun h => Int32.not_lt.mpr h.1 h1)]; rfl
  · by_cases h2 : nI (2 * s) ≤ p
    · rw [if_neg h1, if_pos h2, if_neg (fun h => Int32.not_le.mpr h.2 h2)]; rfl
    · rw [if_neg h1, if_neg h2, if_pos ⟨Int32.not_lt.mp h1, Int32.not_le.mp h2⟩]; rfl
theorem fact_new {NL : List (Nat × Nat)} {al : Nat → Nat → Bool} {N : Nat} {X : gM} {L F D W K k i o b : Nat} {p4 : Int32} (hp : p4 = 0 ∨ p4 = 1) (g : jN NL L F W K X ∧ jL L X ∧ jC L X ∧ jZ L X ∧ jH X ∧ jB L X ∧ jF L F X ∧ jD D X ∧ jW W X ∧ jK K X ∧ jI X ∧ jS L F X)
    (hF : F < 12) (hk : k ≤ 4) (hi : i < L) (hb : b < 2) (h44 : X 44 0 i = nI b) (q3 : k = 3 → o < 8) (qn3 : k ≠ 3 → o < L ∧ i ≠ o ∧ X 44 0 o = nI b) :
    ∃ X1 X2, X9_fact_J110 (gal NL) N [(23, F)] (nI k) (nI i) (nI o) p4 (nI i) X = some (0, nI F, X1) ∧ X10_fact_J134 al N (nI k) (nI i) (nI o) p4 0 (mset X1 81 0 0 (nI F)) = some (nI F, X2) ∧ X2 43 0 46 = 0 ∧ X2 81 0 0 = nI F ∧ (∀ kk p j, ¬ (kk = 81 ∨ kk = 22 ∨ kk = 23 ∨ kk = 88 ∨ kk = 14 ∨ (kk = 0 ∧ j = 5)) → X1 kk p j = X kk p j) ∧ gFr NL [(23, F)] ∧ gJ (NL ++ [(23, F)]) X2 := by
  obtain ⟨g1, g2, g3, g4, g5, g6, g7, g8, g9, g10, g11, g12⟩ := g
  obtain ⟨hL, h430, h002, h4, hlf⟩ := id g2
  obtain ⟨hF12, e1, e2, h22, hf⟩ := id g7
  have ha5 : gal NL 5 i = true := gal_al g1 hi
  have ha12 : gal NL 12 b = true := gal_al g1 hb
  have h51 : X 5 i 1 = nI b := by
    obtain ⟨b', ln, w, hb', l1, l2, w1, w2, f44, f45, f46, f50, f51, -⟩ := hlf i hi
    rw [f51, ← f44, h44]
  generalize hR : (mset (mset (mset (mset (mset (mset (mset (msl X 88 F rz_88) 88 F 6 1) 88 F 0 (nI F)) 88 F 1 (nI b)) 88 F 2 (nI k)) 88 F 3 (nI i)) 88 F 4 (nI o)) 88 F 5 p4) = R
  have r1 : ∀ kk p j, ¬ (kk = 88) → R kk p j = X kk p j := fun kk p j hk => by
    rw [← hR]
    simp only [mset_at, msl_at]
    rw [if_neg (fun z => hk z.1), if_neg (fun z => hk z.1), if_neg (fun z => hk z.1), if_neg (fun z => hk z.1), if_neg (fun z => hk z.1), if_neg (fun z => hk z.1), if_neg (fun z => hk z.1), if_neg (fun z => hk z.1)]
  generalize hX1 : fgt (mset (mset (msl R 23 F (R 88 F)) 22 0 F (nI F)) 0 0 5 (nI (F + 1))) b = X1
  have x1 : ∀ kk p j, ¬ ((kk = 22 ∧ j = F) ∨ (kk = 23 ∧ p = F) ∨ kk = 88 ∨ kk = 14 ∨ (kk = 0 ∧ j = 5)) → X1 kk p j = X kk p j := fun kk p j hk => by
    rw [← hX1]
    simp only [fgt, mset_at, msl_at]
    rw [if_neg (by omega), if_neg (by omega), if_neg (by omega), if_neg (by omega), if_neg (by omega), if_neg (by omega), r1 kk p j (by omega)]
  have x14 : ∀ s j, X1 14 s j = if j = 2 ∧ s / 3 = b then 0 else X 14 s j := fun s j => by
    have e14 : (mset (mset (msl R 23 F (R 88 F)) 22 0 F (nI F)) 0 0 5 (nI (F + 1))) 14 s j = X 14 s j := by
      rw [mset_at, if_neg (by omega), mset_at, if_neg (by omega), msl_at, if_neg (by omega), r1 14 s j (by omega)]
    rw [← hX1, fgt_14, e14]
  have x23 : ∀ j, X1 23 F j = R 88 F j := fun j => by
    rw [← hX1]
    simp [fgt, mset_at, msl_at]
  have hA : X9_fact_J110 (gal NL) N [(23, F)] (nI k) (nI i) (nI o) p4 (nI i) X = some (0, nI F, X1) := by
    have q1 : eqn [(23, F)] [(23, F)] = some () := if_pos rfl
    have q2 : (msl X 88 F rz_88) 5 i 1 = nI b := by rw [msl_at, if_neg (by omega), h51]
    have q3' : (msl X 88 F rz_88) 0 0 5 = nI F := by rw [msl_at, if_neg (by omega), e2]
    have q4 : rk_23 F (R 88 F) = some 0 := if_pos trivial
    have q5 : (msl R 23 F (R 88 F)) 0 0 5 = nI F := by rw [msl_at, if_neg (by omega), r1 0 0 5 (by omega), e2]
    have q6 : (mset (msl R 23 F (R 88 F)) 22 0 F (nI F)) 0 0 5 = nI F := by rw [mset_at, if_neg (by omega), q5]
    have q7 : (mset (mset (msl R 23 F (R 88 F)) 22 0 F (nI F)) 0 0 5 (nI (F + 1))) 5 i 1 = nI b := by
      simp only [mset_at, msl_at]
      rw [if_neg (by omega), if_neg (by omega), if_neg (by omega), r1 5 i 1 (by omega), h51]
    have q8 : dr (gadd (gal NL) [(23, F)]) 12 (nI b) = some b := dr_nI (by unfold gadd; rw [ha12]; rfl) (by omega)
    have q9 : X1 23 F 0 = nI F := by rw [x23, ← hR]; simp [mset_at]
    simp (disch := omega) only [X9_fact_J110, e2, zn_ltl, if_pos hF, rd_nI, Option.bind_some, q1, gl_eq, dr_nI ha5 (by omega : i < 2147483648), q2, dr_nI ha12 (by omega : b < 2147483648), X1_init, rn_some, bz_01 hp, q3', hR, bind2_some, q4, q5, q6, zn_addl, q7, q8, X5_forget_eq, hX1, q9]
  generalize hX2 : mset (mset (mset (mset (mset (mset (mset (mset X1 81 0 0 (nI F)) 43 0 46 0) 63 0 F (nI k)) 64 0 F (nI i)) 65 0 F (nI o)) 66 0 F p4) 67 0 F 1) 43 0 23 (nI (F + 1)) = X2
  have x2 : ∀ kk p j, ¬ (kk = 81 ∨ (kk = 43 ∧ (j = 46 ∨ j = 23)) ∨ (63 ≤ kk ∧ kk ≤ 67 ∧ j = F)) → X2 kk p j = X1 kk p j := fun kk p j hk => by
    rw [← hX2]
    simp only [mset_at]
    rw [if_neg (by omega), if_neg (by omega), if_neg (by omega), if_neg (by omega), if_neg (by omega), if_neg (by omega), if_neg (by omega), if_neg (by omega)]
  have hZ : ∀ kk p j, ¬ ((kk = 22 ∧ j = F) ∨ (kk = 23 ∧ p = F) ∨ kk = 88 ∨ kk = 14 ∨ (kk = 0 ∧ j = 5) ∨ kk = 81 ∨ (kk = 43 ∧ (j = 46 ∨ j = 23)) ∨ (63 ≤ kk ∧ kk ≤ 67 ∧ j = F)) → X2 kk p j = X kk p j := fun kk p j hk => by
    rw [x2 kk p j (by omega), x1 kk p j (by omega)]
  have hB : X10_fact_J134 al N (nI k) (nI i) (nI o) p4 0 (mset X1 81 0 0 (nI F)) = some (nI F, X2) := by
    have c0 : (mset (mset X1 81 0 0 (nI F)) 43 0 46 0) 43 0 23 = nI F := by rw [mset_at, if_neg (by omega), mset_at, if_neg (by omega), x1 43 0 23 (by omega), e1]
    have c1 : (mset (mset (mset X1 81 0 0 (nI F)) 43 0 46 0) 63 0 F (nI k)) 43 0 23 = nI F := by rw [mset_at, if_neg (by omega), c0]
    have c2 : (mset (mset (mset (mset X1 81 0 0 (nI F)) 43 0 46 0) 63 0 F (nI k)) 64 0 F (nI i)) 43 0 23 = nI F := by rw [mset_at, if_neg (by omega), c1]
    have c3 : (mset (mset (mset (mset (mset X1 81 0 0 (nI F)) 43 0 46 0) 63 0 F (nI k)) 64 0 F (nI i)) 65 0 F (nI o)) 43 0 23 = nI F := by rw [mset_at, if_neg (by omega), c2]
    have c4 : (mset (mset (mset (mset (mset (mset X1 81 0 0 (nI F)) 43 0 46 0) 63 0 F (nI k)) 64 0 F (nI i)) 65 0 F (nI o)) 66 0 F p4) 43 0 23 = nI F := by rw [mset_at, if_neg (by omega), c3]
    have c5 : (mset (mset (mset (mset (mset (mset (mset X1 81 0 0 (nI F)) 43 0 46 0) 63 0 F (nI k)) 64 0 F (nI i)) 65 0 F (nI o)) 66 0 F p4) 67 0 F 1) 43 0 23 = nI F := by rw [mset_at, if_neg (by omega), c4]
    have e3 : F + 1 - 1 = F := by omega
    simp (disch := omega) only [X10_fact_J134, gl_eq, mset_same, j00, if_true, c0, c1, c2, c3, c4, c5, rd_nI, Option.bind_some, bz_01 hp, zn_addl, hX2, zn_subl]
    try rfl
  refine ⟨X1, X2, hA, hB, ?_, ?_, fun kk p j hk => x1 kk p j (by omega), ⟨by simp, fun n hn => ?_⟩, ?_⟩
  · rw [← hX2]; simp [mset_at]
  · rw [← hX2]; simp [mset_at]
  · rw [List.mem_singleton] at hn
    subst hn
    refine ⟨fun hin => ?_, by show (23 : Nat) < 82; decide, by show (23 : Nat) ≠ 38; decide⟩
    have hav := (g1 23 F).mp hin
    change F < F at hav
    omega
  · have e45 : X2 45 = X 45 := funext fun p => funext fun j => hZ 45 p j (by omega)
    have e46 : X2 46 = X 46 := funext fun p => funext fun j => hZ 46 p j (by omega)
    have e44 : X2 44 0 = X 44 0 := funext fun j => hZ 44 0 j (by omega)
    have nfk : ∀ f, f < F → X2 63 0 f = X 63 0 f ∧ X2 64 0 f = X 64 0 f ∧ X2 65 0 f = X 65 0 f ∧ X2 66 0 f = X 66 0 f ∧ X2 67 0 f = X 67 0 f := fun f hf => ⟨hZ 63 0 f (by omega), hZ 64 0 f (by omega), hZ 65 0 f (by omega), hZ 66 0 f (by omega), hZ 67 0 f (by omega)⟩
    have n64 : X2 64 0 F = nI i := by rw [← hX2]; simp [mset_at]
    refine ⟨L, F + 1, D, W, K, ?_, jL_cg (fun k p j hd => hZ k p j (by simp only [djN, djL, djC, djZ, djH, djB, djF, djD, djW, djK, djI, djS, Bool.or_eq_true, Bool.and_eq_true, decide_eq_true_eq] at hd; omega)) g2, jC_cg (fun k p j hd => hZ k p j (by simp only [djN, djL, djC, djZ, djH, djB, djF, djD, djW, djK, djI, djS, Bool.or_eq_true, Bool.and_eq_true, decide_eq_true_eq] at hd; omega)) g3, jZ_cg (fun k p j hd => hZ k p j (by simp only [djN, djL, djC, djZ, djH, djB, djF, djD, djW, djK, djI, djS, Bool.or_eq_true, Bool.and_eq_true, decide_eq_true_eq] at hd; omega)) g4, jH_cg (fun k p j hd => hZ k p j (by simp only [djN, djL, djC, djZ, djH, djB, djF, djD, djW, djK, djI, djS, Bool.or_eq_true, Bool.and_eq_true, decide_eq_true_eq] at hd; omega)) g5, jB_cg (fun k p j hd => hZ k p j (by simp only [djN, djL, djC, djZ, djH, djB, djF, djD, djW, djK, djI, djS, Bool.or_eq_true, Bool.and_eq_true, decide_eq_true_eq] at hd; omega)) g6, ?_, jD_cg (fun k p j hd => hZ k p j (by simp only [djN, djL, djC, djZ, djH, djB, djF, djD, djW, djK, djI, djS, Bool.or_eq_true, Bool.and_eq_true, decide_eq_true_eq] at hd; omega)) g8, jW_cg (fun k p j hd => hZ k p j (by simp only [djN, djL, djC, djZ, djH, djB, djF, djD, djW, djK, djI, djS, Bool.or_eq_true, Bool.and_eq_true, decide_eq_true_eq] at hd; omega)) g9, jK_cg (fun k p j hd => hZ k p j (by simp only [djN, djL, djC, djZ, djH, djB, djF, djD, djW, djK, djI, djS, Bool.or_eq_true, Bool.and_eq_true, decide_eq_true_eq] at hd; omega)) g10, jI_cg (fun k p j hd => hZ k p j (by simp only [djN, djL, djC, djZ, djH, djB, djF, djD, djW, djK, djI, djS, Bool.or_eq_true, Bool.and_eq_true, decide_eq_true_eq] at hd; omega)) g11, ?_⟩
    · intro kk j
      rw [List.mem_append, g1 kk j]
      by_cases h23 : kk = 23
      · subst h23
        simp only [List.mem_singleton, Prod.mk.injEq, avl, true_and]
        omega
      · rw [avl_off2 (F := F) (X := X) e45 e46 h23]
        simp only [List.mem_singleton, Prod.mk.injEq]
        constructor
        · rintro (q | q)
          · exact q
          · exact absurd q.1 h23
        · exact Or.inl
    · refine ⟨by omega, ?_, ?_, fun j => ?_, fun f hf' => ?_⟩
      · rw [← hX2, mset_same]
      · rw [x2 0 0 5 (by omega), ← hX1]; simp [fgt, mset_at]
      · by_cases hjF : j = F
        · subst hjF
          rw [x2 22 0 j (by omega), ← hX1, if_pos (by omega)]; simp [fgt, mset_at]
        · rw [hZ 22 0 j (by omega), h22 j]
          by_cases hlt : j < F
          · rw [if_pos hlt, if_pos (by omega)]
          · rw [if_neg hlt, if_neg (by omega)]
      · by_cases hfF : f = F
        · subst hfF
          have t23 : ∀ j, X2 23 f j = R 88 f j := fun j => by rw [x2 23 f j (by omega), x23]
          refine ⟨k, i, o, b, hk, hi, hb, by rw [e44]; exact h44, by rw [← hX2]; simp [mset_at], n64, by rw [← hX2]; simp [mset_at], q3, fun z => ?_, ?_, ?_, ?_, ?_, ?_, ?_, ?_, ?_, ?_⟩
          · obtain ⟨z1, z2, z3⟩ := qn3 z
            exact ⟨z1, z2, by rw [e44]; exact z3⟩
          · rw [t23, ← hR]; simp [mset_at]
          · rw [t23, ← hR]; simp [mset_at]
          · rw [t23, ← hR]; simp [mset_at]
          · rw [t23, ← hR]; simp [mset_at]
          · rw [t23, ← hR]; simp [mset_at]
          · rw [t23, ← hR, ← hX2]; simp [mset_at]
          · rw [t23, ← hR, ← hX2]; simp [mset_at]
          · rw [← hX2]; simpa [mset_at] using hp
          · rw [← hX2]; simp [mset_at]
        · obtain ⟨k', a', o', b', hk', ha', hb', f44, f63, f64, f65, q3', qn3', f0, f1, f2, f3, f4, f5, f6, f66, f67⟩ := hf f (by omega)
          obtain ⟨n63, n64', n65, n66, n67⟩ := nfk f (by omega)
          have n23 : ∀ j, X2 23 f j = X 23 f j := fun j => hZ 23 f j (by omega)
          rw [n23, n23, n23, n23, n23, n23, n23, n66, n67]
          exact ⟨k', a', o', b', hk', ha', hb', by rw [e44]; exact f44, by rw [n63]; exact f63, by rw [n64']; exact f64, by rw [n65]; exact f65, q3', fun z => by rw [e44]; exact qn3' z, f0, f1, f2, f3, f4, f5, f6, f66, f67⟩
    · refine jS_up (b := b) (Nat.le_succ F) g12 (fun s j hs => ?_) (funext fun p => funext fun j => hZ 15 p j (by omega)) (funext fun p => funext fun j => hZ 16 p j (by omega)) (funext fun p => funext fun j => hZ 17 p j (by omega)) (funext fun p => funext fun j => hZ 18 p j (by omega)) (funext fun p => funext fun j => hZ 19 p j (by omega)) (funext fun p => funext fun j => hZ 21 p j (by omega)) (fun s hs hsb hsv => ?_)
      · rw [x2 14 s j (by omega), x14]
      · have hno : ¬ ∃ x, x ∈ lvs (X 44 0) (s / 3) L ∧ nI i = nI x := by
          rintro ⟨x, hx1, hx2⟩
          have hx3 := lvs_mem.mp hx1
          have : i = x := (zn_eq (by omega) (by omega)).mp hx2
          subst this
          rw [h44] at hx3
          exact hsb ((zn_eq (by omega) (by omega)).mp hx3.2).symm
        refine svOK_cg (by rw [e44]) (hZ 53 0 _ (by omega)) (fun i' _ => hZ 48 0 i' (by omega)) (fun i' _ => hZ 47 0 i' (by omega)) (fun all f => ?_) (fun all f hc => ?_) ?_ (funext fun j => hZ 15 s j (by omega)) (funext fun j => hZ 16 s j (by omega)) (funext fun j => hZ 17 s j (by omega)) hsv
        · by_cases hfF : f = F
          · subst hfF
            constructor
            · rintro ⟨c1, c2, c3, x, c4, c5⟩
              rw [n64] at c5
              exact absurd ⟨x, c4, c5⟩ hno
            · rintro ⟨c1, -⟩
              omega
          · unfold cts
            by_cases hlt : f < F
            · obtain ⟨n63, n64', n65, n66, n67⟩ := nfk f hlt
              rw [n64', n66, n67]
              constructor
              · rintro ⟨-, c⟩; exact ⟨hlt, c⟩
              · rintro ⟨-, c⟩; exact ⟨by omega, c⟩
            · constructor
              · rintro ⟨c1, -⟩; omega
              · rintro ⟨c1, -⟩; omega
        · obtain ⟨n63, n64', n65, n66, n67⟩ := nfk f hc.1
          exact ⟨n63, n64', n65⟩
        · rw [x2 14 s 3 (by omega), x14, if_neg (by omega)]
theorem case12 {NL : List (Nat × Nat)} {al : Nat → Nat → Bool} {N : Nat} {X : gM} (hN : 1000000 ≤ N) (a1 a2 a3 a4 a5 a6 : Int32) (h : gJ NL X) : ∃ (nw : List (Nat × Nat)) (rr : Int32) (X' : gM), gFr NL nw ∧ K12 (gal NL) al N nw a1 a2 a3 a4 a5 a6 X = some (rr, X') ∧ gJ (NL ++ nw) X' := by
  unfold K12
  have hp := ib_v (a4 = 0)
  generalize (if a4 = (0 : Int32) then (0 : Int32) else (1 : Int32)) = p4 at hp ⊢
  obtain ⟨L, F, D, W, K, g⟩ := id h
  obtain ⟨g1, g2, g3, g4, g5, g6, g7, g8, g9, g10, g11, g12⟩ := id g
  obtain ⟨hL, h430, h002, h4, hlf⟩ := id g2
  obtain ⟨hF12, e1, e2, h22, hf⟩ := id g7
  obtain ⟨h11, hB⟩ := id g6
  have hfr0 : gFr NL [] := ⟨List.nodup_nil, fun n hn => by cases hn⟩
  have hthr : ∀ k : Int32, (k = 1 ∨ k = 2 ∨ k = 3) → L_fact (gal NL) N [] a1 a2 a3 p4 X = some (k, X) → X10_fact al N a1 a2 a3 p4 X = some (0, mset X 43 0 46 k) → ∃ (nw : List (Nat × Nat)) (rr : Int32) (X' : gM), gFr NL nw ∧ (bind2 (L_fact (gal NL) N nw a1 a2 a3 p4 X) fun k1 X1 => bind2 (X10_fact al N a1 a2 a3 p4 X1) fun k2 X2 => bind2 (X10_thrown al N X2) fun k3 X3 => if k3 = k1 then (if k1 = (0 : Int32) then (if X3 81 0 0 = k2 then some ((0 : Int32), X3) else none) else some ((0 : Int32), X3)) else none) = some (rr, X') ∧ gJ (NL ++ nw) X' := by
    intro k hk hA hBB
    refine ⟨[], 0, mset X 43 0 46 k, hfr0, K_thrown hA hBB (mset_same ..) ?_, by rw [List.append_nil]; exact gJ_th _ h⟩
    rcases hk with rfl | rfl | rfl <;> decide
  have m1 : ∀ Y, X10_fact_J134 al N a1 a2 a3 p4 1 Y = some (0, mset Y 43 0 46 1) := fun Y => by
    simp only [X10_fact_J134, gl_eq, mset_same, j10, if_false]
  have m2 : ∀ Y, X10_fact_J134 al N a1 a2 a3 p4 2 Y = some (0, mset Y 43 0 46 2) := fun Y => by
    simp only [X10_fact_J134, gl_eq, mset_same, j20, if_false]
  have m3 : ∀ Y, X10_fact_J134 al N a1 a2 a3 p4 3 Y = some (0, mset Y 43 0 46 3) := fun Y => by
    simp only [X10_fact_J134, gl_eq, mset_same, j30, if_false]
  rcases ir_or a2 (n := L) (by omega) with ⟨i, hi, rfl⟩ | hno
  · have hil : ir (nI i) L := ir_nI (by omega) hi
    obtain ⟨b, ln, w, hb, l1, l2, w1, w2, f44, f45, f46, f50, f51, -⟩ := hlf i hi
    obtain ⟨s, s1, s2, h53, h12, -⟩ := hB b hb
    have ha5 : gal NL 5 i = true := gal_al g1 hi
    have ha12 : gal NL 12 b = true := gal_al g1 hb
    by_cases hk : 0 ≤ a1 ∧ a1 ≤ 4
    · obtain ⟨k, hk5, rfl⟩ : ∃ v, v < 5 ∧ a1 = nI v := ir_ex (by omega) ((ir_le a1 4 (by omega)).mp hk)
      have hcl : ∀ Y, gJ NL Y → True := fun _ _ => trivial
      by_cases hk3 : k = 3
      · subst hk3
        by_cases hpl : ir a3 (2 * s)
        · obtain ⟨o, ho, rfl⟩ := ir_ex (by omega) hpl
          have hpm : (0 : Int32) ≤ nI o ∧ nI o ≤ nI (2 * s) - 1 := ⟨hpl.1, (le_pred (by omega)).mpr hpl.2⟩
          have eA : ∀ nw, X9_fact (gal NL) N nw (nI 3) (nI i) (nI o) p4 X = X9_fact_J110 (gal NL) N nw (nI 3) (nI i) (nI o) p4 (nI i) X := fun nw => by
            have k3 : nI 3 = (3 : Int32) := rfl
            have hk := hk
            rw [k3] at hk ⊢
            simp (disch := omega) only [X9_fact, X9_leafOf_yes hL h4 hi, if_neg (zn_nn (a := i) (by omega)), X9_isWithin_eq, if_pos hk, k3, eq_self, if_true, dr_nI ha5 (by omega : i < 2147483648), f51, dr_nI ha12 (by omega : b < 2147483648), X5_hasPlace_eq h12 s2, if_pos hpl, gl_eq, bind2_some, bind3_some, Option.bind_some, bz_0, bz_1, ib_0, ib_1, ib_bz, rd_nI, rd_l, if_pos, if_neg, if_true, if_false, ite_true, ite_false, eq_self, j00, j10, j20, j30, k00, k01, k02, k03, i20, i30, km0, i10, i01, im0, im1, i0m, i1m]
          have eB : ∀ Y, Y 43 0 0 = nI L → Y 44 0 i = nI b → Y 53 0 b = nI s → X10_fact al N (nI 3) (nI i) (nI o) p4 Y = X10_fact_J120 al N (nI 3) (nI i) (nI o) p4 Y := fun Y y0 y44 y53 => by
            have k3 : nI 3 = (3 : Int32) := rfl
            rw [k3] at hk ⊢
            simp (disch := omega) only [X10_fact, X10_isLeaf_eq al N _ y0 (by omega : L < 2147483648), if_pos hil, X10_in_eq, if_pos hk, eq_self, if_true, rd_nI, y44, y53, zn_lmul, if_pos hpm, X10_fact_J60, X10_fact_J65, gl_eq, bind2_some, bind3_some, Option.bind_some, bz_0, bz_1, ib_0, ib_1, ib_bz, rd_nI, rd_l, if_pos, if_neg, if_true, if_false, ite_true, ite_false, eq_self, j00, j10, j20, j30, k00, k01, k02, k03, i20, i30, km0, i10, i01, im0, im1, i0m, i1m]
          by_cases hF : F = 12
          · refine hthr 3 (by decide) ?_ ?_
            · simp (disch := omega) only [L_fact, eA, X9_fact_J110, e2, hF, zn_add, zn_mul, zn_addl, zn_ladd, zn_mull, zn_lmul, zn_le, zn_lt, zn_eq, zn_lel, zn_ltl, zn_eql, zn_lle, zn_llt, zn_leq, zn_sub, zn_subl, zn_m1, gl_eq, bind2_some, bind3_some, Option.bind_some, bz_0, bz_1, ib_0, ib_1, ib_bz, rd_nI, rd_l, if_pos, if_neg, if_true, if_false, ite_true, ite_false, eq_self, j00, j10, j20, j30, k00, k01, k02, k03, i20, i30, km0, i10, i01, im0, im1, i0m, i1m, eqn_nil]
              try rfl
            · rw [eB X h430 f44 h53]
              simp (disch := omega) only [X10_fact_J120, e1, hF, zn_add, zn_mul, zn_addl, zn_ladd, zn_mull, zn_lmul, zn_le, zn_lt, zn_eq, zn_lel, zn_ltl, zn_eql, zn_lle, zn_llt, zn_leq, zn_sub, zn_subl, zn_m1, gl_eq, bind2_some, bind3_some, Option.bind_some, bz_0, bz_1, ib_0, ib_1, ib_bz, rd_nI, rd_l, if_pos, if_neg, if_true, if_false, ite_true, ite_false, eq_self, j00, j10, j20, j30, k00, k01, k02, k03, i20, i30, km0, i10, i01, im0, im1, i0m, i1m, m3]
          · obtain ⟨X1, X2, c1, c2, c3, c4, c5, c6, c7⟩ := fact_new (NL := NL) (al := al) (N := N) (k := 3) (o := o) hp g (by omega) (by omega) hi hb f44 (fun _ => by omega) (fun z => absurd rfl z)
            have e3 : L_fact (gal NL) N [(23, F)] (nI 3) (nI i) (nI o) p4 X = some (0, mset X1 81 0 0 (nI F)) := by
              simp only [L_fact, eA, c1, bind3_some, eq_self, if_true]
            have e4 : X10_fact al N (nI 3) (nI i) (nI o) p4 (mset X1 81 0 0 (nI F)) = some (nI F, X2) := by
              rw [eB _ (by rw [mset_at, if_neg (by omega), c5 43 0 0 (by omega), h430]) (by rw [mset_at, if_neg (by omega), c5 44 0 i (by omega), f44]) (by rw [mset_at, if_neg (by omega), c5 53 0 b (by omega), h53])]
              unfold X10_fact_J120
              have : (mset X1 81 0 0 (nI F)) 43 0 23 = nI F := by rw [mset_at, if_neg (by omega), c5 43 0 23 (by omega), e1]
              rw [this, if_neg (fun z => hF ((zn_eql (k := 12) (by omega) (by decide)).mp z))]
              exact c2
            exact ⟨[(23, F)], 0, X2, c6, K_ans e3 e4 c3 c4, c7⟩
        · have hpm : ¬ ((0 : Int32) ≤ a3 ∧ a3 ≤ nI (2 * s) - 1) := fun q => hpl ⟨q.1, (le_pred (by omega)).mp q.2⟩
          have k3 : nI 3 = (3 : Int32) := rfl
          refine hthr 1 (by decide) ?_ ?_
          · rw [k3] at hk ⊢
            simp (disch := omega) only [L_fact, X9_fact, X9_leafOf_yes hL h4 hi, if_neg (zn_nn (a := i) (by omega)), X9_isWithin_eq, if_pos hk, k3, eq_self, if_true, dr_nI ha5 (by omega : i < 2147483648), f51, dr_nI ha12 (by omega : b < 2147483648), X5_hasPlace_eq h12 s2, if_neg hpl, eqn_nil, gl_eq, bind2_some, bind3_some, Option.bind_some, bz_0, bz_1, ib_0, ib_1, ib_bz, rd_nI, rd_l, if_pos, if_neg, if_true, if_false, ite_true, ite_false, eq_self, j00, j10, j20, j30, k00, k01, k02, k03, i20, i30, km0, i10, i01, im0, im1, i0m, i1m]
            try rfl
          · rw [← m1]
            rw [k3] at hk ⊢
            simp (disch := omega) only [X10_fact, X10_isLeaf_eq al N _ h430 (by omega : L < 2147483648), if_pos hil, X10_in_eq, if_pos hk, eq_self, if_true, rd_nI, f44, h53, zn_lmul, if_neg hpm, X10_fact_J64, X10_fact_J65, X10_fact_J78, gl_eq, bind2_some, bind3_some, Option.bind_some, bz_0, bz_1, ib_0, ib_1, ib_bz, rd_nI, rd_l, if_pos, if_neg, if_true, if_false, ite_true, ite_false, eq_self, j00, j10, j20, j30, k00, k01, k02, k03, i20, i30, km0, i10, i01, im0, im1, i0m, i1m]
      · have hk3' : ¬ nI k = (3 : Int32) := fun z => hk3 ((zn_eql (k := 3) (by omega) (by decide)).mp z)
        rcases ir_or a3 (n := L) (by omega) with ⟨o, ho, rfl⟩ | hno3
        · have hol : ir (nI o) L := ir_nI (by omega) ho
          obtain ⟨b2, ln2, w2', hb2, -, -, -, -, f442, f452, f462, f502, f512, -⟩ := hlf o ho
          have ha5o : gal NL 5 o = true := gal_al g1 ho
          have ha122 : gal NL 12 b2 = true := gal_al g1 hb2
          have eA : ∀ nw, X9_fact (gal NL) N nw (nI k) (nI i) (nI o) p4 X = if i = o then X9_fact_J102 (gal NL) N nw X else if b = b2 then X9_fact_J110 (gal NL) N nw (nI k) (nI i) (nI o) p4 (nI i) X else X9_fact_J102 (gal NL) N nw X := fun nw => by
            simp (disch := omega) only [X9_fact, X9_leafOf_yes hL h4 hi, X9_leafOf_yes hL h4 ho, if_neg (zn_nn (a := i) (by omega)), if_neg (zn_nn (a := o) (by omega)), X9_isWithin_eq, if_pos hk, if_neg hk3', dr_nI ha5 (by omega : i < 2147483648), dr_nI ha5o (by omega : o < 2147483648), f51, f512, dr_nI ha12 (by omega : b < 2147483648), dr_nI ha122 (by omega : b2 < 2147483648), gl_eq, bind2_some, bind3_some, Option.bind_some, bz_0, bz_1, ib_0, ib_1, ib_bz, rd_nI, rd_l, if_pos, if_neg, if_true, if_false, ite_true, ite_false, eq_self, j00, j10, j20, j30, k00, k01, k02, k03, i20, i30, km0, i10, i01, im0, im1, i0m, i1m]
          have eB : ∀ Y, Y 43 0 0 = nI L → Y 44 0 i = nI b → Y 44 0 o = nI b2 → X10_fact al N (nI k) (nI i) (nI o) p4 Y = if nI i = nI o then X10_fact_J116 al N (nI k) (nI i) (nI o) p4 Y else if nI b = nI b2 then X10_fact_J120 al N (nI k) (nI i) (nI o) p4 Y else X10_fact_J116 al N (nI k) (nI i) (nI o) p4 Y := fun Y y0 y44 y442 => by
            simp (disch := omega) only [X10_fact, X10_isLeaf_eq al N _ y0 (by omega : L < 2147483648), if_pos hil, if_pos hol, X10_in_eq, if_pos hk, if_neg hk3', rd_nI, y44, y442, X10_fact_J60, X10_fact_J65, gl_eq, bind2_some, bind3_some, Option.bind_some, bz_0, bz_1, ib_0, ib_1, ib_bz, rd_nI, rd_l, if_pos, if_neg, if_true, if_false, ite_true, ite_false, eq_self, j00, j10, j20, j30, k00, k01, k02, k03, i20, i30, km0, i10, i01, im0, im1, i0m, i1m]
          by_cases hio : i = o
          · refine hthr 2 (by decide) ?_ ?_
            · simp (disch := omega) only [L_fact, eA, if_pos hio, X9_fact_J102, zn_add, zn_mul, zn_addl, zn_ladd, zn_mull, zn_lmul, zn_le, zn_lt, zn_eq, zn_lel, zn_ltl, zn_eql, zn_lle, zn_llt, zn_leq, zn_sub, zn_subl, zn_m1, gl_eq, bind2_some, bind3_some, Option.bind_some, bz_0, bz_1, ib_0, ib_1, ib_bz, rd_nI, rd_l, if_pos, if_neg, if_true, if_false, ite_true, ite_false, eq_self, j00, j10, j20, j30, k00, k01, k02, k03, i20, i30, km0, i10, i01, im0, im1, i0m, i1m, eqn_nil]
              try rfl
            · rw [eB X h430 f44 f442, if_pos (by rw [hio])]
              simp only [X10_fact_J116, m2]
          · have hio' : ¬ nI i = nI o := fun z => hio ((zn_eq (by omega) (by omega)).mp z)
            by_cases hbb : b = b2
            · subst hbb
              by_cases hF : F = 12
              · refine hthr 3 (by decide) ?_ ?_
                · simp (disch := omega) only [L_fact, eA, if_neg hio, eq_self, if_true, X9_fact_J110, e2, hF, zn_add, zn_mul, zn_addl, zn_ladd, zn_mull, zn_lmul, zn_le, zn_lt, zn_eq, zn_lel, zn_ltl, zn_eql, zn_lle, zn_llt, zn_leq, zn_sub, zn_subl, zn_m1, gl_eq, bind2_some, bind3_some, Option.bind_some, bz_0, bz_1, ib_0, ib_1, ib_bz, rd_nI, rd_l, if_pos, if_neg, if_true, if_false, ite_true, ite_false, eq_self, j00, j10, j20, j30, k00, k01, k02, k03, i20, i30, km0, i10, i01, im0, im1, i0m, i1m, eqn_nil]
                  try rfl
                · rw [eB X h430 f44 f442, if_neg hio', if_pos rfl]
                  simp (disch := omega) only [X10_fact_J120, e1, hF, zn_add, zn_mul, zn_addl, zn_ladd, zn_mull, zn_lmul, zn_le, zn_lt, zn_eq, zn_lel, zn_ltl, zn_eql, zn_lle, zn_llt, zn_leq, zn_sub, zn_subl, zn_m1, gl_eq, bind2_some, bind3_some, Option.bind_some, bz_0, bz_1, ib_0, ib_1, ib_bz, rd_nI, rd_l, if_pos, if_neg, if_true, if_false, ite_true, ite_false, eq_self, j00, j10, j20, j30, k00, k01, k02, k03, i20, i30, km0, i10, i01, im0, im1, i0m, i1m, m3]
              · obtain ⟨X1, X2, c1, c2, c3, c4, c5, c6, c7⟩ := fact_new (NL := NL) (al := al) (N := N) (k := k) (o := o) hp g (by omega) (by omega) hi hb f44 (fun z => absurd z hk3) (fun _ => ⟨ho, hio, f442⟩)
                have e3 : L_fact (gal NL) N [(23, F)] (nI k) (nI i) (nI o) p4 X = some (0, mset X1 81 0 0 (nI F)) := by
                  simp only [L_fact, eA, if_neg hio, c1, bind3_some, eq_self, if_true]
                have e4 : X10_fact al N (nI k) (nI i) (nI o) p4 (mset X1 81 0 0 (nI F)) = some (nI F, X2) := by
                  rw [eB _ (by rw [mset_at, if_neg (by omega), c5 43 0 0 (by omega), h430]) (by rw [mset_at, if_neg (by omega), c5 44 0 i (by omega), f44]) (by rw [mset_at, if_neg (by omega), c5 44 0 o (by omega), f442]), if_neg hio', if_pos rfl]
                  unfold X10_fact_J120
                  have : (mset X1 81 0 0 (nI F)) 43 0 23 = nI F := by rw [mset_at, if_neg (by omega), c5 43 0 23 (by omega), e1]
                  rw [this, if_neg (fun z => hF ((zn_eql (k := 12) (by omega) (by decide)).mp z))]
                  exact c2
                exact ⟨[(23, F)], 0, X2, c6, K_ans e3 e4 c3 c4, c7⟩
            · have hbb' : ¬ nI b = nI b2 := fun z => hbb ((zn_eq (by omega) (by omega)).mp z)
              refine hthr 2 (by decide) ?_ ?_
              · simp (disch := omega) only [L_fact, eA, if_neg hio, if_neg hbb, X9_fact_J102, zn_add, zn_mul, zn_addl, zn_ladd, zn_mull, zn_lmul, zn_le, zn_lt, zn_eq, zn_lel, zn_ltl, zn_eql, zn_lle, zn_llt, zn_leq, zn_sub, zn_subl, zn_m1, gl_eq, bind2_some, bind3_some, Option.bind_some, bz_0, bz_1, ib_0, ib_1, ib_bz, rd_nI, rd_l, if_pos, if_neg, if_true, if_false, ite_true, ite_false, eq_self, j00, j10, j20, j30, k00, k01, k02, k03, i20, i30, km0, i10, i01, im0, im1, i0m, i1m, eqn_nil]
                try rfl
              · rw [eB X h430 f44 f442, if_neg hio', if_neg hbb']
                simp only [X10_fact_J116, m2]
        · refine hthr 1 (by decide) ?_ ?_
          · simp (disch := omega) only [L_fact, X9_fact, X9_leafOf_yes hL h4 hi, X9_leafOf_no hL h4 hno3, if_neg (zn_nn (a := i) (by omega)), X9_isWithin_eq, if_pos hk, if_neg hk3', eqn_nil, gl_eq, bind2_some, bind3_some, Option.bind_some, bz_0, bz_1, ib_0, ib_1, ib_bz, rd_nI, rd_l, if_pos, if_neg, if_true, if_false, ite_true, ite_false, eq_self, j00, j10, j20, j30, k00, k01, k02, k03, i20, i30, km0, i10, i01, im0, im1, i0m, i1m]
            try rfl
          · rw [← m1]
            simp (disch := omega) only [X10_fact, X10_isLeaf_eq al N _ h430 (by omega : L < 2147483648), if_pos hil, if_neg hno3, X10_in_eq, if_pos hk, if_neg hk3', X10_fact_J64, X10_fact_J65, X10_fact_J78, gl_eq, bind2_some, bind3_some, Option.bind_some, bz_0, bz_1, ib_0, ib_1, ib_bz, rd_nI, rd_l, if_pos, if_neg, if_true, if_false, ite_true, ite_false, eq_self, j00, j10, j20, j30, k00, k01, k02, k03, i20, i30, km0, i10, i01, im0, im1, i0m, i1m]
    · refine hthr 2 (by decide) ?_ ?_
      · simp (disch := omega) only [L_fact, X9_fact, X9_leafOf_yes hL h4 hi, if_neg (zn_nn (a := i) (by omega)), X9_isWithin_eq, if_neg hk, eqn_nil, gl_eq, bind2_some, bind3_some, Option.bind_some, bz_0, bz_1, ib_0, ib_1, ib_bz, rd_nI, rd_l, if_pos, if_neg, if_true, if_false, ite_true, ite_false, eq_self, j00, j10, j20, j30, k00, k01, k02, k03, i20, i30, km0, i10, i01, im0, im1, i0m, i1m]
        try rfl
      · rw [← m2]
        simp (disch := omega) only [X10_fact, X10_isLeaf_eq al N _ h430 (by omega : L < 2147483648), if_pos hil, X10_in_eq, if_neg hk, X10_fact_J60, X10_fact_J65, X10_fact_J116, gl_eq, bind2_some, bind3_some, Option.bind_some, bz_0, bz_1, ib_0, ib_1, ib_bz, rd_nI, rd_l, if_pos, if_neg, if_true, if_false, ite_true, ite_false, eq_self, j00, j10, j20, j30, k00, k01, k02, k03, i20, i30, km0, i10, i01, im0, im1, i0m, i1m]
  · refine hthr 1 (by decide) ?_ ?_
    · simp (disch := omega) only [L_fact, X9_fact, X9_leafOf_no hL h4 hno, eqn_nil, gl_eq, bind2_some, bind3_some, Option.bind_some, bz_0, bz_1, ib_0, ib_1, ib_bz, rd_nI, rd_l, if_pos, if_neg, if_true, if_false, ite_true, ite_false, eq_self, j00, j10, j20, j30, k00, k01, k02, k03, i20, i30, km0, i10, i01, im0, im1, i0m, i1m]
      try rfl
    · rw [← m1]
      have key : ∀ s0 Y, X10_fact_J65 al N a1 a2 a3 p4 0 s0 Y = X10_fact_J134 al N a1 a2 a3 p4 1 Y := fun s0 Y => by
        simp only [X10_fact_J65, eq_self, if_true, X10_fact_J78]
      by_cases hk : 0 ≤ a1 ∧ a1 ≤ 4
      · by_cases hk3 : a1 = 3
        · simp (disch := omega) only [X10_fact, X10_isLeaf_eq al N _ h430 (by omega : L < 2147483648), if_neg hno, X10_in_eq, if_pos hk, if_pos hk3, X10_fact_J64, X10_fact_J60, key, gl_eq, bind2_some, bind3_some, Option.bind_some, bz_0, bz_1, ib_0, ib_1, ib_bz, rd_nI, rd_l, if_pos, if_neg, if_true, if_false, ite_true, ite_false, eq_self, j00, j10, j20, j30, k00, k01, k02, k03, i20, i30, km0, i10, i01, im0, im1, i0m, i1m]
        · by_cases hno3 : ir a3 L
          · simp (disch := omega) only [X10_fact, X10_isLeaf_eq al N _ h430 (by omega : L < 2147483648), if_neg hno, if_pos hno3, X10_in_eq, if_pos hk, if_neg hk3, X10_fact_J64, X10_fact_J60, key, gl_eq, bind2_some, bind3_some, Option.bind_some, bz_0, bz_1, ib_0, ib_1, ib_bz, rd_nI, rd_l, if_pos, if_neg, if_true, if_false, ite_true, ite_false, eq_self, j00, j10, j20, j30, k00, k01, k02, k03, i20, i30, km0, i10, i01, im0, im1, i0m, i1m]
          · simp (disch := omega) only [X10_fact, X10_isLeaf_eq al N _ h430 (by omega : L < 2147483648), if_neg hno, if_neg hno3, X10_in_eq, if_pos hk, if_neg hk3, X10_fact_J64, X10_fact_J60, key, gl_eq, bind2_some, bind3_some, Option.bind_some, bz_0, bz_1, ib_0, ib_1, ib_bz, rd_nI, rd_l, if_pos, if_neg, if_true, if_false, ite_true, ite_false, eq_self, j00, j10, j20, j30, k00, k01, k02, k03, i20, i30, km0, i10, i01, im0, im1, i0m, i1m]
      · simp (disch := omega) only [X10_fact, X10_isLeaf_eq al N _ h430 (by omega : L < 2147483648), if_neg hno, X10_in_eq, if_neg hk, X10_fact_J64, X10_fact_J60, key, gl_eq, bind2_some, bind3_some, Option.bind_some, bz_0, bz_1, ib_0, ib_1, ib_bz, rd_nI, rd_l, if_pos, if_neg, if_true, if_false, ite_true, ite_false, eq_self, j00, j10, j20, j30, k00, k01, k02, k03, i20, i30, km0, i10, i01, im0, im1, i0m, i1m]
