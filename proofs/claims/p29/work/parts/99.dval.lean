/-! what the class answers: sheets, type, word, work, unmix, light, hold -/
theorem zL (k : Nat) : (no_index (OfNat.ofNat k) : Int32) = nI k := rfl
theorem v_sheets {NL : List (Nat × Nat)} {N L F D W K b s k : Nat} {r : Int32} {X X1 : gM} (hJ : JJ NL L F D W K X) (hb : b < 2) (hs : s = 2 ∨ s = 3) (h : X9_sheets (gal NL) N (nI b) (nI s) X = some (k, r, X1)) : (k = 0 ∧ ∃ v, 1 ≤ v ∧ v ≤ 4 ∧ r = nI v) ∨ k = 3 := by
  obtain ⟨g1, g2, g3, g4, g5, g6, g7, g8, g9, g10, g11, g12⟩ := id hJ
  obtain ⟨h11, hB⟩ := id g6
  obtain ⟨sh, s1, s4, h53, h12, h122, hm6, hm2, h13⟩ := hB b hb
  have ha : gal NL 12 b = true := gal_al g1 hb
  have hw : (1 : Int32) ≤ nI s ∧ nI s ≤ 4 := by rcases hs with rfl | rfl <;> decide
  unfold X9_sheets at h
  rw [X9_quireOf_yes h11 hb, bind2_some, if_neg (zn_nn (by omega)), X9_isWithin_eq, bind2_some, if_pos hw, if_neg (by decide), dr_nI ha (by omega), Option.bind_some] at h
  by_cases c : X 12 b 2 ≤ 2 * nI s
  · rw [if_pos c, gl_eq, gl_eq, X5_forget_eq, bind2_some] at h
    cases h
    exact Or.inl ⟨rfl, sh, s1, s4, h12⟩
  · rw [if_neg c] at h
    cases h
    exact Or.inr rfl
theorem v_type {NL : List (Nat × Nat)} {N L F D W K p k : Nat} {r : Int32} {X X1 : gM} (hJ : JJ NL L F D W K X) (hp : p < 26) (h : X9_type (gal NL) N (nI p) X = some (k, r, X1)) : (k = 0 ∧ 0 < r) ∨ k = 3 := by
  obtain ⟨g1, g2, g3, g4, g5, g6, g7, g8, g9, g10, g11, g12⟩ := id hJ
  obtain ⟨hD, -, e2, -⟩ := id g8
  unfold X9_type at h
  have hw : (0 : Int32) ≤ nI p ∧ nI p ≤ 25 := ⟨not_lt32.mp (zn_nn (by omega)), (zn_lel (k := 25) (by omega) (by decide)).mpr (show p ≤ 25 by omega)⟩
  rw [X9_isLetter_eq, bind2_some, if_pos hw, if_neg (by decide)] at h
  by_cases c : X 0 0 7 < 40
  · rw [if_pos c] at h
    obtain ⟨j, hj, h⟩ := rd_in h
    rw [gl_eq, gl_eq] at h
    cases h
    refine Or.inl ⟨rfl, ?_⟩
    rw [mset_same, mset_at, if_neg (by omega), e2, zn_addl]
    show nI 0 < nI (D + 1)
    exact (zn_lt (by omega) (by omega)).mpr (by omega)
  · rw [if_neg c] at h
    cases h
    exact Or.inr rfl
theorem v_word {NL nw : List (Nat × Nat)} {N L F D W K k : Nat} {r : Int32} {X X1 : gM} (hN : 1000000 ≤ N) (hJ : JJ NL L F D W K X) (h : X9_word (gal NL) N nw X = some (k, r, X1)) : (k = 0 ∧ ∃ v, v < 12 ∧ r = nI v) ∨ k = 3 := by
  obtain ⟨g1, g2, g3, g4, g5, g6, g7, g8, g9, g10, g11, g12⟩ := id hJ
  obtain ⟨hW, -, w2, -, -⟩ := id g9
  obtain ⟨r0, q1, q2⟩ := X9_wordLikeDraft_eq (al := gal NL) (N := N) (by omega) g8 g9 (fun w hw => gal_al g1 (Or.inl hw))
  unfold X9_word at h
  by_cases c1 : X 0 0 7 = 0
  · rw [if_pos c1] at h
    unfold X9_word_J16 at h
    cases h
    exact Or.inr rfl
  rw [if_neg c1] at h
  by_cases c2 : X 0 0 7 ≤ 8
  · rw [if_pos c2, q1, bind2_some] at h
    by_cases c3 : r0 = -1
    · rw [if_pos c3] at h
      by_cases c4 : X 0 0 9 < 12
      · rw [if_pos c4] at h
        unfold X9_word_J51 at h
        rw [if_pos c3] at h
        obtain ⟨v2, e2, h⟩ := gl_in h
        obtain ⟨j4, hj4, h⟩ := rd_in h
        obtain ⟨-, h⟩ := eqn_in h
        obtain ⟨X6, e6, h⟩ := gl_in h
        obtain ⟨j13, hj13, h⟩ := rd_in h
        obtain ⟨X11, e11, h⟩ := gl_in h
        obtain ⟨j16, hj16, h⟩ := rd_in h
        simp only [gl_eq] at h
        cases h
        have c5 : W < 12 := by
          rw [w2] at c4
          exact (zn_ltl (k := 12) (by omega) (by decide)).mp c4
        exact Or.inl ⟨rfl, W, c5, e2.trans w2⟩
      · rw [if_neg c4] at h
        cases h
        exact Or.inr rfl
    · rw [if_neg c3] at h
      unfold X9_word_J51 X9_word_J97 at h
      rw [if_neg c3] at h
      simp only [gl_eq] at h
      obtain ⟨-, h⟩ := eqn_in h
      cases h
      rcases q2 with ⟨w, -, hw, -, -, rfl⟩ | ⟨-, rfl⟩
      · exact Or.inl ⟨rfl, w, by omega, rfl⟩
      · exact absurd rfl c3
  · rw [if_neg c2] at h
    unfold X9_word_J16 at h
    cases h
    exact Or.inr rfl
theorem v_work {NL nw : List (Nat × Nat)} {N L F D W K k : Nat} {r : Int32} {X X1 : gM} (hJ : JJ NL L F D W K X) (h : X9_work (gal NL) N nw X = some (k, r, X1)) : (k = 0 ∧ r = nI K ∧ nw = [(26, 12 + K), (27, 12 + K)]) ∨ k = 3 := by
  obtain ⟨g1, g2, g3, g4, g5, g6, g7, g8, g9, g10, g11, g12⟩ := id hJ
  obtain ⟨hK, -, k2, -, -⟩ := id g10
  unfold X9_work at h
  by_cases c1 : X 0 0 7 = 0
  · rw [if_pos c1] at h
    unfold X9_work_J15 at h
    cases h
    exact Or.inr rfl
  rw [if_neg c1] at h
  by_cases c2 : X 0 0 11 < 4
  · rw [if_pos c2] at h
    obtain ⟨v3, e3, h⟩ := gl_in h
    rw [k2, rd_nI (by omega) (by omega), Option.bind_some] at h
    obtain ⟨hnw, h⟩ := eqn_in h
    obtain ⟨X7, e7, h⟩ := gl_in h
    obtain ⟨j14, hj14, h⟩ := rd_in h
    obtain ⟨X12, e12, h⟩ := gl_in h
    obtain ⟨j17, hj17, h⟩ := rd_in h
    obtain ⟨w21, hw21, h⟩ := rn_in h
    simp only [gl_eq] at h
    cases h
    exact Or.inl ⟨rfl, e3.trans k2, hnw⟩
  · rw [if_neg c2] at h
    unfold X9_work_J15 at h
    cases h
    exact Or.inr rfl
theorem v_unmix {NL : List (Nat × Nat)} {N L F D W K x c k : Nat} {p r : Int32} {X X1 : gM} (hJ : JJ NL L F D W K X) (hx : x < L) (hc : c < 100) (h : X9_unmix (gal NL) N (nI x) (nI 0) (nI c) p X = some (k, r, X1)) : ∃ w, X 46 0 x = nI w ∧ 1 ≤ w ∧ w ≤ 8 ∧ ((c < w ∧ k = 0 ∧ r = if p = 0 then mO (X 56 0) (X 54 0) (X 55 0) (32 * x + c) else mU (X 56 0) (X 54 0) (X 55 0) (32 * x + c)) ∨ (w ≤ c ∧ k = 1)) := by
  obtain ⟨g1, g2, g3, g4, g5, g6, g7, g8, g9, g10, g11, g12⟩ := id hJ
  obtain ⟨hL, h430, h002, h4, hlf⟩ := id g2
  obtain ⟨b, ln, w, hb, l1, l2, w1, w2, f44, f45, f46, f50, f51, f52, f53, f6, -⟩ := hlf x hx
  have ha : gal NL 5 x = true := gal_al g1 hx
  refine ⟨w, f46, w1, w2, ?_⟩
  by_cases hcw : c < w
  · have hlt := lw_lt (ln := ln) (w := w) (l := 0) (c := c) (by omega) hcw
    have hle := lw_le l2 w2
    have ha7 : gal NL 7 (32 * x + (0 * w + c)) = true := gal7 g1 x ln w _ hx f45 f46 l2 w2 hlt
    obtain ⟨r1, r2, r3, r4⟩ := g3 x ln w hx f45 f46 l2 w2 0 c (by omega) hcw
    unfold X9_unmix at h
    rw [X9_cellOf_yes hL h4 hx ha f52 f53 w2 l2 f6 (by omega) hcw, bind2_some, if_neg (zn_nn (by omega)), dr_nI ha7 (by omega), Option.bind_some] at h
    have e0 : 32 * x + 8 * 0 + c = 32 * x + c := by omega
    rw [e0] at r2 r3
    refine Or.inl ⟨hcw, ?_⟩
    by_cases c0 : p = 0
    · rw [if_pos c0] at h
      unfold X9_unmix_J40 at h
      cases h
      exact ⟨rfl, by rw [if_pos c0]; exact r2⟩
    · rw [if_neg c0] at h
      unfold X9_unmix_J40 at h
      cases h
      exact ⟨rfl, by rw [if_neg c0]; exact r3⟩
  · unfold X9_unmix at h
    rw [X9_cellOf_no2 hL h4 hx ha f52 f53 (fun q => hcw ((zn_lt (by omega) (by omega)).mp q.2.2)), bind2_some, if_pos m1_neg] at h
    cases h
    exact Or.inr ⟨by omega, rfl⟩
theorem mU_rng (im ov un : Nat → Int32) (b : Nat) : (mU im ov un b = -1 ∧ mO im ov un b = -1) ∨ ∃ u v, u ≤ 9 ∧ v ≤ 9 ∧ mU im ov un b = nI v ∧ mO im ov un b = nI u := by
  unfold mU mO
  by_cases c : cntP (cmB im ov un b) 100 = 1
  · have h := lastP_lt (cmB im ov un b) 100 (by omega)
    rw [if_pos c, if_pos c]
    exact Or.inr ⟨_, _, by omega, by omega, rfl, rfl⟩
  · rw [if_neg c, if_neg c]
    exact Or.inl ⟨rfl, rfl⟩
theorem v_hold {NL : List (Nat × Nat)} {N L F D W K f k : Nat} {p r : Int32} {X X1 : gM} (hJ : JJ NL L F D W K X) (hf : f < F) (hp : p = 0 ∨ p = 1) (h : X9_hold (gal NL) N (nI f) p X = some (k, r, X1)) : k = 0 ∧ r = X 67 0 f ∧ (r = 0 ∨ r = 1) ∧ X1 23 f 6 = p := by
  obtain ⟨g1, g2, g3, g4, g5, g6, g7, g8, g9, g10, g11, g12⟩ := id hJ
  obtain ⟨hF, e1, e2, h22, hfc⟩ := id g7
  obtain ⟨kk, a, o, b, hk, ha, hb, f44, f63, f64, f65, q3, qn3, f0, f1, f2, f3, f4, f5, f6, f66, f67⟩ := hfc f hf
  have hw : (0 : Int32) ≤ nI f ∧ nI f ≤ 12 - 1 := ⟨not_lt32.mp (zn_nn (by omega)), (zn_lel (k := 11) (by omega) (by decide)).mpr (show f ≤ 11 by omega)⟩
  have hal : gal NL 23 f = true := gal_al g1 hf
  have halb : gal NL 12 b = true := gal_al g1 hb
  unfold X9_hold at h
  rw [X9_isWithin_eq, bind2_some, if_pos hw, if_neg (by decide), rd_nI (by omega) (by omega), Option.bind_some, h22, if_pos hf, if_neg (zn_nn (by omega)), dr_nI hal (by omega), Option.bind_some, gl_eq, bz_01 hp, Option.bind_some, gl_eq] at h
  have r1 : (mset X 23 f 6 p) 23 f 1 = nI b := by rw [mset_at, if_neg (by omega), f1]
  rw [r1, dr_nI halb (by omega), Option.bind_some, X5_forget_eq, bind2_some, f6, bz_01 f67, Option.bind_some] at h
  cases h
  refine ⟨rfl, rfl, f67, ?_⟩
  have : fgt (mset X 23 f 6 p) b 23 f 6 = mset X 23 f 6 p 23 f 6 := by
    unfold fgt
    repeat rw [mset_at, if_neg (by omega)]
  rw [this, mset_same]
theorem v_light {NL : List (Nat × Nat)} {N L F D W K a b c k : Nat} {r : Int32} {X X1 : gM} (hN : 1000000 ≤ N) (hJ : JJ NL L F D W K X) (ha : a < 3) (hb : b < 10) (hc : c < 10) (h : X9_light (gal NL) N (nI a) (nI b) (nI c) X = some (k, r, X1)) : k = 0 := by
  obtain ⟨g1, g2, g3, g4, g5, g6, g7, g8, g9, g10, g11, g12⟩ := id hJ
  have w1 : (0 : Int32) ≤ nI a ∧ nI a ≤ 2 := ⟨not_lt32.mp (zn_nn (by omega)), (zn_lel (k := 2) (by omega) (by decide)).mpr (show a ≤ 2 by omega)⟩
  have w2 : (0 : Int32) ≤ nI b ∧ nI b ≤ 9 := ⟨not_lt32.mp (zn_nn (by omega)), (zn_lel (k := 9) (by omega) (by decide)).mpr (show b ≤ 9 by omega)⟩
  have w3 : (0 : Int32) ≤ nI c ∧ nI c ≤ 9 := ⟨not_lt32.mp (zn_nn (by omega)), (zn_lel (k := 9) (by omega) (by decide)).mpr (show c ≤ 9 by omega)⟩
  unfold X9_light at h
  rw [X9_isWithin_eq, bind2_some, if_pos w1, if_neg (by decide), X9_isWithin_eq, bind2_some, if_pos w2, if_neg (by decide), X9_isWithin_eq, bind2_some, if_pos w3, if_neg (by decide), rd_nI (by omega) (by omega), Option.bind_some, gl_eq, Option.bind_some, gl_eq] at h
  have g2' : jL L (mset (mset X 2 0 a (nI b)) 3 0 a (nI c)) := jL_cg (by repeat (first | exact (fun _ _ _ _ => rfl) | refine dset ?_ rfl)) g2
  obtain ⟨Y, y1, -⟩ := X9_light_loop (al := gal NL) (N := N) (by omega) g2' (fun i hi => gal_al g1 hi) (fun i ln w j hi h45 h46 hln hw hj => by
    refine gal7 g1 i ln w j hi ?_ ?_ hln hw hj
    · rw [← h45, mset_at, if_neg (by omega), mset_at, if_neg (by omega)]
    · rw [← h46, mset_at, if_neg (by omega), mset_at, if_neg (by omega)])
  rw [y1] at h
  cases h
  rfl
