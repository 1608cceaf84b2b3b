/-! arrangements, places, joined -/
def JJ (NL : List (Nat × Nat)) (L F D W K : Nat) (X : gM) : Prop := jN NL L F W K X ∧ jL L X ∧ jC L X ∧ jZ L X ∧ jH X ∧ jB L X ∧ jF L F X ∧ jD D X ∧ jW W X ∧ jK K X ∧ jI X ∧ jS L F X
theorem JJ_gJ {NL : List (Nat × Nat)} {L F D W K : Nat} {X : gM} (h : JJ NL L F D W K X) : gJ NL X := ⟨L, F, D, W, K, h⟩
theorem JJ_sm {NL : List (Nat × Nat)} {L F D W K : Nat} {X Y : gM} (hZ : Sm X Y) (h : JJ NL L F D W K X) : JJ NL L F D W K Y := by
  obtain ⟨g1, g2, g3, g4, g5, g6, g7, g8, g9, g10, g11, g12⟩ := h
  exact ⟨jN_cg (fun k i j hd => hZ k i j (djN_scr hd)) g1, jL_cg (fun k i j hd => hZ k i j (djL_scr hd)) g2, jC_cg (fun k i j hd => hZ k i j (djC_scr hd)) g3, jZ_cg (fun k i j hd => hZ k i j (djZ_scr hd)) g4, jH_cg (fun k i j hd => hZ k i j (djH_scr hd)) g5, jB_cg (fun k i j hd => hZ k i j (djB_scr hd)) g6, jF_cg (fun k i j hd => hZ k i j (djF_scr hd)) g7, jD_cg (fun k i j hd => hZ k i j (djD_scr hd)) g8, jW_cg (fun k i j hd => hZ k i j (djW_scr hd)) g9, jK_cg (fun k i j hd => hZ k i j (djK_scr hd)) g10, jI_cg (fun k i j hd => hZ k i j (djI_scr hd)) g11, jS_cg (fun k i j hd => hZ k i j (djS_scr hd)) g12⟩
/-- a survey, made or kept -/
theorem surv_J {NL : List (Nat × Nat)} {N L F D W K s b : Nat} {X : gM} (hN : 1000 ≤ N) (hJ : JJ NL L F D W K X) (hs : s < 6) (hb : s / 3 = b) :
    ∃ Y, X5_surveyed_J15 (gal NL) N b s X = some (nI s, Y) ∧ sv s X Y ∧ Y 14 s 2 ≠ 0 ∧ JJ NL L F D W K Y := by
  unfold X5_surveyed_J15 X5_surveyed_J29
  by_cases c : X 14 s 2 = 0
  · obtain ⟨g1, g2, g3, g4, g5, g6, g7, g8, g9, g10, g11, g12⟩ := hJ
    obtain ⟨Y, y1, hZ, y3, y4, y5, y6⟩ := make_eq (D := D) (N := N) hN g1 g2 g6 g7 g12 hs hb
    rw [if_pos c, y1, bind2_some, rn_some (by omega : s < 2147483648), Option.bind_some]
    refine ⟨Y, rfl, hZ, by rw [y3]; decide, jN_cg (fun k p j hd => hZ k p j (by simp only [djN, djL, djC, djZ, djH, djB, djF, djD, djW, djK, djI, djS, Bool.or_eq_true, Bool.and_eq_true, decide_eq_true_eq] at hd; omega)) g1, jL_cg (fun k p j hd => hZ k p j (by simp only [djN, djL, djC, djZ, djH, djB, djF, djD, djW, djK, djI, djS, Bool.or_eq_true, Bool.and_eq_true, decide_eq_true_eq] at hd; omega)) g2, jC_cg (fun k p j hd => hZ k p j (by simp only [djN, djL, djC, djZ, djH, djB, djF, djD, djW, djK, djI, djS, Bool.or_eq_true, Bool.and_eq_true, decide_eq_true_eq] at hd; omega)) g3, jZ_cg (fun k p j hd => hZ k p j (by simp only [djN, djL, djC, djZ, djH, djB, djF, djD, djW, djK, djI, djS, Bool.or_eq_true, Bool.and_eq_true, decide_eq_true_eq] at hd; omega)) g4, jH_cg (fun k p j hd => hZ k p j (by simp only [djN, djL, djC, djZ, djH, djB, djF, djD, djW, djK, djI, djS, Bool.or_eq_true, Bool.and_eq_true, decide_eq_true_eq] at hd; omega)) g5, jB_cg (fun k p j hd => hZ k p j (by simp only [djN, djL, djC, djZ, djH, djB, djF, djD, djW, djK, djI, djS, Bool.or_eq_true, Bool.and_eq_true, decide_eq_true_eq] at hd; omega)) g6, jF_cg (fun k p j hd => hZ k p j (by simp only [djN, djL, djC, djZ, djH, djB, djF, djD, djW, djK, djI, djS, Bool.or_eq_true, Bool.and_eq_true, decide_eq_true_eq] at hd; omega)) g7, jD_cg (fun k p j hd => hZ k p j (by simp only [djN, djL, djC, djZ, djH, djB, djF, djD, djW, djK, djI, djS, Bool.or_eq_true, Bool.and_eq_true, decide_eq_true_eq] at hd; omega)) g8, jW_cg (fun k p j hd => hZ k p j (by simp only [djN, djL, djC, djZ, djH, djB, djF, djD, djW, djK, djI, djS, Bool.or_eq_true, Bool.and_eq_true, decide_eq_true_eq] at hd; omega)) g9, jK_cg (fun k p j hd => hZ k p j (by simp only [djN, djL, djC, djZ, djH, djB, djF, djD, djW, djK, djI, djS, Bool.or_eq_true, Bool.and_eq_true, decide_eq_true_eq] at hd; omega)) g10, jI_cg (fun k p j hd => hZ k p j (by simp only [djN, djL, djC, djZ, djH, djB, djF, djD, djW, djK, djI, djS, Bool.or_eq_true, Bool.and_eq_true, decide_eq_true_eq] at hd; omega)) g11, ?_⟩
    intro t ht
    obtain ⟨q1, q2, q3, q4, q5, q6, q7⟩ := g12 t ht
    by_cases ct : t = s
    · subst ct
      refine ⟨by rw [hZ 14 t 0 (by omega)]; exact q1, by rw [hZ 14 t 1 (by omega)]; exact q2, Or.inr (by rw [y4, hb]), fun j => by rw [hZ 21 t j (by omega)]; exact q4 j, fun j => ?_, fun j => by rw [hZ 19 t j (by omega)]; exact q6 j, Or.inr y6⟩
      rcases y5 j with z | z
      · rw [z]; exact q5 j
      · exact Or.inr z
    · refine ⟨by rw [hZ 14 t 0 (by omega)]; exact q1, by rw [hZ 14 t 1 (by omega)]; exact q2, by rw [hZ 14 t 9 (by omega)]; exact q3, fun j => by rw [hZ 21 t j (by omega)]; exact q4 j, fun j => by rw [hZ 18 t j (by omega)]; exact q5 j, fun j => by rw [hZ 19 t j (by omega)]; exact q6 j, ?_⟩
      rw [hZ 14 t 2 (by omega)]
      refine q7.imp id fun h => ?_
      have e44 : Y 44 0 = X 44 0 := funext fun j => hZ 44 0 j (by omega)
      refine svOK_cg (by rw [e44]) (hZ 53 0 _ (by omega)) (fun i _ => hZ 48 0 i (by omega)) (fun i _ => hZ 47 0 i (by omega)) (fun all f => ?_) (fun all f _ => ⟨hZ 63 0 f (by omega), hZ 64 0 f (by omega), hZ 65 0 f (by omega)⟩) (hZ 14 t 3 (by omega)) (funext fun j => hZ 15 t j (by omega)) (funext fun j => hZ 16 t j (by omega)) (funext fun j => hZ 17 t j (by omega)) h
      unfold cts
      rw [hZ 67 0 f (by omega), hZ 66 0 f (by omega), hZ 64 0 f (by omega)]
  · rw [if_neg c, rn_some (by omega : s < 2147483648), Option.bind_some]
    exact ⟨X, rfl, fun _ _ _ _ => rfl, c, hJ⟩
theorem svOK_of {NL : List (Nat × Nat)} {L F D W K s : Nat} {X : gM} (hJ : JJ NL L F D W K X) (hs : s < 6) (h2 : X 14 s 2 ≠ 0) : svOK L F X s := by
  obtain ⟨-, -, -, -, -, -, -, -, -, -, -, g12⟩ := hJ
  obtain ⟨-, -, -, -, -, -, q7⟩ := g12 s hs
  exact q7.resolve_left h2
/-- the sheets' arrangements in a kept world -/
theorem arr_J {NL : List (Nat × Nat)} {al : Nat → Nat → Bool} {N L F D W K b wo x y : Nat} {X : gM} {all : Bool} {p2 p3 p4 p5 : Int32} (hN : 1000000 ≤ N) (hJ : JJ NL L F D W K X) (hb : b < 2) (hp2 : p2 = 0 ↔ all = false) (hp3 : ∀ f, f < 12 → (nI f = p3 ↔ f = wo)) (hj : p4 = -1 ∨ (p4 = nI x ∧ p5 = nI y ∧ x ∈ lvs (X 44 0) b L ∧ y ∈ lvs (X 44 0) b L)) :
    ∃ sh Y, 1 ≤ sh ∧ sh ≤ 4 ∧ X 53 0 b = nI sh ∧ X10_arranges al N (nI b) p2 p3 p4 p5 X = some (0, Y) ∧ (∀ k p j, k ≠ 75 → k ≠ 76 → ¬ (k = 77 ∧ j ∈ lvs (X 44 0) b L) → ¬ (k = 43 ∧ (j = 40 ∨ j = 42)) → Y k p j = X k p j) ∧ Sm X Y ∧
      Y 43 0 40 = nI (nc (2 * sh) (fit X F (2 * sh) (lvs (X 44 0) b L) all wo) (lvs (X 44 0) b L) a00) ∧
      (∀ l ∈ lvs (X 44 0) b L, ∀ v, v < 32 → (mb (Y 77 0 l) v = true ↔ nc (2 * sh) (fun a => fit X F (2 * sh) (lvs (X 44 0) b L) all wo a ∧ a l = v) (lvs (X 44 0) b L) a00 ≠ 0)) ∧
      (p4 ≠ -1 → Y 43 0 42 = nI (nc (2 * sh) (fun a => fit X F (2 * sh) (lvs (X 44 0) b L) all wo a ∧ a x + a y + 1 = 2 * sh) (lvs (X 44 0) b L) a00)) := by
  obtain ⟨-, ⟨hL, h430, -, -, hlv⟩, -, -, -, ⟨-, hq⟩, ⟨hF, h23, -, -, hfc⟩, -⟩ := hJ
  obtain ⟨sh, sh1, sh4, h53, -, -, hm6, -, -⟩ := hq b hb
  obtain ⟨Y, y1, y2, y3, y4, y5⟩ := X10_arranges_eq (al := al) (N := N) (F := F) (wo := wo) (x := x) (y := y) (all := all) hN hb hL h430 hm6 h53 sh1 sh4 ⟨hF, h23, fun f hf => by
    obtain ⟨k, a, o, b', r1, r2, r3, r4, r5, r6, r7, r8, r9, -⟩ := hfc f hf
    refine ⟨k, a, o, r1, by omega, ?_, r5, r6, r7, fun ha hk => ?_⟩
    · by_cases hk : k = 3
      · have := r8 hk; omega
      · have := (r9 hk).1; omega
    · obtain ⟨z1, z2, z3⟩ := r9 hk
      have hab := (lvs_mem.mp ha).2
      exact lvs_mem.mpr ⟨z1, by rw [z3, ← r4, hab]⟩⟩ (fun l hl => by
    obtain ⟨b', ln, w, -, -, -, -, -, -, -, -, -, -, -, -, -, r13, -⟩ := hlv l (lvs_mem.mp hl).1
    exact r13) hp2 hp3 hj
  refine ⟨sh, Y, sh1, sh4, h53, y1, y2, fun k i j hs => ?_, y3, y4, y5⟩
  refine y2 k i j ?_ ?_ ?_ ?_
  · rintro rfl; exact absurd hs (by simp [scr])
  · rintro rfl; exact absurd hs (by simp [scr])
  · rintro ⟨rfl, -⟩; exact absurd hs (by simp [scr])
  · rintro ⟨rfl, rfl | rfl⟩
    · exact absurd hs (by simp [scr])
    · exact absurd hs (by simp [scr])
theorem masks_eq {m m' : Int32} {C : Nat → Prop} (h : ∀ v, v < 32 → (mb m v = true ↔ C v)) (h' : ∀ v, v < 32 → (mb m' v = true ↔ C v)) : m = m' := b_ext fun v hv => by
  have e1 := h v hv
  have e2 := h' v hv
  rw [mb_bt] at e1 e2
  cases c : bt m v <;> cases c' : bt m' v
  · rfl
  · exact absurd (e1.mpr (e2.mp c')) (by rw [c]; decide)
  · exact absurd (e2.mpr (e1.mp c)) (by rw [c']; decide)
  · rfl
theorem wo99 : ∀ f, f < 12 → (nI f = (-1 : Int32) ↔ f = 99) := fun f hf => ⟨fun q => absurd q (zn_ne1 (by omega)), fun q => by omega⟩
/-- the world in which the sheets begin -/
theorem Sm_out {X : gM} (r v : Int32) : Sm X (mset (mset X 81 0 0 r) 43 0 46 v) := (Sm.rfl.set rfl).set rfl
theorem case14 {NL : List (Nat × Nat)} {al : Nat → Nat → Bool} {N : Nat} {X : gM} (hN : 1000000 ≤ N) (a1 a2 a3 a4 a5 a6 : Int32) (h : gJ NL X) : ∃ (rr : Int32) (X' : gM), K14 (gal NL) al N [] a1 a2 a3 a4 a5 a6 X = some (rr, X') ∧ gJ NL X' := by
  unfold K14
  rw [eqn_nil, Option.bind_some]
  generalize hp : (if a2 = (0 : Int32) then (0 : Int32) else (1 : Int32)) = p
  have hp01 : p = 0 ∨ p = 1 := by
    rw [← hp]
    by_cases c : a2 = 0
    · rw [if_pos c]; exact Or.inl rfl
    · rw [if_neg c]; exact Or.inr rfl
  obtain ⟨L, F, D, W, K, hJ⟩ := id h
  have hJ' : JJ NL L F D W K X := hJ
  obtain ⟨g1, g2, g3, g4, g5, g6, g7, g8, g9, g10, g11, g12⟩ := id hJ
  obtain ⟨h11, hB⟩ := id g6
  rcases ir_or a1 (n := 2) (by omega) with ⟨b, hb, rfl⟩ | hb
  · have hir : (0 : Int32) ≤ nI b ∧ nI b ≤ 1 := (ir_2 _).mpr (ir_nI (by omega) hb)
    have ha : gal NL 12 b = true := gal_al g1 hb
    obtain ⟨all, s, hs, hsb, hall, hpall, hsur⟩ : ∃ (all : Bool) (s : Nat), s < 6 ∧ s / 3 = b ∧ decide (s % 3 = 1) = all ∧ (p = 0 ↔ all = false) ∧ X5_surveyed (gal NL) N b p X = X5_surveyed_J15 (gal NL) N b s X := by
      rcases hp01 with rfl | rfl
      · exact ⟨false, 3 * b, by omega, by omega, decide_eq_false (by omega), ⟨fun _ => rfl, fun _ => rfl⟩, by unfold X5_surveyed; rw [if_pos rfl]⟩
      · exact ⟨true, 3 * b + 1, by omega, by omega, decide_eq_true (by omega), ⟨fun q => absurd q (by decide), fun q => (by cases q)⟩, by unfold X5_surveyed; rw [if_neg (by decide)]⟩
    obtain ⟨Y, y1, y2, y3, hJY⟩ := surv_J (N := N) (by omega) hJ' hs hsb
    have hJZ := JJ_sm (Sm_out (X := Y) (Y 14 s 3) 0) hJY
    have has : gal NL 14 s = true := gal_al g1 hs
    obtain ⟨sh, Z, z1, z2, z3, z4, zf, z5, z6, -, -⟩ := arr_J (al := al) (wo := 99) (x := 0) (y := 0) (all := all) (p2 := p) (p3 := -1) (p4 := -1) (p5 := -1) hN hJZ hb hpall wo99 (Or.inl rfl)
    have hsv := svOK_of hJZ hs (by rw [mset_at, if_neg (by omega), mset_at, if_neg (by omega)]; exact y3) sh _ z2 (by rw [hsb]; exact z3) rfl
    refine ⟨_, _, K_ans (r := Y 14 s 3) (X1 := mset Y 81 0 0 (Y 14 s 3)) (X2 := Z) ?_ ?_ ?_ ?_, JJ_gJ (JJ_sm z5 hJZ)⟩
    · unfold L_arrangements X9_arrangements
      rw [X9_quireOf_yes h11 hb, bind2_some, if_neg (zn_nn (by omega)), dr_nI ha (by omega), Option.bind_some, hsur, y1, bind2_some, dr_nI has (by omega), Option.bind_some, bind3_some, if_pos rfl]
    · unfold X10_arrangements
      rw [X10_in_eq, bind2_some, if_pos hir, if_neg (by decide)]
      unfold X10_arrangements_J15
      have hs1 := hsv.1
      rw [hall, hsb, mset_at, if_neg (by omega), mset_at, if_neg (by omega)] at hs1
      have ans : Z 43 0 40 = Y 14 s 3 := z6.trans hs1.symm
      rw [gl_eq, mset_same, if_pos (by decide), z4, bind2_some, ans]
    · rw [zf 43 0 46 (by omega) (by omega) (fun z => by omega) (by omega), mset_same]
    · rw [zf 81 0 0 (by omega) (by omega) (fun z => by omega) (by omega), mset_at, if_neg (by omega), mset_same]
  · refine ⟨_, _, K_thrown (k := 1) (r := 0) (X1 := X) (X2 := mset X 43 0 46 1) ?_ ?_ (mset_same ..) (by decide), gJ_th _ h⟩
    · unfold L_arrangements X9_arrangements
      rw [X9_quireOf_no hb, bind2_some, if_pos m1_neg, bind3_some]
      rfl
    · unfold X10_arrangements
      rw [X10_in_eq, bind2_some, if_neg (fun q => hb ((ir_2 _).mp q)), if_pos rfl]
      unfold X10_arrangements_J15
      rw [gl_eq, mset_same, if_neg (by decide)]
theorem case15 {NL : List (Nat × Nat)} {al : Nat → Nat → Bool} {N : Nat} {X : gM} (hN : 1000000 ≤ N) (a1 a2 a3 a4 a5 a6 : Int32) (h : gJ NL X) : ∃ (rr : Int32) (X' : gM), K15 (gal NL) al N [] a1 a2 a3 a4 a5 a6 X = some (rr, X') ∧ gJ NL X' := by
  unfold K15
  rw [eqn_nil, Option.bind_some]
  generalize hp : (if a2 = (0 : Int32) then (0 : Int32) else (1 : Int32)) = p
  have hp01 : p = 0 ∨ p = 1 := by
    rw [← hp]
    by_cases c : a2 = 0
    · rw [if_pos c]; exact Or.inl rfl
    · rw [if_neg c]; exact Or.inr rfl
  obtain ⟨L, F, D, W, K, hJ⟩ := id h
  have hJ' : JJ NL L F D W K X := hJ
  obtain ⟨g1, g2, g3, g4, g5, g6, g7, g8, g9, g10, g11, g12⟩ := id hJ
  obtain ⟨hL, h430, -, h4, hlv⟩ := id g2
  rcases ir_or a1 (n := L) (by omega) with ⟨x, hx, rfl⟩ | hx
  · obtain ⟨b, ln, w, hb, -, -, -, -, h44, -, -, h50, h51, -⟩ := hlv x hx
    have ha : gal NL 12 b = true := gal_al g1 hb
    have ha5 : gal NL 5 x = true := gal_al g1 hx
    have hir := ir_nI (n := L) (by omega) hx
    obtain ⟨all, s, hs, hsb, hall, hpall, hsur⟩ : ∃ (all : Bool) (s : Nat), s < 6 ∧ s / 3 = b ∧ decide (s % 3 = 1) = all ∧ (p = 0 ↔ all = false) ∧ X5_surveyed (gal NL) N b p X = X5_surveyed_J15 (gal NL) N b s X := by
      rcases hp01 with rfl | rfl
      · exact ⟨false, 3 * b, by omega, by omega, decide_eq_false (by omega), ⟨fun _ => rfl, fun _ => rfl⟩, by unfold X5_surveyed; rw [if_pos rfl]⟩
      · exact ⟨true, 3 * b + 1, by omega, by omega, decide_eq_true (by omega), ⟨fun q => absurd q (by decide), fun q => (by cases q)⟩, by unfold X5_surveyed; rw [if_neg (by decide)]⟩
    obtain ⟨Y, y1, y2, y3, hJY⟩ := surv_J (N := N) (by omega) hJ' hs hsb
    have hJZ := JJ_sm (Sm_out (X := Y) (Y 15 s x) 0) hJY
    have has : gal NL 14 s = true := gal_al g1 hs
    obtain ⟨sh, Z, z1, z2, z3, z4, zf, z5, -, z6, -⟩ := arr_J (al := al) (wo := 99) (x := 0) (y := 0) (all := all) (p2 := p) (p3 := -1) (p4 := -1) (p5 := -1) hN hJZ hb hpall wo99 (Or.inl rfl)
    have hsv := svOK_of hJZ hs (by rw [mset_at, if_neg (by omega), mset_at, if_neg (by omega)]; exact y3) sh _ z2 (by rw [hsb]; exact z3) rfl
    have e44 : (mset (mset Y 81 0 0 (Y 15 s x)) 43 0 46 0) 44 0 x = nI b := by rw [mset_at, if_neg (by omega), mset_at, if_neg (by omega), y2 44 0 x (by omega), h44]
    have hxm : x ∈ lvs ((mset (mset Y 81 0 0 (Y 15 s x)) 43 0 46 0) 44 0) b L := lvs_mem.mpr ⟨hx, e44⟩
    have ans : Z 77 0 x = Y 15 s x := masks_eq (z6 x hxm) (fun v hv => by
      have h1 := hsv.2.1 x (by rw [hsb]; exact hxm) v hv
      rw [hall, hsb, mset_at, if_neg (by omega), mset_at, if_neg (by omega)] at h1
      exact h1)
    refine ⟨_, _, K_ans (r := Y 15 s x) (X1 := mset Y 81 0 0 (Y 15 s x)) (X2 := Z) ?_ ?_ ?_ ?_, JJ_gJ (JJ_sm z5 hJZ)⟩
    · unfold L_places X9_places X9_placesOf
      rw [X9_leafOf_yes hL h4 hx, bind2_some, if_neg (zn_nn (by omega)), dr_nI ha5 (by omega), Option.bind_some, h51, dr_nI ha (by omega), Option.bind_some, hsur, y1, bind2_some, dr_nI has (by omega), Option.bind_some, y2 5 x 0 (by omega), h50, rd_nI (by omega) (by omega), Option.bind_some, bind2_some, bind3_some, if_pos rfl]
    · unfold X10_places
      have hL430 : (mset Y 81 0 0 (Y 15 s x)) 43 0 0 = nI L := by rw [mset_at, if_neg (by omega), y2 43 0 0 (by omega), h430]
      rw [X10_isLeaf_eq al N _ hL430 (by omega), bind2_some, if_pos hir, if_neg (by decide)]
      unfold X10_places_J14
      rw [gl_eq, mset_same, if_pos (by decide), rd_nI (by omega) (by omega), Option.bind_some, e44, z4, bind2_some, Option.bind_some, ans]
    · rw [zf 43 0 46 (by omega) (by omega) (fun z => by omega) (by omega), mset_same]
    · rw [zf 81 0 0 (by omega) (by omega) (fun z => by omega) (by omega), mset_at, if_neg (by omega), mset_same]
  · refine ⟨_, _, K_thrown (k := 1) (r := 0) (X1 := X) (X2 := mset X 43 0 46 1) ?_ ?_ (mset_same ..) (by decide), gJ_th _ h⟩
    · unfold L_places X9_places
      rw [X9_leafOf_no hL h4 hx, bind2_some, if_pos m1_neg, bind3_some]
      rfl
    · unfold X10_places
      rw [X10_isLeaf_eq al N _ h430 (by omega), bind2_some, if_neg hx, if_pos rfl]
      unfold X10_places_J14
      rw [gl_eq, mset_same, if_neg (by decide)]
