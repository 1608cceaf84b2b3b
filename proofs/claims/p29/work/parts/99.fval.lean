/-! what the class answers: dates, hands, give, image, rests, worth -/
def dv (X : gM) (F L i : Nat) : Int32 := dtF (X 52 0) (itF X F ((1 : Int32) <<< (nI i &&& 31)) 10) L
theorem dtF_upd {x : Nat → Int32} {s a : Int32} {i : Nat} (hs : bt s i = true) (n : Nat) : dtF (fun k => if k = i then x k &&& a else x k) s n = if i < n then dtF x s n &&& a else dtF x s n := by
  induction n with
  | zero => rw [if_neg (by omega)]; rfl
  | succ n ih =>
    show (if bt s n = true then dtF (fun k => if k = i then x k &&& a else x k) s n &&& (if n = i then x n &&& a else x n) else dtF (fun k => if k = i then x k &&& a else x k) s n) = _
    have e : dtF x s (n + 1) = if bt s n = true then dtF x s n &&& x n else dtF x s n := rfl
    rw [ih, e]
    by_cases hi : n = i
    · subst hi
      rw [if_pos hs, if_pos hs, if_pos rfl, if_neg (by omega), if_pos (by omega), Int32.and_assoc]
    · by_cases hn : i < n
      · rw [if_pos hn, if_pos (by omega : i < n + 1), if_neg hi]
        by_cases c : bt s n = true
        · rw [if_pos c, if_pos c, Int32.and_assoc, Int32.and_comm a, ← Int32.and_assoc]
        · rw [if_neg c, if_neg c]
      · rw [if_neg hn, if_neg (by omega : ¬ i < n + 1), if_neg hi]
theorem itF_mono {X : gM} {F : Nat} {s : Int32} {v : Nat} (h : bt s v = true) (n : Nat) : bt (itF X F s n) v = true := by
  induction n with
  | zero => exact h
  | succ n ih => exact psF_mono ih F
theorem small_12 {m : Int32} (h : m &&& 4095 = m) : ∃ n, n ≤ 4095 ∧ m = nI n := by
  refine ⟨m.toBitVec.toNat, ?_, ?_⟩
  · have e : m.toBitVec = m.toBitVec &&& (4095 : Int32).toBitVec := by rw [← Int32.toBitVec_and, h]
    rw [e, BitVec.toNat_and]
    exact Nat.le_trans Nat.and_le_right (by decide)
  · refine Int32.toBitVec_inj.mp ?_
    show m.toBitVec = BitVec.ofNat 32 m.toBitVec.toNat
    rw [BitVec.ofNat_toNat, BitVec.setWidth_eq]
theorem dv_rng (X : gM) (F L i : Nat) : ∃ n, n ≤ 4095 ∧ dv X F L i = nI n := small_12 (dtF_and _ _ _)
theorem dv_cg {X Y : gM} (h : keeps X Y) (F L i : Nat) : dv Y F L i = dv X F L i := by
  unfold dv
  have e (k : Nat) (h1 : 44 ≤ k) (h2 : k ≤ 67) : Y k 0 = X k 0 := by rw [h k h1 h2]
  rw [itF_cg (e 63 (by omega) (by omega)) (e 64 (by omega) (by omega)) (e 65 (by omega) (by omega)) (e 66 (by omega) (by omega)) (e 67 (by omega) (by omega)), e 52 (by omega) (by omega)]
theorem lf_50 {L : Nat} {X : gM} (g2 : jL L X) : ∀ i, i < L → X 5 i 0 = nI i := fun i hi => by
  obtain ⟨b, ln, w, hb, l1, l2, w1, w2, f44, f45, f46, f50, -⟩ := g2.2.2.2.2 i hi
  exact f50
theorem lf_512 {L : Nat} {X : gM} (g2 : jL L X) : ∀ i, i < L → X 5 i 12 = X 52 0 i := fun i hi => by
  obtain ⟨b, ln, w, hb, l1, l2, w1, w2, f44, f45, f46, f50, f51, f52, f53, f6, f55, f55b, f56, f56b, f57, f58, f59, f510, f511, f511b, f512⟩ := g2.2.2.2.2 i hi
  exact f512
theorem v_dates {NL : List (Nat × Nat)} {N L F D W K i k : Nat} {r : Int32} {X X1 : gM} (hN : 1000000 ≤ N) (hJ : JJ NL L F D W K X) (hi : i < L) (h : X9_dates (gal NL) N (nI i) X = some (k, r, X1)) : k = 0 ∧ r = dv X F L i := by
  obtain ⟨g1, g2, g3, g4, g5, g6, g7, g8, g9, g10, g11, g12⟩ := id hJ
  obtain ⟨hL, h430, h002, h4, hlf⟩ := id g2
  obtain ⟨hF, h23, h5f, h22, hf⟩ := id g7
  have hal : ∀ i, i < L → gal NL 5 i = true := fun i hi => gal_al g1 hi
  have hal23 : ∀ f, f < F → gal NL 23 f = true := fun f hf => gal_al g1 hf
  have y1 := X9_spansOf_eq (al := gal NL) (N := N) (by omega) hF hL h22 hal23 (jF_23 g7) h4 (lf_50 g2) hal hi
  rw [dtF_cg (y := X 52 0) (lf_512 g2)] at y1
  unfold X9_dates at h
  rw [X9_leafOf_yes hL h4 hi, bind2_some, if_neg (zn_nn (by omega)), dr_nI (hal i hi) (by omega), Option.bind_some, y1, bind2_some] at h
  cases h
  exact ⟨rfl, rfl⟩
theorem v_date {NL : List (Nat × Nat)} {N L F D W K i m k : Nat} {r : Int32} {X X1 : gM} (hN : 1000000 ≤ N) (hJ : JJ NL L F D W K X) (hi : i < L) (hm : m < 4096) (h : X9_date (gal NL) N (nI i) (nI m) X = some (k, r, X1)) : k = 3 ∨ (k = 0 ∧ r = dv X F L i &&& nI m ∧ ∀ j, X1 5 j 12 = if j = i then X 5 j 12 &&& nI m else X 5 j 12) := by
  obtain ⟨g1, g2, g3, g4, g5, g6, g7, g8, g9, g10, g11, g12⟩ := id hJ
  obtain ⟨hL, h430, h002, h4, hlf⟩ := id g2
  obtain ⟨hF, h23, h5f, h22, hf⟩ := id g7
  have hal : ∀ i, i < L → gal NL 5 i = true := fun i hi => gal_al g1 hi
  have hal23 : ∀ f, f < F → gal NL 23 f = true := fun f hf => gal_al g1 hf
  have c2 : (0 : Int32) ≤ nI m ∧ nI m ≤ 4095 := ⟨not_lt32.mp (zn_nn (by omega)), (zn_lel (k := 4095) (by omega) (by decide)).mpr (show m ≤ 4095 by omega)⟩
  unfold X9_date at h
  rw [X9_leafOf_yes hL h4 hi, bind2_some, if_neg (zn_nn (by omega)), X9_isWithin_eq, bind2_some, if_pos c2, if_neg (by decide), dr_nI (hal i hi) (by omega), Option.bind_some] at h
  by_cases c : X 5 i 11 < 4
  · rw [if_pos c, gl_eq, gl_eq] at h
    obtain ⟨r16, X17, h16, h⟩ := b2_in h
    have e17 : X17 = _ := frm_all (fr_X9_spansOf frm_rfl _ h16)
    generalize hX1 : mset (mset X 5 i 11 (X 5 i 11 + 1)) 5 i 12 (mset X 5 i 11 (X 5 i 11 + 1) 5 i 12 &&& nI m) = Z at h16 e17
    have x1 : ∀ k p j, ¬ (k = 5 ∧ p = i ∧ (j = 11 ∨ j = 12)) → Z k p j = X k p j := fun k p j hk => by
      rw [← hX1]
      simp only [mset_at]
      rw [if_neg (by omega), if_neg (by omega)]
    have x12 : Z 5 i 12 = X 5 i 12 &&& nI m := by rw [← hX1, mset_same, mset_at, if_neg (by omega)]
    have y1 := X9_spansOf_eq (al := gal NL) (N := N) (F := F) (L := L) (i := i) (X := Z) (by omega) hF hL (fun j => (x1 22 0 j (by omega)).trans (h22 j)) hal23 (fun f hf => by
      rw [x1 23 f 2 (by omega), x1 23 f 3 (by omega), x1 23 f 4 (by omega), x1 23 f 5 (by omega), x1 23 f 6 (by omega), x1 63 0 f (by omega), x1 64 0 f (by omega), x1 65 0 f (by omega), x1 66 0 f (by omega), x1 67 0 f (by omega)]
      exact jF_23 g7 f hf) (fun j => (x1 4 0 j (by omega)).trans (h4 j)) (fun i' hi' => (x1 5 i' 0 (by omega)).trans (lf_50 g2 i' hi')) hal hi
    rw [itF_cg (X := X) (funext fun j => x1 63 0 j (by omega)) (funext fun j => x1 64 0 j (by omega)) (funext fun j => x1 65 0 j (by omega)) (funext fun j => x1 66 0 j (by omega)) (funext fun j => x1 67 0 j (by omega))] at y1
    have hd : dtF (fun k => Z 5 k 12) (itF X F ((1 : Int32) <<< (nI i &&& 31)) 10) L = dtF (fun k => if k = i then X 52 0 k &&& nI m else X 52 0 k) (itF X F ((1 : Int32) <<< (nI i &&& 31)) 10) L := by
      refine dtF_cg (fun k hk => ?_)
      show Z 5 k 12 = if k = i then X 52 0 k &&& nI m else X 52 0 k
      by_cases hki : k = i
      · subst hki
        rw [if_pos rfl, x12, lf_512 g2 k hk]
      · rw [if_neg hki, x1 5 k 12 (by omega), lf_512 g2 k hk]
    rw [hd, dtF_upd (itF_mono (by rw [b_one (by omega) (by omega)]; exact decide_eq_true rfl) 10), if_pos hi] at y1
    rw [y1] at h16
    cases h16
    cases h
    refine Or.inr ⟨rfl, rfl, fun j => ?_⟩
    by_cases hj : j = i
    · subst hj
      rw [if_pos rfl]; exact x12
    · rw [if_neg hj]; exact x1 5 j 12 (by omega)
  · rw [if_neg c] at h
    cases h
    exact Or.inl rfl
theorem hC_of {L : Nat} {X : gM} {h : Nat → Nat → Nat} {s : Nat → Nat} (g2 : jL L X) (hm : hM 10 X h s) : hC L X h s := by
  obtain ⟨hL, h430, h002, h4, hlf⟩ := g2
  intro i hi
  obtain ⟨b, ln, w, hb, l1, l2, w1, w2, f44, f45, f46, f50, f51, f52, f53, f6, f55, f55b, f56, f56b, f57, f58, f59, f510, -⟩ := hlf i hi
  obtain ⟨q1, q2, q3⟩ := hm i (by omega)
  refine ⟨fun k hk => (q1 k hk).1, ?_, ?_, ?_, q2, ?_⟩
  · rw [f57]; exact (q1 0 (by omega)).2
  · rw [f58]; exact (q1 1 (by omega)).2
  · rw [f59]; exact (q1 2 (by omega)).2
  · rw [f510]; exact q3
theorem v_handOf {NL : List (Nat × Nat)} {N L F D W K x k : Nat} {r : Int32} {X X1 : gM} {hh : Nat → Nat → Nat} {ss : Nat → Nat} (hN : 1000000 ≤ N) (hJ : JJ NL L F D W K X) (hx : x < L) (hm : hM 10 X hh ss) (h : X9_handOf (gal NL) N (nI x) X = some (k, r, X1)) : ∃ f, finR (alkF hh ss) L f ∧ k = 0 ∧ r = nI (f x) := by
  obtain ⟨g1, g2, g3, g4, g5, g6, g7, g8, g9, g10, g11, g12⟩ := id hJ
  obtain ⟨hL, h430, h002, h4, hlf⟩ := id g2
  have hal : ∀ i, i < L → gal NL 5 i = true := fun i hi => gal_al g1 hi
  obtain ⟨Y, f, y1, y2, y3, y4⟩ := X9_settleHands_eq (al := gal NL) (N := N) (by omega) hL h4 (lf_50 g2) hal (hC_of g2 hm)
  have r1 : Y 5 x 0 = nI x := (y2 5 x 0 (by omega)).trans (lf_50 g2 x hx)
  have e : X9_handOf (gal NL) N (nI x) X = some (0, nI (f x), Y) := by
    simp (disch := omega) only [X9_handOf, X9_leafOf_yes hL h4 hx, if_neg (zn_nn (a := x) (by omega)), y1, dr_nI (hal x hx) (by omega : x < 2147483648), r1, y3 x hx, zn_add, zn_mul, zn_addl, zn_ladd, zn_mull, zn_lmul, zn_le, zn_lt, zn_eq, zn_lel, zn_ltl, zn_eql, zn_lle, zn_llt, zn_leq, zn_sub, zn_subl, zn_m1, gl_eq, bind2_some, bind3_some, Option.bind_some, bz_0, bz_1, ib_0, ib_1, ib_bz, rd_nI, rd_l, if_pos, if_neg, if_true, if_false, ite_true, ite_false, eq_self, j00, j10, j20, j30, k00, k01, k02, k03, i20, i30, km0, i10, i01, im0, im1, i0m, i1m]
  rw [e] at h
  cases h
  exact ⟨f, y4, rfl, rfl⟩
theorem fin_conn {R : Nat → Nat → Bool} {n : Nat} {f : Nat → Nat} (hR : ∀ a b, R a b = R b a) (hf : finR R n f) {i j : Nat} (h : conn R n i j) : f j = f i := by
  refine h (fun v => f v = f i) rfl (fun a b ha hb hr hq => ?_)
  have h1 := hf.2 a b ha hb hr
  have h2 := hf.2 b a hb ha (by rw [hR]; exact hr)
  omega
theorem fin_idem {R : Nat → Nat → Bool} {n : Nat} {f : Nat → Nat} (hR : ∀ a b, R a b = R b a) (hf : finR R n f) {k : Nat} (hk : k < n) : f (f k) = f k := (fin_conn hR hf (hf.1 k hk).2).symm
theorem v_hand {NL : List (Nat × Nat)} {N L F D W K i v2 v3 v4 v5 k : Nat} {r : Int32} {X X1' : gM} (hN : 1000000 ≤ N) (hJ : JJ NL L F D W K X) (hi : i < L) (w2 : v2 < 21) (w3 : v3 < 21) (w4 : v4 < 21) (w5 : v5 < 4) (h : X9_hand (gal NL) N (nI i) (nI v2) (nI v3) (nI v4) (nI v5) X = some (k, r, X1')) : k = 0 ∧ ∃ n, 1 ≤ n ∧ n ≤ L ∧ r = nI n := by
  obtain ⟨g1, g2, g3, g4, g5, g6, g7, g8, g9, g10, g11, g12⟩ := id hJ
  obtain ⟨hL, h430, h002, h4, hlf⟩ := id g2
  have c2 : (0 : Int32) ≤ nI v2 ∧ nI v2 ≤ 20 := ⟨not_lt32.mp (zn_nn (by omega)), (zn_lel (k := 20) (by omega) (by decide)).mpr (show v2 ≤ 20 by omega)⟩
  have c3 : (0 : Int32) ≤ nI v3 ∧ nI v3 ≤ 20 := ⟨not_lt32.mp (zn_nn (by omega)), (zn_lel (k := 20) (by omega) (by decide)).mpr (show v3 ≤ 20 by omega)⟩
  have c4 : (0 : Int32) ≤ nI v4 ∧ nI v4 ≤ 20 := ⟨not_lt32.mp (zn_nn (by omega)), (zn_lel (k := 20) (by omega) (by decide)).mpr (show v4 ≤ 20 by omega)⟩
  have c5 : (0 : Int32) ≤ nI v5 ∧ nI v5 ≤ 3 := ⟨not_lt32.mp (zn_nn (by omega)), (zn_lel (k := 3) (by omega) (by decide)).mpr (show v5 ≤ 3 by omega)⟩
  obtain ⟨hh, ss, hm, hc⟩ := hands_of g2 g5
  have hal : ∀ i, i < L → gal NL 5 i = true := fun i hi => gal_al g1 hi
  have h50 := lf_50 g2
  generalize hX1 : mset (mset (mset (mset X 5 i 7 (nI v2)) 5 i 8 (nI v3)) 5 i 9 (nI v4)) 5 i 10 (nI v5) = X1
  have x1 : ∀ k p j, ¬ (k = 5 ∧ p = i ∧ 7 ≤ j ∧ j ≤ 10) → X1 k p j = X k p j := fun k p j hk => by
    rw [← hX1]
    simp only [mset_at]
    rw [if_neg (by omega), if_neg (by omega), if_neg (by omega), if_neg (by omega)]
  have hc1 : hC L X1 (fun i' k => if i' = i then (if k = 0 then v2 else if k = 1 then v3 else v4) else hh i' k) (fun i' => if i' = i then v5 else ss i') := by
    intro i' hi'
    by_cases hii : i' = i
    · subst hii
      rw [← hX1]
      refine ⟨fun k hk => ?_, by simp [mset_at], by simp [mset_at], by simp [mset_at], by simp; omega, by simp [mset_at]⟩
      simp only [if_true]
      by_cases hk0 : k = 0
      · rw [if_pos hk0]; omega
      · rw [if_neg hk0]
        by_cases hk1 : k = 1
        · rw [if_pos hk1]; omega
        · rw [if_neg hk1]; omega
    · obtain ⟨q1, q2, q3, q4, q5, q6⟩ := hc i' hi'
      simp only [if_neg hii]
      exact ⟨q1, (x1 5 i' 7 (by omega)).trans q2, (x1 5 i' 8 (by omega)).trans q3, (x1 5 i' 9 (by omega)).trans q4, q5, (x1 5 i' 10 (by omega)).trans q6⟩
  obtain ⟨Y, f, y1, y2, y3, y4⟩ := X9_settleHands_eq (al := gal NL) (N := N) (X := X1) (by omega) hL (fun j => (x1 4 0 j (by omega)).trans (h4 j)) (fun i' hi' => (x1 5 i' 0 (by omega)).trans (h50 i' hi')) hal hc1
  have hcnt := X9_hand_cnt (al := gal NL) (N := N) (n := L) (X := Y) (f := f) (by omega) hL (fun j => (y2 4 0 j (by omega)).trans ((x1 4 0 j (by omega)).trans (h4 j))) (fun i' hi' => (y2 5 i' 0 (by omega)).trans ((x1 5 i' 0 (by omega)).trans (h50 i' hi'))) hal y3 (fun k hk => (y4.1 k hk).1)
  have hle : cntP (fun k => decide (k < L ∧ f k = k)) 10 ≤ L := by
    rw [cntP_ext hL (fun k h1 _ => decide_eq_false (fun q => by omega))]
    exact cntW_le _ _
  have hge : 1 ≤ cntP (fun k => decide (k < L ∧ f k = k)) 10 := cntP_pos (k := 0) (by omega) (decide_eq_true ⟨by omega, by have := (y4.1 0 (by omega)).1; omega⟩)
  generalize cntP (fun k => decide (k < L ∧ f k = k)) 10 = cnt at hcnt hle hge
  generalize hv : nI cnt = v at hcnt
  have e1 : X9_hand (gal NL) N (nI i) (nI v2) (nI v3) (nI v4) (nI v5) X = some (0, v, Y) := by
    unfold X9_hand
    simp (disch := omega) only [X9_leafOf_yes hL h4 hi, if_neg (zn_nn (a := i) (by omega)), X9_isWithin_eq, if_pos c2, if_pos c3, if_pos c4, if_pos c5, dr_nI (hal i hi) (by omega : i < 2147483648), bind2_some, ib_0, gl_eq, Option.bind_some, hX1, y1, hcnt, bind3_some, i10, if_false, if_true]
  rw [e1] at h
  cases h
  exact ⟨rfl, cnt, hge, hle, hv.symm⟩
theorem countOf_3 {al : Nat → Nat → Bool} {N p0 : Nat} {p1 r : Int32} {X Y : gM} (h : X0_countOf al N p0 p1 X = some (r, Y)) : ∃ v, v ≤ 3 ∧ r = nI v := by
  have key : ∀ n i c X, c ≤ i → i ≤ 3 → fa (fun q : Int32 × gM => ∃ v, v ≤ 3 ∧ q.1 = nI v) (X0_countOf_L4 al N (fun p2 Y => X0_countOf_J31 al N p2 Y) n p0 p1 (nI c) (nI i) X) := by
    intro n
    induction n with
    | zero => intro i c X _ _; exact fa_none
    | succ n ih =>
      intro i c X hc hi
      rw [X0_countOf_L4]
      refine fa_ite (fun _ => ?_) (fun c3 => ?_)
      · unfold X0_countOf_J31
        exact fa_some ⟨c, by omega, rfl⟩
      · have hi3 : i < 3 := by
          refine Nat.lt_of_not_le (fun q => c3 ?_)
          exact (zn_lle (k := 3) (by omega) (by decide)).mpr q
        refine fa_bd (fun j _ => ?_)
        unfold X0_countOf_J25
        refine fa_ite (fun _ => ?_) (fun _ => ?_)
        · rw [gl_eq, zn_addl]
          exact ih (i + 1) c X (by omega) (by omega)
        · rw [gl_eq, gl_eq, zn_addl, zn_addl]
          exact ih (i + 1) (c + 1) X (by show c + 1 ≤ i + 1; omega) (by omega)
  unfold X0_countOf at h
  exact key N 0 0 X (by omega) (by omega) _ h
theorem v_give {NL : List (Nat × Nat)} {N k s q v : Nat} {p2 p3 p4 r : Int32} {X X1 : gM} (hs : s < 3) (hq : q < 26) (hv : v < 10) (h : X9_give (gal NL) N (nI s) p2 p3 p4 (nI q) (nI v) X = some (k, r, X1)) : k = 1 ∨ k = 3 ∨ (k = 0 ∧ ∃ n, n ≤ 3 ∧ r = nI n) := by
  have w1 : (0 : Int32) ≤ nI s ∧ nI s ≤ 2 := ⟨not_lt32.mp (zn_nn (by omega)), (zn_lel (k := 2) (by omega) (by decide)).mpr (show s ≤ 2 by omega)⟩
  have w2 : (0 : Int32) ≤ nI q ∧ nI q ≤ 25 := ⟨not_lt32.mp (zn_nn (by omega)), (zn_lel (k := 25) (by omega) (by decide)).mpr (show q ≤ 25 by omega)⟩
  have w3 : (0 : Int32) ≤ nI v ∧ nI v ≤ 9 := ⟨not_lt32.mp (zn_nn (by omega)), (zn_lel (k := 9) (by omega) (by decide)).mpr (show v ≤ 9 by omega)⟩
  have key : fa (fun z : Nat × Int32 × gM => z.1 = 1 ∨ z.1 = 3 ∨ (z.1 = 0 ∧ ∃ n, n ≤ 3 ∧ z.2.1 = nI n)) (X9_give (gal NL) N (nI s) p2 p3 p4 (nI q) (nI v) X) := by
    unfold X9_give
    refine fa_b2 (fun r1 X2 h1 => fa_ite (fun _ => ?_) (fun _ => ?_))
    · unfold X9_give_J24
      exact fa_some (Or.inl rfl)
    · rw [X9_isWithin_eq, bind2_some, if_pos w1, if_neg (by decide), X9_isLetter_eq, bind2_some, if_pos w2, if_neg (by decide), X9_isWithin_eq, bind2_some, if_pos w3, if_neg (by decide)]
      refine fa_bd (fun j17 _ => fa_b2 (fun r19 X20 _ => fa_b2 (fun r22 X23 _ => fa_ite (fun _ => fa_ite (fun _ => ?_) (fun _ => ?_)) (fun _ => ?_))))
      · unfold X9_give_J83
        exact fa_some (Or.inr (Or.inl rfl))
      · refine fa_b2 (fun r27 X28 _ => fa_b2 (fun r30 X31 h30 => fa_some (Or.inr (Or.inr ⟨rfl, ?_⟩))))
        exact countOf_3 h30
      · unfold X9_give_J83
        exact fa_some (Or.inr (Or.inl rfl))
  exact key _ h
theorem v_image {NL : List (Nat × Nat)} {N L F D W K x c g k : Nat} {p5 r : Int32} {X X1 : gM} (hJ : JJ NL L F D W K X) (hx : x < L) (hc : c < 100) (hg : g < 3) (h5 : p5 = -1 ∨ ∃ v, v < 20 ∧ p5 = nI v) (h : X9_image (gal NL) N (nI x) (nI 0) (nI c) (nI g) p5 X = some (k, r, X1)) : ∃ w, X 46 0 x = nI w ∧ 1 ≤ w ∧ w ≤ 8 ∧ ((c < w ∧ k = 0 ∧ r = X1 7 (32 * x + (0 * w + c)) 4) ∨ (w ≤ c ∧ k = 1)) := by
  obtain ⟨g1, g2, g3, g4, g5, g6, g7, g8, g9, g10, g11, g12⟩ := id hJ
  obtain ⟨hL, h430, h002, h4, hlf⟩ := id g2
  obtain ⟨b, ln, w, hb, l1, l2, w1, w2, f44, f45, f46, f50, f51, f52, f53, f6, -⟩ := hlf x hx
  have ha : gal NL 5 x = true := gal_al g1 hx
  have wg : (0 : Int32) ≤ nI g ∧ nI g ≤ 2 := ⟨not_lt32.mp (zn_nn (by omega)), (zn_lel (k := 2) (by omega) (by decide)).mpr (show g ≤ 2 by omega)⟩
  refine ⟨w, f46, w1, w2, ?_⟩
  by_cases hcw : c < w
  · have hlt := lw_lt (ln := ln) (w := w) (l := 0) (c := c) (by omega) hcw
    have hle := lw_le l2 w2
    have ha7 : gal NL 7 (32 * x + (0 * w + c)) = true := gal7 g1 x ln w _ hx f45 f46 l2 w2 hlt
    have key : ∀ Z : gM, fa (fun z : Nat × Int32 × gM => z.1 = 0 ∧ z.2.1 = z.2.2 7 (32 * x + (0 * w + c)) 4) (X9_image_J58 (gal NL) N (nI g) p5 (nI (32 * x + (0 * w + c))) Z) := fun Z => by
      unfold X9_image_J58
      rw [dr_nI ha7 (by omega), Option.bind_some]
      exact fa_bd (fun _ _ => fa_gl (fun _ => fa_b2 (fun _ _ _ => fa_some ⟨rfl, rfl⟩)))
    unfold X9_image at h
    rw [X9_cellOf_yes hL h4 hx ha f52 f53 w2 l2 f6 (by omega) hcw, bind2_some, if_neg (zn_nn (by omega)), X9_isWithin_eq, bind2_some, if_pos wg, if_neg (by decide)] at h
    rcases h5 with e5 | ⟨v, hv, e5⟩
    · rw [if_pos e5] at h
      have := key _ _ h
      exact Or.inl ⟨hcw, this⟩
    · have wv : (0 : Int32) ≤ p5 ∧ p5 ≤ 162 := by
        rw [e5]
        exact ⟨not_lt32.mp (zn_nn (by omega)), (zn_lel (k := 162) (by omega) (by decide)).mpr (show v ≤ 162 by omega)⟩
      have n5 : ¬ p5 = -1 := by rw [e5]; exact zn_ne1 (by omega)
      rw [if_neg n5, X9_isWithin_eq, bind2_some, if_pos wv, if_neg (by decide)] at h
      have := key _ _ h
      exact Or.inl ⟨hcw, this⟩
  · unfold X9_image X9_image_J24 at h
    rw [X9_cellOf_no2 hL h4 hx ha f52 f53 (fun q => hcw ((zn_lt (by omega) (by omega)).mp q.2.2)), bind2_some, if_pos m1_neg] at h
    cases h
    exact Or.inr ⟨by omega, rfl⟩
theorem rsA_lt {B : Nat → Prop} : ∀ {n : Nat} {r : Int32}, n ≤ 12 → rsA B n r → ∀ v, n ≤ v → v < 32 → bt r v = false
  | 0, r, _, h, v, _, _ => by
    have h : r = 0 := h
    rw [h, b_0]
  | n + 1, r, hn, h, v, hv, h32 => by
    obtain ⟨r', h1, h2⟩ := h
    have ih := rsA_lt (by omega) h1 v (by omega) h32
    rcases h2 with ⟨-, rfl⟩ | ⟨-, rfl⟩
    · rw [b_or, ih, b_one (by omega) h32, decide_eq_false (by omega)]
      rfl
    · exact ih
theorem low_n {m : Int32} {n : Nat} (hn : n ≤ 12) (h : ∀ v, n ≤ v → v < 32 → bt m v = false) : ∃ r, r < 2 ^ n ∧ m = nI r := by
  refine ⟨m.toBitVec.toNat, ?_, ?_⟩
  · refine Nat.lt_pow_two_of_testBit (n := n) _ fun i hi => ?_
    by_cases c : i < 32
    · exact h i hi c
    · exact BitVec.getLsbD_of_ge m.toBitVec i (by omega)
  · refine Int32.toBitVec_inj.mp ?_
    show m.toBitVec = BitVec.ofNat 32 m.toBitVec.toNat
    rw [BitVec.ofNat_toNat, BitVec.setWidth_eq]
theorem v_rests {NL : List (Nat × Nat)} {N L F D W K x k : Nat} {r : Int32} {X X1 : gM} (hN : 1000000 ≤ N) (hJ : JJ NL L F D W K X) (hx : x < L) (h : X9_rests (gal NL) N (nI x) X = some (k, r, X1)) : k = 0 ∧ F ≤ 12 ∧ (∃ n, n < 2 ^ F ∧ r = nI n) ∧ ∃ b sh m, b < 2 ∧ X 44 0 x = nI b ∧ 1 ≤ sh ∧ sh ≤ 4 ∧ X 53 0 b = nI sh ∧ m < 256 ∧ (∀ v, v < 32 → (mb (nI m) v = true ↔ nc (2 * sh) (fun a => fit X F (2 * sh) (lvs (X 44 0) b L) false 99 a ∧ a x = v) (lvs (X 44 0) b L) a00 ≠ 0)) ∧ (popk 8 m = 1 ∨ r = 0) := by
  obtain ⟨g1, g2, g3, g4, g5, g6, g7, g8, g9, g10, g11, g12⟩ := id hJ
  obtain ⟨hL, h430, -, h4, hlv⟩ := id g2
  obtain ⟨b, ln, w, hb, -, -, -, -, h44, -, -, h50, h51, -⟩ := hlv x hx
  have ha : gal NL 12 b = true := gal_al g1 hb
  have ha5 : gal NL 5 x = true := gal_al g1 hx
  have hs : 3 * b < 6 := by omega
  have hsb : 3 * b / 3 = b := by omega
  have hs' : 3 * b + 2 < 6 := by omega
  have hsb' : (3 * b + 2) / 3 = b := by omega
  have hall : decide (3 * b % 3 = 1) = false := decide_eq_false (by omega)
  have hsur : X5_surveyed (gal NL) N b 0 X = X5_surveyed_J15 (gal NL) N b (3 * b) X := by unfold X5_surveyed; rw [if_pos rfl]
  obtain ⟨Y, y1, y2, y3, hJY⟩ := surv_J (N := N) (by omega) hJ hs hsb
  have has : gal NL 14 (3 * b) = true := gal_al g1 hs
  have has' : gal NL 14 (3 * b + 2) = true := gal_al g1 hs'
  have hF12 : F ≤ 12 := g7.1
  obtain ⟨sh, sh1, sh4, h53, -⟩ := g6.2 b hb
  have kp : keeps X Y := keeps_sv y2
  have hxm : x ∈ lvs (X 44 0) b L := lvs_mem.mpr ⟨hx, h44⟩
  have hsv := svOK_of hJY hs y3 sh _ sh4 (by rw [hsb, kp 53 (by omega) (by omega)]; exact h53) rfl
  have hms : ∀ v, v < 32 → (mb (Y 15 (3 * b) x) v = true ↔ nc (2 * sh) (fun a => fit X F (2 * sh) (lvs (X 44 0) b L) false 99 a ∧ a x = v) (lvs (X 44 0) b L) a00 ≠ 0) := fun v hv => by
    have h1 := hsv.2.1 x (by rw [hsb, kp 44 (by omega) (by omega)]; exact hxm) v hv
    rw [hall, hsb, kp 44 (by omega) (by omega), fit_kp kp] at h1
    exact h1
  obtain ⟨m, hm, em⟩ := mask_n (P := 2 * sh) (by omega) hxm hms
  have eY51 : Y 5 x 1 = nI b := by rw [y2 5 x 1 (by omega), h51]
  have eplaces : X9_placesOf (gal NL) N x 0 X = some (nI m, Y) := by
    unfold X9_placesOf
    rw [h51, dr_nI ha (by omega), Option.bind_some, hsur, y1, bind2_some, dr_nI has (by omega), Option.bind_some, y2 5 x 0 (by omega), h50, rd_nI (by omega) (by omega), Option.bind_some, em]
  have eclass : X9_rests (gal NL) N (nI x) X = if bcE (nI m) = 1 then (bind2 (X5_surveyed_J15 (gal NL) N b (3 * b + 2) Y) fun r16 X17 => X9_rests_L65 (gal NL) N (fun p5 Y => X9_rests_J120 (gal NL) N p5 Y) N (nI x) (nI m) r16 0 12 0 X17) else some (0, 0, Y) := by
    unfold X9_rests
    rw [X9_leafOf_yes hL h4 hx, bind2_some, if_neg (zn_nn (by omega)), dr_nI ha5 (by omega), Option.bind_some, eplaces, bind2_some, bcE_eq, bind2_some]
    by_cases c : bcE (nI m) = 1
    · rw [if_pos c, if_pos c, eY51, dr_nI ha (by omega), Option.bind_some]
      rfl
    · rw [if_neg c, if_neg c]
  rw [eclass] at h
  rw [em] at hms
  by_cases c : bcE (nI m) = 1
  · obtain ⟨Y2, u1, u2, u3, hJ2⟩ := surv_J (N := N) (by omega) hJY hs' hsb'
    obtain ⟨-, -, -, h22, hfc⟩ := id hJ2.2.2.2.2.2.2.1
    obtain ⟨r0, r1, r2⟩ := rests_class (al := gal NL) (N := N) (m := nI m) (x := x) (by omega) hF12 (by omega) hs' has' h22 (fun f hf => by
      obtain ⟨k, a, o, b', -, -, -, -, -, -, -, -, -, w0, -⟩ := hfc f hf
      exact ⟨gal_al g1 hf, w0⟩)
    rw [if_pos c, u1, bind2_some, r1] at h
    cases h
    refine ⟨rfl, hF12, low_n hF12 (fun v h1 h2 => rsA_lt hF12 r2 v h1 h2), b, sh, m, hb, h44, sh1, sh4, h53, hm, hms, Or.inl ?_⟩
    rw [bcE_256 m hm] at c
    have := pop_8 m hm
    exact (zn_eql (k := 1) (by omega) (by decide)).mp c
  · rw [if_neg c] at h
    cases h
    exact ⟨rfl, hF12, ⟨0, Nat.two_pow_pos F, rfl⟩, b, sh, m, hb, h44, sh1, sh4, h53, hm, hms, Or.inr rfl⟩
theorem bst_rng (V : Nat → Nat) (n : Nat) : (bst V n).1 = -1 ∨ ∃ i, i < n ∧ (bst V n).1 = nI i := by
  induction n with
  | zero => exact Or.inl rfl
  | succ n ih =>
    unfold bst
    split
    · rcases ih with q | ⟨i, hi, q⟩
      · exact Or.inl q
      · exact Or.inr ⟨i, by omega, q⟩
    · exact Or.inr ⟨n, by omega, rfl⟩
theorem v_worth {NL : List (Nat × Nat)} {N L F D W K : Nat} {r : Int32} {X X1 : gM} (hN : 1000000 ≤ N) (hJ : JJ NL L F D W K X) (h : X9_worth (gal NL) N X = some (r, X1)) : r = -1 ∨ ∃ i, i < L ∧ r = nI i := by
  obtain ⟨f, hf⟩ := wmask hN hJ
  have hVM : ∀ i, i < L → wV X f i ≤ 256 := fun i hi => by
    obtain ⟨b, ln, w, hb, hln1, hln, hw1, hw, h44, h45, h46, -⟩ := hJ.2.1.2.2.2.2 i hi
    have e32 : ln * w ≤ 4 * 8 := Nat.mul_le_mul hln hw
    unfold wV
    rw [h45, h46, zn_tN (by omega), zn_tN (by omega)]
    exact Nat.mul_le_mul (Nat.le_trans (cntW_le _ _) e32) (fac_le (hf i).1)
  obtain ⟨Y, y1, y2, y3⟩ := worth_class hN hJ hf hVM
  rw [y1] at h
  cases h
  exact bst_rng _ _
