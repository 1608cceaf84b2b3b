/-! reading a line: what the reference loads -/
/-- the sum of a layer -/
def gS (y : Int32) (wv : Nat → Nat → Nat) (k : Nat) : Nat := (if bt y 0 = true then wv 0 k else 0) + (if bt y 1 = true then wv 1 k else 0) + (if bt y 2 = true then wv 2 k else 0)
theorem gS_le {y : Int32} {wv : Nat → Nat → Nat} {k : Nat} (h : ∀ s, s < 3 → wv s k ≤ 27) : gS y wv k ≤ 81 := by
  have h0 := h 0 (by omega)
  have h1 := h 1 (by omega)
  have h2 := h 2 (by omega)
  unfold gS
  split <;> split <;> split <;> omega
section
variable {al : Nat → Nat → Bool} {N : Nat}
theorem rm_L64 (hN : 1000 ≤ N) {p1 p2 y p4 : Int32} {c B k : Nat} {Z : gM} {wv : Nat → Nat → Nat} (hB : B < 320) (hk : k < 26) (hw : ∀ s, s < 3 → wv s k ≤ 27 ∧ Z 57 0 (26 * (320 * s + B) + k) = nI (wv s k)) {k115 : Int32 → Int32 → Int32 → Int32 → Int32 → Int32 → Int32 → Int32 → gM → Option (Int32 × gM)} :
    X10_reads_L64 al N k115 N p1 p2 y p4 (nI c) (nI B) (nI k) 0 0 Z = k115 p1 p2 y p4 (nI c) (nI B) (nI k) (nI (gS y wv k)) Z := by
  have st : ∀ f s a, s < 3 → X10_reads_L64 al N k115 (f + 1) p1 p2 y p4 (nI c) (nI B) (nI k) (nI a) (nI s) Z = X10_reads_L64 al N k115 f p1 p2 y p4 (nI c) (nI B) (nI k) (nI (a + (if bt y s = true then wv s k else 0))) (nI (s + 1)) Z := by
    intro f s a hs
    obtain ⟨q1, q2⟩ := hw s hs
    simp (disch := omega) only [X10_reads_L64, X10_reads_J106, b_tst1 (by omega : s < 32), q2, zn_add, zn_mul, zn_addl, zn_ladd, zn_mull, zn_lmul, zn_le, zn_lt, zn_eq, zn_lel, zn_ltl, zn_eql, zn_lle, zn_llt, zn_leq, zn_sub, zn_subl, zn_m1, gl_eq, bind2_some, bind3_some, Option.bind_some, bz_0, bz_1, ib_0, ib_1, ib_bz, rd_nI, rd_l, if_pos, if_neg, if_true, if_false, ite_true, ite_false, eq_self, j00, j10, j20, j30, k00, k01, k02, k03, i20, i30, km0, i10, i01, im0, im1, i0m, i1m]
    by_cases hb : bt y s = true
    · rw [if_pos hb, if_pos hb]
    · rw [if_neg hb, if_neg hb]
  obtain ⟨n, rfl⟩ : ∃ n, N = n + 4 := ⟨N - 4, by omega⟩
  refine (st (n + 3) 0 0 (by omega)).trans ?_
  have e1 : (0 + 1 : Nat) = 1 := rfl
  have e2 : (1 + 1 : Nat) = 2 := rfl
  rw [e1, st (n + 2) 1 _ (by omega), e2, st (n + 1) 2 _ (by omega)]
  simp (disch := omega) only [X10_reads_L64, zn_add, zn_mul, zn_addl, zn_ladd, zn_mull, zn_lmul, zn_le, zn_lt, zn_eq, zn_lel, zn_ltl, zn_eql, zn_lle, zn_llt, zn_leq, zn_sub, zn_subl, zn_m1, gl_eq, bind2_some, bind3_some, Option.bind_some, bz_0, bz_1, ib_0, ib_1, ib_bz, rd_nI, rd_l, if_pos, if_neg, if_true, if_false, ite_true, ite_false, eq_self, j00, j10, j20, j30, k00, k01, k02, k03, i20, i30, km0, i10, i01, im0, im1, i0m, i1m]
  unfold gS
  rw [Nat.zero_add]
theorem rm_L51 (hN : 1000 ≤ N) {p1 p2 y p4 : Int32} {c B : Nat} {Y : gM} {wv : Nat → Nat → Nat} (hB : B < 320) (hc : c < 8) (hw : ∀ s k, s < 3 → k < 26 → wv s k ≤ 27 ∧ Y 57 0 (26 * (320 * s + B) + k) = nI (wv s k)) (h74 : Y 74 0 c = 0) {k156 : Int32 → Int32 → Int32 → Int32 → Int32 → gM → Option (Int32 × gM)} (Q : Option (Int32 × gM) → Prop)
    (hQ : ∀ Z, (∀ k p j, ¬ ((k = 73 ∧ p = 0 ∧ 26 * c ≤ j ∧ j < 26 * c + 26) ∨ (k = 74 ∧ p = 0 ∧ j = c)) → Z k p j = Y k p j) → (∀ k, k < 26 → Z 73 0 (26 * c + k) = nI (gS y wv k)) → Z 74 0 c = nI (cntP (fun k => decide (0 < gS y wv k)) 26) → Q (k156 p1 p2 y p4 (nI c) Z)) :
    Q (X10_reads_L51 al N k156 N p1 p2 y p4 (nI c) (nI B) 0 Y) := by
  refine m_up0 26 (fun fu i (Z : gM) => X10_reads_L51 al N k156 fu p1 p2 y p4 (nI c) (nI B) i Z) (fun i Z => (∀ k p j, ¬ ((k = 73 ∧ p = 0 ∧ 26 * c ≤ j ∧ j < 26 * c + 26) ∨ (k = 74 ∧ p = 0 ∧ j = c)) → Z k p j = Y k p j) ∧ (∀ k, k < i → Z 73 0 (26 * c + k) = nI (gS y wv k)) ∧ Z 74 0 c = nI (cntP (fun k => decide (0 < gS y wv k)) i)) Q Y (by omega) ?_ ?_ ⟨fun _ _ _ _ => rfl, fun k hk => absurd hk (Nat.not_lt_zero k), h74⟩
  · rintro k fu Z hk ⟨h1, h2, h3⟩ ih
    have hle := cntP_le (fun k => decide (0 < gS y wv k)) k
    have hgle := gS_le (y := y) (k := k) (fun s hs => (hw s k hs hk).1)
    simp (disch := omega) only [X10_reads_L51, zn_add, zn_mul, zn_addl, zn_ladd, zn_mull, zn_lmul, zn_le, zn_lt, zn_eq, zn_lel, zn_ltl, zn_eql, zn_lle, zn_llt, zn_leq, zn_sub, zn_subl, zn_m1, gl_eq, bind2_some, bind3_some, Option.bind_some, bz_0, bz_1, ib_0, ib_1, ib_bz, rd_nI, rd_l, if_pos, if_neg, if_true, if_false, ite_true, ite_false, eq_self, j00, j10, j20, j30, k00, k01, k02, k03, i20, i30, km0, i10, i01, im0, im1, i0m, i1m, rm_L64 hN hB hk (fun s hs => ⟨(hw s k hs hk).1, (h1 57 0 _ (by omega)).trans (hw s k hs hk).2⟩), X10_reads_J115, X10_reads_J148]
    have e74 : (mset Z 73 0 (26 * c + k) (nI (gS y wv k))) 74 0 c = nI (cntP (fun k => decide (0 < gS y wv k)) k) := by rw [mset_at, if_neg (by omega), h3]
    rw [e74]
    have hfin : ∀ v, v = nI (cntP (fun k => decide (0 < gS y wv k)) (k + 1)) → Q (X10_reads_L51 al N k156 fu p1 p2 y p4 (nI c) (nI B) (nI (k + 1)) (mset (mset Z 73 0 (26 * c + k) (nI (gS y wv k))) 74 0 c v)) := by
      intro v hv
      refine ih _ ⟨fun k' p j hk' => ?_, fun k' hk' => ?_, ?_⟩
      · simp only [mset_at]
        rw [if_neg (by omega), if_neg (by omega), h1 k' p j hk']
      · rw [mset_at, if_neg (by omega), mset_at]
        by_cases hkk : k' = k
        · subst hkk; rw [if_pos ⟨rfl, rfl, rfl⟩]
        · rw [if_neg (by omega)]; exact h2 k' (by omega)
      · rw [mset_same, hv]
    by_cases hz : gS y wv k ≤ 0
    · rw [if_pos hz]
      refine hfin _ ?_
      rw [Int32.add_zero, cntP_f (P := fun k => decide (0 < gS y wv k)) (decide_eq_false (by omega))]
    · rw [if_neg hz]
      refine hfin _ ?_
      rw [zn_addl, cntP_t (P := fun k => decide (0 < gS y wv k)) (decide_eq_true (by omega))]
  · rintro fu Z ⟨h1, h2, h3⟩
    simp (disch := omega) only [X10_reads_L51, zn_add, zn_mul, zn_addl, zn_ladd, zn_mull, zn_lmul, zn_le, zn_lt, zn_eq, zn_lel, zn_ltl, zn_eql, zn_lle, zn_llt, zn_leq, zn_sub, zn_subl, zn_m1, gl_eq, bind2_some, bind3_some, Option.bind_some, bz_0, bz_1, ib_0, ib_1, ib_bz, rd_nI, rd_l, if_pos, if_neg, if_true, if_false, ite_true, ite_false, eq_self, j00, j10, j20, j30, k00, k01, k02, k03, i20, i30, km0, i10, i01, im0, im1, i0m, i1m]
    exact hQ Z h1 h2 h3
/-- the line: weights by cell -/
def lnW (X : gM) (i l : Nat) : Nat → Nat → Nat → Nat := fun c s k => (X 57 0 (26 * (320 * s + (32 * i + 8 * l + c)) + k)).toNatClampNeg
def lnG (X : gM) (i l : Nat) (y : Int32) : Nat → Nat → Nat := fun c k => if c < 8 ∧ k < 26 then gS y (lnW X i l c) k else 0
def lnH (X : gM) (i l m : Nat) (y : Int32) : Nat → Nat → Nat := fun c k => if c < m then lnG X i l y c k else 0
theorem lnH_eq {X : gM} {i l m : Nat} {y : Int32} {c k : Nat} (hc : c < m) : lnH X i l m y c k = lnG X i l y c k := if_pos hc
def lnN (X : gM) (i l : Nat) (y : Int32) : Nat → Nat := fun c => cntP (fun k => decide (0 < lnG X i l y c k)) 26
def lnB (X : gM) (i l : Nat) : Nat → Bool := fun c => decide (mU (X 56 0) (X 54 0) (X 55 0) (32 * i + 8 * l + c) = 0)
def lnL (X : gM) : Nat → Nat := fun w => (X 59 0 w).toNatClampNeg
def lnD (X : gM) : Nat → Nat → Nat := fun w k => (X 60 0 (8 * w + k)).toNatClampNeg
theorem lnG_eq {X : gM} {i l : Nat} {y : Int32} {c k : Nat} (hc : c < 8) (hk : k < 26) : lnG X i l y c k = gS y (lnW X i l c) k := if_pos ⟨hc, hk⟩
theorem lnN_eq {X : gM} {i l : Nat} {y : Int32} {c : Nat} (hc : c < 8) : lnN X i l y c = cntP (fun k => decide (0 < gS y (lnW X i l c) k)) 26 := by
  unfold lnN
  refine cntP_cg 26 (fun k hk => ?_)
  rw [lnG_eq hc hk]
/-- every cell's weights are small -/
def lnO (X : gM) (i l m : Nat) : Prop := ∀ c s k, c < m → s < 3 → k < 26 → lnW X i l c s k ≤ 27 ∧ X 57 0 (26 * (320 * s + (32 * i + 8 * l + c)) + k) = nI (lnW X i l c s k)
theorem lnG_le {X : gM} {i l m : Nat} {y : Int32} (h : lnO X i l m) (hm : m ≤ 8) : ∀ c k, c < m → lnG X i l y c k ≤ 81 := by
  intro c k hc
  unfold lnG
  split
  · next q => exact gS_le (fun s hs => (h c s k hc hs q.2).1)
  · omega
theorem X10_reads_eq (hN : 1000 ≤ N) {X : gM} {i l m W L ln : Nat} {y : Int32} (g2 : jL L X) (g9 : jW W X) (hi : i < L) (hl : l < ln) (hln : ln ≤ 4) (h46 : X 46 0 i = nI m) (hm1 : 1 ≤ m) (hm : m ≤ 8) (hO : lnO X i l m) :
    ∃ Z, X10_reads al N (nI i) (nI l) y X = some (0, Z) ∧ (∀ k p j, ¬ (k = 68 ∨ k = 70 ∨ k = 71 ∨ k = 72 ∨ k = 73 ∨ k = 74 ∨ (k = 43 ∧ (j = 29 ∨ j = 30))) → Z k p j = X k p j) ∧
      ldM m W (lnB X i l) (lnH X i l m y) (lnN X i l y) (lnL X) (lnD X) Z ∧
      rdR m 0 (Z 68 0) (Z 70 0) (rwM Z) (rdT m W (lnB X i l) (lnH X i l m y) (lnN X i l y) (lnL X) (lnD X) m) := by
  obtain ⟨hW, w1, w2, h25, hw⟩ := g9
  have hL := g2.1
  have key : ∀ Q : Option (Int32 × gM) → Prop, (∀ Z, (∀ k p j, ¬ (k = 72 ∨ k = 73 ∨ k = 74 ∨ (k = 43 ∧ (j = 29 ∨ j = 30))) → Z k p j = X k p j) → (∀ c, c < m → Z 72 0 c = (if lnB X i l c = true then 1 else 0) ∧ (∀ k, k < 26 → Z 73 0 (26 * c + k) = nI (lnG X i l y c k)) ∧ Z 74 0 c = nI (lnN X i l y c)) → Q (X10_reads_J162 al N (nI m) Z)) → Q (X10_reads al N (nI i) (nI l) y X) := by
    intro Q hQ
    unfold X10_reads
    rw [rd_nI (by omega) (by omega), Option.bind_some, gl_eq, h46]
    refine m_up0 m (fun fu c (Z : gM) => X10_reads_L11 al N (fun p4 Y => X10_reads_J162 al N p4 Y) fu (nI i) (nI l) y (nI m) c Z)
      (fun i' Z => (∀ k p j, ¬ (k = 72 ∨ k = 73 ∨ k = 74 ∨ (k = 43 ∧ (j = 29 ∨ j = 30))) → Z k p j = X k p j) ∧ ∀ c, c < i' → Z 72 0 c = (if lnB X i l c = true then 1 else 0) ∧ (∀ k, k < 26 → Z 73 0 (26 * c + k) = nI (lnG X i l y c k)) ∧ Z 74 0 c = nI (lnN X i l y c)) Q X (by omega) ?_ ?_ ⟨fun _ _ _ _ => rfl, fun c hc => absurd hc (Nat.not_lt_zero c)⟩
    · rintro c fu Z hc ⟨h1, h2⟩ ih
      obtain ⟨Z1, z1, z2⟩ := X10_isBlankCell_eq (al := al) (N := N) (b := 32 * i + 8 * l + c) (X := Z) hN (by omega)
      have e56 : Z 56 0 = X 56 0 := funext fun j => h1 56 0 j (by omega)
      have e54 : Z 54 0 = X 54 0 := funext fun j => h1 54 0 j (by omega)
      have e55 : Z 55 0 = X 55 0 := funext fun j => h1 55 0 j (by omega)
      rw [e56, e54, e55] at z1
      have hbl : (if mU (X 56 0) (X 54 0) (X 55 0) (32 * i + 8 * l + c) = 0 then (1 : Int32) else 0) = if lnB X i l c = true then 1 else 0 := by
        unfold lnB
        by_cases q : mU (X 56 0) (X 54 0) (X 55 0) (32 * i + 8 * l + c) = 0
        · rw [if_pos q, decide_eq_true q]; rfl
        · rw [if_neg q, decide_eq_false q]; rfl
      rw [hbl] at z1
      simp (disch := omega) only [X10_reads_L11, X10_cellAt, z1, zn_add, zn_mul, zn_addl, zn_ladd, zn_mull, zn_lmul, zn_le, zn_lt, zn_eq, zn_lel, zn_ltl, zn_eql, zn_lle, zn_llt, zn_leq, zn_sub, zn_subl, zn_m1, gl_eq, bind2_some, bind3_some, Option.bind_some, bz_0, bz_1, ib_0, ib_1, ib_bz, rd_nI, rd_l, if_pos, if_neg, if_true, if_false, ite_true, ite_false, eq_self, j00, j10, j20, j30, k00, k01, k02, k03, i20, i30, km0, i10, i01, im0, im1, i0m, i1m]
      generalize hZ2 : mset (mset Z1 72 0 c (if lnB X i l c = true then 1 else 0)) 74 0 c 0 = Z2
      have f2 : ∀ k p j, ¬ ((k = 72 ∧ p = 0 ∧ j = c) ∨ (k = 74 ∧ p = 0 ∧ j = c) ∨ (k = 43 ∧ (j = 29 ∨ j = 30))) → Z2 k p j = Z k p j := fun k p j hk => by
        rw [← hZ2]
        simp only [mset_at]
        rw [if_neg (by omega), if_neg (by omega), z2 k p j (by omega)]
      refine rm_L51 hN (by omega) (by omega) (wv := lnW X i l c) (fun s k hs hk => ⟨(hO c s k hc hs hk).1, ?_⟩) (by rw [← hZ2, mset_same]) Q (fun Z3 t1 t2 t3 => ?_)
      · rw [f2 57 0 _ (by omega), h1 57 0 _ (by omega)]
        exact (hO c s k hc hs hk).2
      · unfold X10_reads_J156
        simp only [gl_eq, zn_addl]
        refine ih Z3 ⟨fun k p j hk => ?_, fun c' hc' => ?_⟩
        · rw [t1 k p j (by omega), f2 k p j (by omega), h1 k p j hk]
        · by_cases hcc : c' = c
          · subst hcc
            refine ⟨?_, fun k hk => ?_, ?_⟩
            · rw [t1 72 0 c' (by omega), ← hZ2]; simp [mset_at]
            · rw [t2 k hk, lnG_eq (by omega) hk]
            · rw [t3, lnN_eq (by omega)]
          · obtain ⟨r1, r2, r3⟩ := h2 c' (by omega)
            refine ⟨?_, fun k hk => ?_, ?_⟩
            · rw [t1 72 0 c' (by omega), f2 72 0 c' (by omega)]; exact r1
            · rw [t1 73 0 _ (by omega), f2 73 0 _ (by omega)]; exact r2 k hk
            · rw [t1 74 0 c' (by omega), f2 74 0 c' (by omega)]; exact r3
    · rintro fu Z ⟨h1, h2⟩
      simp (disch := omega) only [X10_reads_L11, zn_add, zn_mul, zn_addl, zn_ladd, zn_mull, zn_lmul, zn_le, zn_lt, zn_eq, zn_lel, zn_ltl, zn_eql, zn_lle, zn_llt, zn_leq, zn_sub, zn_subl, zn_m1, gl_eq, bind2_some, bind3_some, Option.bind_some, bz_0, bz_1, ib_0, ib_1, ib_bz, rd_nI, rd_l, if_pos, if_neg, if_true, if_false, ite_true, ite_false, eq_self, j00, j10, j20, j30, k00, k01, k02, k03, i20, i30, km0, i10, i01, im0, im1, i0m, i1m]
      exact hQ Z h1 h2
  refine key (fun o => ∃ Z, o = some (0, Z) ∧ (∀ k p j, ¬ (k = 68 ∨ k = 70 ∨ k = 71 ∨ k = 72 ∨ k = 73 ∨ k = 74 ∨ (k = 43 ∧ (j = 29 ∨ j = 30))) → Z k p j = X k p j) ∧
      ldM m W (lnB X i l) (lnH X i l m y) (lnN X i l y) (lnL X) (lnD X) Z ∧
      rdR m 0 (Z 68 0) (Z 70 0) (rwM Z) (rdT m W (lnB X i l) (lnH X i l m y) (lnN X i l y) (lnL X) (lnD X) m)) (fun Z h1 h2 => ?_)
  have hld : ldM m W (lnB X i l) (lnH X i l m y) (lnN X i l y) (lnL X) (lnD X) Z := by
    refine ⟨(h1 43 0 17 (by omega)).trans w1, hW, hm, fun c hc => ?_, fun c k => ?_, fun w hwW => ?_⟩
    · obtain ⟨r1, r2, r3⟩ := h2 c hc
      refine ⟨r1, fun k hk => ?_, r3, cntP_le _ _⟩
      rw [lnH_eq hc]; exact r2 k hk
    · by_cases hc : c < m
      · rw [lnH_eq hc]; exact lnG_le hO hm c k hc
      · unfold lnH; rw [if_neg hc]; omega
    · obtain ⟨n, n1, n2, q1, q2, q3, q4⟩ := hw w hwW
      have e : lnL X w = n := by unfold lnL; rw [q1, zn_tN (by omega)]
      rw [e]
      refine ⟨n1, n2, (h1 59 0 w (by omega)).trans q1, fun k hk => ?_⟩
      obtain ⟨u, u1, u2, u3⟩ := q4 k hk
      have e2 : lnD X w k = u := by unfold lnD; rw [u2, zn_tN (by omega)]
      rw [e2]
      exact ⟨u1, (h1 60 0 _ (by omega)).trans u2⟩
  obtain ⟨Z', z1, z2, z3⟩ := rm_main (al := al) hN hld hm1
  exact ⟨Z', z1, fun k p j hk => by rw [z2 k p j (by omega), h1 k p j (by omega)], ldM_cg (fun k p j hk => z2 k p j (by omega)) hld, z3⟩
end
