/-! guards of both sides -/
abbrev ir (p : Int32) (n : Nat) : Prop := 0 ≤ p ∧ p < nI n
theorem le_pred {p : Int32} {n : Nat} (h : n < 2147483648) : p ≤ nI n - 1 ↔ p < nI n := by
  rw [Int32.le_iff_toInt_le, Int32.lt_iff_toInt_lt, zn_tI h]
  by_cases h0 : n = 0
  · subst h0
    rw [zn_0s]
    have : (-1 : Int32).toInt = -1 := rfl
    omega
  · rw [zn_subl (by omega : 1 ≤ n), zn_tI (by omega)]
    omega
theorem ir_nI {i n : Nat} (hn : n < 2147483648) (h : i < n) : ir (nI i) n := ⟨not_lt32.mp (zn_nn (by omega)), (zn_lt (by omega) hn).mpr h⟩
theorem ir_ex {p : Int32} {n : Nat} (hn : n < 2147483648) (h : ir p n) : ∃ i, i < n ∧ p = nI i := zn_of hn h.1 h.2
theorem ir_or (p : Int32) {n : Nat} (hn : n < 2147483648) : (∃ i, i < n ∧ p = nI i) ∨ ¬ ir p n := by
  by_cases h : ir p n
  · exact Or.inl (ir_ex hn h)
  · exact Or.inr h
theorem X10_in_eq (al : Nat → Nat → Bool) (N : Nat) (p a b : Int32) (X : gM) : X10_in al N p a b X = some (if a ≤ p ∧ p ≤ b then 1 else 0, X) := by
  unfold X10_in X10_in_J14 X10_in_J15
  by_cases h1 : p < a
  · rw [if_pos h1, if_neg (fun h => Int32.not_lt.mpr h.1 h1)]; rfl
  · by_cases h2 : b < p
    · rw [if_neg h1, if_pos h2, if_neg (fun h => Int32.not_lt.mpr h.2 h2)]; rfl
    · rw [if_neg h1, if_neg h2, if_pos ⟨Int32.not_lt.mp h1, Int32.not_lt.mp h2⟩]; rfl
theorem X9_isWithin_eq (al : Nat → Nat → Bool) (N : Nat) (p a b : Int32) (X : gM) : X9_isWithin al N p a b X = some (if a ≤ p ∧ p ≤ b then 1 else 0, X) := by
  unfold X9_isWithin X9_isWithin_J14 X9_isWithin_J15
  by_cases h1 : p < a
  · rw [if_pos h1, if_neg (fun h => Int32.not_lt.mpr h.1 h1)]; rfl
  · by_cases h2 : b < p
    · rw [if_neg h1, if_pos h2, if_neg (fun h => Int32.not_lt.mpr h.2 h2)]; rfl
    · rw [if_neg h1, if_neg h2, if_pos ⟨Int32.not_lt.mp h1, Int32.not_lt.mp h2⟩]; rfl
theorem lt_succ32 (p : Int32) (k : Nat) (h : k < 2147483647) : p ≤ (no_index (OfNat.ofNat k) : Int32) ↔ p < nI (k + 1) := by
  rw [Int32.le_iff_toInt_le, Int32.lt_iff_toInt_lt, lit_nI, zn_tI (by omega), zn_tI (by omega)]
  omega
theorem X9_isLetter_eq (al : Nat → Nat → Bool) (N : Nat) (p : Int32) (X : gM) : X9_isLetter al N p X = some (if 0 ≤ p ∧ p ≤ 25 then 1 else 0, X) := by
  unfold X9_isLetter X9_isLetter_J14 X9_isLetter_J15
  have e : p ≤ 25 ↔ ¬ (26 : Int32) ≤ p := by rw [not_le32]; exact lt_succ32 p 25 (by omega)
  by_cases h1 : p < 0
  · rw [if_pos h1, if_neg (fun h => Int32.not_lt.mpr h.1 h1)]; rfl
  · by_cases h2 : 26 ≤ p
    · rw [if_neg h1, if_pos h2, if_neg (fun h => e.mp h.2 h2)]; rfl
    · rw [if_neg h1, if_neg h2, if_pos ⟨Int32.not_lt.mp h1, e.mpr h2⟩]; rfl
theorem X9_isLayer_eq (al : Nat → Nat → Bool) (N : Nat) (p : Int32) (X : gM) : X9_isLayer al N p X = some (if 0 ≤ p ∧ p ≤ 7 then 1 else 0, X) := by
  unfold X9_isLayer X9_isLayer_J14 X9_isLayer_J15
  by_cases h1 : p < 0
  · rw [if_pos h1, if_neg (fun h => Int32.not_lt.mpr h.1 h1)]; rfl
  · by_cases h2 : 7 < p
    · rw [if_neg h1, if_pos h2, if_neg (fun h => Int32.not_lt.mpr h.2 h2)]; rfl
    · rw [if_neg h1, if_neg h2, if_pos ⟨Int32.not_lt.mp h1, Int32.not_lt.mp h2⟩]; rfl
theorem X10_isLeaf_eq (al : Nat → Nat → Bool) (N : Nat) {L : Nat} (p : Int32) {X : gM} (hL : X 43 0 0 = nI L) (h : L < 2147483648) : X10_isLeaf al N p X = some (if ir p L then 1 else 0, X) := by
  unfold X10_isLeaf
  rw [X10_in_eq, bind2_some, ib_bz, Option.bind_some, hL]
  have e : (0 ≤ p ∧ p ≤ nI L - 1) ↔ ir p L := by rw [le_pred h]
  by_cases hc : ir p L
  · rw [if_pos hc, if_pos (e.mpr hc)]
  · rw [if_neg hc, if_neg (fun q => hc (e.mp q))]
/-- what is kept of the leaves -/
def jL (L : Nat) (X : gM) : Prop := L ≤ 10 ∧ X 43 0 0 = nI L ∧ X 0 0 2 = nI L ∧ (∀ j, X 4 0 j = if j < L then nI j else -1) ∧
  ∀ i, i < L → ∃ b ln w : Nat, b < 2 ∧ 1 ≤ ln ∧ ln ≤ 4 ∧ 1 ≤ w ∧ w ≤ 8 ∧ X 44 0 i = nI b ∧ X 45 0 i = nI ln ∧ X 46 0 i = nI w ∧
    X 5 i 0 = nI i ∧ X 5 i 1 = nI b ∧ X 5 i 2 = nI ln ∧ X 5 i 3 = nI w ∧ (∀ j, X 6 i j = if j < ln * w then nI (32 * i + j) else -1) ∧
    (X 47 0 i = -1 ∨ X 47 0 i = 0 ∨ X 47 0 i = 1) ∧ X 5 i 5 = X 47 0 i ∧ (∃ v, v ≤ 255 ∧ X 48 0 i = nI v) ∧ X 5 i 6 = X 48 0 i ∧
    X 5 i 7 = X 49 0 (3 * i) ∧ X 5 i 8 = X 49 0 (3 * i + 1) ∧ X 5 i 9 = X 49 0 (3 * i + 2) ∧ X 5 i 10 = X 50 0 i ∧
    (∃ v, v ≤ 4 ∧ X 51 0 i = nI v) ∧ X 5 i 11 = X 51 0 i ∧ X 5 i 12 = X 52 0 i
theorem X9_leafOf_no {al : Nat → Nat → Bool} {N L : Nat} {p : Int32} {X : gM} (hL : L ≤ 10) (h4 : ∀ j, X 4 0 j = if j < L then nI j else -1) (hp : ¬ ir p L) : X9_leafOf al N p X = some (-1, X) := by
  unfold X9_leafOf X9_leafOf_J22 X9_leafOf_J23
  by_cases h1 : p < 0
  · rw [if_pos h1]
  · rw [if_neg h1]
    by_cases h2 : 10 ≤ p
    · rw [if_pos h2]
    · rw [if_neg h2]
      obtain ⟨i, hi, rfl⟩ := zn_of (p := p) (n := 10) (by omega) (Int32.not_lt.mp h1) (Int32.not_le.mp h2)
      rw [rd_nI hi (by omega), Option.bind_some, h4, if_neg]
      intro hL
      exact hp (ir_nI (by omega) hL)
theorem X9_leafOf_yes {al : Nat → Nat → Bool} {N L i : Nat} {X : gM} (hL : L ≤ 10) (h4 : ∀ j, X 4 0 j = if j < L then nI j else -1) (hi : i < L) : X9_leafOf al N (nI i) X = some (nI i, X) := by
  unfold X9_leafOf X9_leafOf_J22 X9_leafOf_J23
  simp (disch := omega) only [zn_add, zn_mul, zn_addl, zn_ladd, zn_mull, zn_lmul, zn_le, zn_lt, zn_eq, zn_lel, zn_ltl, zn_eql, zn_lle, zn_llt, zn_leq, zn_sub, zn_subl, zn_m1, gl_eq, bind2_some, bind3_some, Option.bind_some, bz_0, bz_1, ib_0, ib_1, ib_bz, rd_nI, rd_l, if_pos, if_neg, if_true, if_false, ite_true, ite_false, eq_self, j00, j10, j20, j30, k00, k01, k02, k03, i20, i30, km0, i10, i01, im0, im1, i0m, i1m, h4]
theorem m1_neg : (-1 : Int32) < 0 := by decide
theorem X2_hasLine_eq {al : Nat → Nat → Bool} {N i ln : Nat} {q : Int32} {X : gM} (h : X 5 i 2 = nI ln) : X2_hasLine al N i q X = some (if ir q ln then 1 else 0, X) := by
  unfold X2_hasLine X2_hasLine_J16 X2_hasLine_J17
  rw [h]
  by_cases h1 : q < 0
  · rw [if_pos h1, if_neg (fun h => Int32.not_lt.mpr h.1 h1)]; rfl
  · by_cases h2 : nI ln ≤ q
    · rw [if_neg h1, if_pos h2, if_neg (fun h => Int32.not_le.mpr h.2 h2)]; rfl
    · rw [if_neg h1, if_neg h2, if_pos ⟨Int32.not_lt.mp h1, Int32.not_le.mp h2⟩]; rfl
theorem X2_cellAt_no {al : Nat → Nat → Bool} {N i ln w : Nat} {q p : Int32} {X : gM} (h : X 5 i 2 = nI ln) (h3 : X 5 i 3 = nI w) (hq : ¬ (ir q ln ∧ ir p w)) : X2_cellAt al N i q p X = some (-1, X) := by
  unfold X2_cellAt X2_cellAt_J20
  rw [X2_hasLine_eq h, bind2_some, ib_0]
  by_cases h1 : ir q ln
  · rw [if_pos h1]
    by_cases h2 : p < 0
    · rw [if_pos h2]
    · rw [if_neg h2, h3, if_neg (fun h4 => hq ⟨h1, Int32.not_lt.mp h2, h4⟩)]
  · rw [if_neg h1]
theorem X2_cellAt_yes {al : Nat → Nat → Bool} {N i ln w l c : Nat} {X : gM} (h : X 5 i 2 = nI ln) (h3 : X 5 i 3 = nI w) (hw : w ≤ 8) (hln : ln ≤ 4) (h6 : ∀ j, X 6 i j = if j < ln * w then nI (32 * i + j) else -1) (hl : l < ln) (hc : c < w) : X2_cellAt al N i (nI l) (nI c) X = some (nI (32 * i + (l * w + c)), X) := by
  unfold X2_cellAt X2_cellAt_J20
  have e1 : l * w ≤ (ln - 1) * w := Nat.mul_le_mul_right w (by omega)
  have e2 : (ln - 1) * w + w = ln * w := by
    have := Nat.succ_mul (ln - 1) w
    rw [← this]
    congr 1
    omega
  have e3 : ln * w ≤ 4 * 8 := Nat.mul_le_mul hln hw
  rw [X2_hasLine_eq h, bind2_some, ib_0, if_pos (ir_nI (by omega) hl), h3]
  simp (disch := omega) only [zn_add, zn_mul, zn_addl, zn_ladd, zn_mull, zn_lmul, zn_le, zn_lt, zn_eq, zn_lel, zn_ltl, zn_eql, zn_lle, zn_llt, zn_leq, zn_sub, zn_subl, zn_m1, gl_eq, bind2_some, bind3_some, Option.bind_some, bz_0, bz_1, ib_0, ib_1, ib_bz, rd_nI, rd_l, if_pos, if_neg, if_true, if_false, ite_true, ite_false, eq_self, j00, j10, j20, j30, k00, k01, k02, k03, i20, i30, km0, i10, i01, im0, im1, i0m, i1m, h6]
theorem X9_cellOf_no1 {al : Nat → Nat → Bool} {N L : Nat} {p q c : Int32} {X : gM} (hL : L ≤ 10) (h4 : ∀ j, X 4 0 j = if j < L then nI j else -1) (hp : ¬ ir p L) : X9_cellOf al N p q c X = some (-1, X) := by
  unfold X9_cellOf X9_cellOf_J23
  rw [X9_leafOf_no hL h4 hp, bind2_some, if_pos m1_neg]
theorem X9_cellOf_no2 {al : Nat → Nat → Bool} {N L i ln w : Nat} {q c : Int32} {X : gM} (hL : L ≤ 10) (h4 : ∀ j, X 4 0 j = if j < L then nI j else -1) (hi : i < L) (ha : al 5 i = true) (h : X 5 i 2 = nI ln) (h3 : X 5 i 3 = nI w) (hq : ¬ (ir q ln ∧ ir c w)) : X9_cellOf al N (nI i) q c X = some (-1, X) := by
  unfold X9_cellOf X9_cellOf_J23
  rw [X9_leafOf_yes hL h4 hi, bind2_some, if_neg (zn_nn (by omega)), dr_nI ha (by omega), Option.bind_some, X2_cellAt_no h h3 hq, bind2_some]
theorem X9_cellOf_yes {al : Nat → Nat → Bool} {N L i ln w l c : Nat} {X : gM} (hL : L ≤ 10) (h4 : ∀ j, X 4 0 j = if j < L then nI j else -1) (hi : i < L) (ha : al 5 i = true) (h : X 5 i 2 = nI ln) (h3 : X 5 i 3 = nI w) (hw : w ≤ 8) (hln : ln ≤ 4) (h6 : ∀ j, X 6 i j = if j < ln * w then nI (32 * i + j) else -1) (hl : l < ln) (hc : c < w) : X9_cellOf al N (nI i) (nI l) (nI c) X = some (nI (32 * i + (l * w + c)), X) := by
  unfold X9_cellOf X9_cellOf_J23
  rw [X9_leafOf_yes hL h4 hi, bind2_some, if_neg (zn_nn (by omega)), dr_nI ha (by omega), Option.bind_some, X2_cellAt_yes h h3 hw hln h6 hl hc, bind2_some]
theorem X10_isCell_no1 {al : Nat → Nat → Bool} {N L : Nat} {p q c : Int32} {X : gM} (hL : X 43 0 0 = nI L) (h : L < 2147483648) (hp : ¬ ir p L) : X10_isCell al N p q c X = some (0, X) := by
  unfold X10_isCell X10_isCell_J44 X10_isCell_J45
  rw [X10_isLeaf_eq al N p hL h, bind2_some, ib_0, if_neg hp]; rfl
theorem X10_isCell_eq {al : Nat → Nat → Bool} {N L i ln w : Nat} {q c : Int32} {X : gM} (hL : X 43 0 0 = nI L) (h : L ≤ 10) (hi : i < L) (h45 : X 45 0 i = nI ln) (h46 : X 46 0 i = nI w) (hln : ln ≤ 4) (hw : w ≤ 8) : X10_isCell al N (nI i) q c X = some (if ir q ln ∧ ir c w then 1 else 0, X) := by
  unfold X10_isCell X10_isCell_J44 X10_isCell_J45
  rw [X10_isLeaf_eq al N _ hL (by omega), bind2_some, ib_0, if_pos (ir_nI (by omega) hi), rd_nI (by omega) (by omega), Option.bind_some]
  simp (disch := omega) only [X10_in_eq, bind2_some, ib_0, h45, le_pred]
  by_cases h1 : ir q ln
  · rw [if_pos h1, Option.bind_some]
    simp (disch := omega) only [bind2_some, ib_0, h46, le_pred]
    by_cases h2 : ir c w
    · rw [if_pos h2, if_pos ⟨h1, h2⟩]; rfl
    · rw [if_neg h2, if_neg (fun q => h2 q.2)]; rfl
  · rw [if_neg h1, if_neg (fun q => h1 q.1)]; rfl
/-- the leaves of a book -/
def lvs (x : Nat → Int32) (b : Nat) : Nat → List Nat
  | 0 => []
  | n + 1 => lvs x b n ++ (if x n = nI b then [n] else [])
theorem lvs_len_le (x : Nat → Int32) (b n : Nat) : (lvs x b n).length ≤ n := by
  induction n with
  | zero => simp [lvs]
  | succ n ih =>
    unfold lvs
    rw [List.length_append]
    split <;> simp <;> omega
theorem X10_leavesOf_eq {al : Nat → Nat → Bool} {N L b : Nat} {X : gM} (hL : X 43 0 0 = nI L) (h : L ≤ 10) (hN : 1000 ≤ N) : X10_leavesOf al N (nI b) X = some (nI (lvs (X 44 0) b L).length, X) := by
  unfold X10_leavesOf
  refine m_up0 L (fun f i (s : Int32 × gM) => X10_leavesOf_L4 al N (fun p2 Y => X10_leavesOf_J36 al N p2 Y) f (nI b) s.1 i s.2) (fun i s => s = (nI (lvs (X 44 0) b i).length, X)) (fun o => o = some (nI (lvs (X 44 0) b L).length, X)) (nI 0, X) (by omega) ?_ ?_ rfl
  · rintro i f s hi rfl ih
    have := ih _ rfl
    simp only [lvs] at this
    by_cases hb : X 44 0 i = nI b
    · simp (disch := omega) only [X10_leavesOf_L4, X10_leavesOf_J28, hL, hb, zn_add, zn_mul, zn_addl, zn_ladd, zn_mull, zn_lmul, zn_le, zn_lt, zn_eq, zn_lel, zn_ltl, zn_eql, zn_lle, zn_llt, zn_leq, zn_sub, zn_subl, zn_m1, gl_eq, bind2_some, bind3_some, Option.bind_some, bz_0, bz_1, ib_0, ib_1, ib_bz, rd_nI, rd_l, if_pos, if_neg, if_true, if_false, ite_true, ite_false, eq_self, j00, j10, j20, j30, k00, k01, k02, k03, i20, i30, km0, i10, i01, im0, im1, i0m, i1m]
      simpa [hb] using this
    · simp (disch := omega) only [X10_leavesOf_L4, X10_leavesOf_J28, hL, if_neg hb, zn_add, zn_mul, zn_addl, zn_ladd, zn_mull, zn_lmul, zn_le, zn_lt, zn_eq, zn_lel, zn_ltl, zn_eql, zn_lle, zn_llt, zn_leq, zn_sub, zn_subl, zn_m1, gl_eq, bind2_some, bind3_some, Option.bind_some, bz_0, bz_1, ib_0, ib_1, ib_bz, rd_nI, rd_l, if_pos, if_neg, if_true, if_false, ite_true, ite_false, eq_self, j00, j10, j20, j30, k00, k01, k02, k03, i20, i30, km0, i10, i01, im0, im1, i0m, i1m]
      simpa [hb] using this
  · rintro f s rfl
    simp (disch := omega) only [X10_leavesOf_L4, X10_leavesOf_J36, hL, zn_add, zn_mul, zn_addl, zn_ladd, zn_mull, zn_lmul, zn_le, zn_lt, zn_eq, zn_lel, zn_ltl, zn_eql, zn_lle, zn_llt, zn_leq, zn_sub, zn_subl, zn_m1, gl_eq, bind2_some, bind3_some, Option.bind_some, bz_0, bz_1, ib_0, ib_1, ib_bz, rd_nI, rd_l, if_pos, if_neg, if_true, if_false, ite_true, ite_false, eq_self, j00, j10, j20, j30, k00, k01, k02, k03, i20, i30, km0, i10, i01, im0, im1, i0m, i1m]
