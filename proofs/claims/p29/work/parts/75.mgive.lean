/-! give -/
def eW (lt vt : Nat → Nat) (j k : Nat) : Nat := if lt j = k then vt j else 0
def Wf (lt vt : Nat → Nat) (k : Nat) : Nat := eW lt vt 0 k + eW lt vt 1 k + eW lt vt 2 k
def sF (X : gM) (a b s : Nat) (lt vt : Nat → Nat) : Prop := (∀ j, j < 3 → lt j < 26 ∧ vt j ≤ 9 ∧ X 9 a (3 * s + j) = nI (lt j) ∧ X 10 a (3 * s + j) = nI (vt j)) ∧
  (∀ i j, i < 3 → j < 3 → i ≠ j → vt i ≠ 0 → vt j ≠ 0 → lt i ≠ lt j) ∧ ∀ k, k < 26 → X 57 0 (26 * (320 * s + b) + k) = nI (Wf lt vt k)
theorem sR_sF {X : gM} {a b s : Nat} (h : sR X a b s) : ∃ lt vt, sF X a b s lt vt := by
  obtain ⟨l0, l1, l2, v0, v1, v2, a0, a1, a2, b0, b1, b2, c0, c1, c2, d0, d1, d2, e0, e1, e2, f⟩ := h
  refine ⟨fun j => if j = 0 then l0 else if j = 1 then l1 else l2, fun j => if j = 0 then v0 else if j = 1 then v1 else v2, fun j hj => ?_, fun i j hi hj hij => ?_, fun k hk => ?_⟩
  · have hj3 : j = 0 ∨ j = 1 ∨ j = 2 := by omega
    rcases hj3 with rfl | rfl | rfl
    · exact ⟨a0, b0, c0, d0⟩
    · exact ⟨a1, b1, c1, d1⟩
    · exact ⟨a2, b2, c2, d2⟩
  · have hi3 : i = 0 ∨ i = 1 ∨ i = 2 := by omega
    have hj3 : j = 0 ∨ j = 1 ∨ j = 2 := by omega
    rcases hi3 with rfl | rfl | rfl <;> rcases hj3 with rfl | rfl | rfl
    · exact absurd rfl hij
    · exact e0
    · exact e1
    · exact fun p q r => e0 q p r.symm
    · exact absurd rfl hij
    · exact e2
    · exact fun p q r => e1 q p r.symm
    · exact fun p q r => e2 q p r.symm
    · exact absurd rfl hij
  · exact f k hk
theorem sF_sR {X : gM} {a b s : Nat} {lt vt : Nat → Nat} (h : sF X a b s lt vt) : sR X a b s := by
  obtain ⟨h1, h2, h3⟩ := h
  obtain ⟨p0, p1, p2, p3⟩ := h1 0 (by omega)
  obtain ⟨q0, q1, q2, q3⟩ := h1 1 (by omega)
  obtain ⟨r0, r1, r2, r3⟩ := h1 2 (by omega)
  exact ⟨lt 0, lt 1, lt 2, vt 0, vt 1, vt 2, p0, q0, r0, p1, q1, r1, p2, q2, r2, p3, q3, r3, h2 0 1 (by omega) (by omega) (by omega), h2 0 2 (by omega) (by omega) (by omega), h2 1 2 (by omega) (by omega) (by omega), h3⟩
theorem Wf_le {lt vt : Nat → Nat} (h : ∀ j, j < 3 → vt j ≤ 9) (k : Nat) : Wf lt vt k ≤ 27 := by
  have h0 := h 0 (by omega)
  have h1 := h 1 (by omega)
  have h2 := h 2 (by omega)
  unfold Wf eW
  split <;> split <;> split <;> omega
theorem updN_same (f : Nat → Nat) (k v : Nat) : updN f k v k = v := if_pos rfl
theorem updN_ne {f : Nat → Nat} {k v i : Nat} (h : i ≠ k) : updN f k v i = f i := if_neg h
theorem eW_upd {lt vt : Nat → Nat} {l w i j : Nat} (k : Nat) : eW (updN lt j l) (updN vt j w) i k = if i = j then (if l = k then w else 0) else eW lt vt i k := by
  unfold eW updN
  by_cases h : i = j
  · rw [if_pos h, if_pos h, if_pos h]
  · rw [if_neg h, if_neg h, if_neg h]
theorem Wf_upd {lt vt : Nat → Nat} {l w j : Nat} (hj : j < 3) (ho : ∀ i, i < 3 → i ≠ j → vt i ≠ 0 → lt i ≠ l) (hs : lt j = l ∨ vt j = 0) (k : Nat) : Wf (updN lt j l) (updN vt j w) k = if k = l then w else Wf lt vt k := by
  unfold Wf
  rw [eW_upd, eW_upd, eW_upd]
  have z : ∀ i, i < 3 → i ≠ j → k = l → eW lt vt i k = 0 := fun i hi hij hk => by
    unfold eW
    by_cases q : lt i = k
    · rw [if_pos q]
      apply Classical.byContradiction
      intro hv
      exact ho i hi hij hv (q.trans hk)
    · rw [if_neg q]
  have y : k ≠ l → eW lt vt j k = 0 := fun hk => by
    unfold eW
    rcases hs with q | q
    · rw [if_neg (by omega)]
    · rw [q]; split <;> rfl
  have hj3 : j = 0 ∨ j = 1 ∨ j = 2 := by omega
  by_cases hk : k = l
  · subst hk
    rcases hj3 with rfl | rfl | rfl
    · simp [z 1 (by omega) (by omega) rfl, z 2 (by omega) (by omega) rfl]
    · simp [z 0 (by omega) (by omega) rfl, z 2 (by omega) (by omega) rfl]
    · simp [z 0 (by omega) (by omega) rfl, z 1 (by omega) (by omega) rfl]
  · have y := y hk
    have hlk : ¬ l = k := fun q => hk q.symm
    rcases hj3 with rfl | rfl | rfl
    · simp [hk, hlk, y]
    · simp [hk, hlk, y]
    · simp [hk, hlk, y]
def cz (vt : Nat → Nat) : Nat := (if vt 0 = 0 then 0 else 1) + (if vt 1 = 0 then 0 else 1) + (if vt 2 = 0 then 0 else 1)
theorem cntP_one {l n : Nat} (hl : l < n) (v : Nat) : cntP (fun k => decide (l = k ∧ v ≠ 0)) n = if v = 0 then 0 else 1 := by
  have key : ∀ m, cntP (fun k => decide (l = k ∧ v ≠ 0)) m = if l < m then (if v = 0 then 0 else 1) else 0 := by
    intro m
    induction m with
    | zero => rfl
    | succ m ih =>
      by_cases h : l = m ∧ v ≠ 0
      · rw [cntP_t (P := fun k => decide (l = k ∧ v ≠ 0)) (decide_eq_true h), ih, if_neg (show ¬ l < m by omega), if_pos (show l < m + 1 by omega), if_neg h.2]
      · rw [cntP_f (P := fun k => decide (l = k ∧ v ≠ 0)) (decide_eq_false h), ih]
        by_cases q : l < m
        · rw [if_pos q, if_pos (show l < m + 1 by omega)]
        · rw [if_neg q]
          by_cases q2 : l < m + 1
          · rw [if_pos q2]
            have : v = 0 := by
              apply Classical.byContradiction
              intro hv
              exact h ⟨by omega, hv⟩
            rw [if_pos this]
          · rw [if_neg q2]
  rw [key, if_pos hl]
theorem cntP_or {P Q R : Nat → Bool} {n : Nat} (h : ∀ k, k < n → P k = (Q k || R k)) (hd : ∀ k, k < n → ¬ (Q k = true ∧ R k = true)) : cntP P n = cntP Q n + cntP R n := by
  induction n with
  | zero => rfl
  | succ n ih =>
    have ih := ih (fun k hk => h k (by omega)) (fun k hk => hd k (by omega))
    have h1 := h n (by omega)
    have h2 := hd n (by omega)
    cases hq : Q n <;> cases hr : R n
    · rw [hq, hr] at h1
      rw [cntP_f h1, cntP_f hq, cntP_f hr, ih]
    · rw [hq, hr] at h1
      rw [cntP_t h1, cntP_f hq, cntP_t hr, ih]; omega
    · rw [hq, hr] at h1
      rw [cntP_t h1, cntP_t hq, cntP_f hr, ih]; omega
    · exact absurd ⟨hq, hr⟩ h2
theorem Wf_pos {lt vt : Nat → Nat} (k : Nat) : 0 < Wf lt vt k ↔ (lt 0 = k ∧ vt 0 ≠ 0) ∨ (lt 1 = k ∧ vt 1 ≠ 0) ∨ (lt 2 = k ∧ vt 2 ≠ 0) := by
  unfold Wf eW
  split <;> split <;> split <;> omega
theorem Wf_cnt {lt vt : Nat → Nat} (h1 : ∀ j, j < 3 → lt j < 26) (h2 : ∀ i j, i < 3 → j < 3 → i ≠ j → vt i ≠ 0 → vt j ≠ 0 → lt i ≠ lt j) : cntP (fun k => decide (0 < Wf lt vt k)) 26 = cz vt := by
  have e1 : cntP (fun k => decide (0 < Wf lt vt k)) 26 = cntP (fun k => decide (lt 0 = k ∧ vt 0 ≠ 0)) 26 + cntP (fun k => decide ((lt 1 = k ∧ vt 1 ≠ 0) ∨ (lt 2 = k ∧ vt 2 ≠ 0))) 26 := by
    refine cntP_or (fun k hk => ?_) (fun k hk q => ?_)
    · rw [← Bool.decide_or]
      exact decide_eq_decide.mpr (Wf_pos k)
    · have q1 := of_decide_eq_true q.1
      have q2 := of_decide_eq_true q.2
      rcases q2 with q2 | q2
      · exact h2 0 1 (by omega) (by omega) (by omega) q1.2 q2.2 (q1.1.trans q2.1.symm)
      · exact h2 0 2 (by omega) (by omega) (by omega) q1.2 q2.2 (q1.1.trans q2.1.symm)
  have e2 : cntP (fun k => decide ((lt 1 = k ∧ vt 1 ≠ 0) ∨ (lt 2 = k ∧ vt 2 ≠ 0))) 26 = cntP (fun k => decide (lt 1 = k ∧ vt 1 ≠ 0)) 26 + cntP (fun k => decide (lt 2 = k ∧ vt 2 ≠ 0)) 26 := by
    refine cntP_or (fun k hk => ?_) (fun k hk q => ?_)
    · rw [← Bool.decide_or]
    · have q1 := of_decide_eq_true q.1
      have q2 := of_decide_eq_true q.2
      exact h2 1 2 (by omega) (by omega) (by omega) q1.2 q2.2 (q1.1.trans q2.1.symm)
  rw [e1, e2, cntP_one (h1 0 (by omega)), cntP_one (h1 1 (by omega)), cntP_one (h1 2 (by omega))]
  unfold cz
  omega
/-- the slot that is found -/
def slR (lt vt : Nat → Nat) (s l : Nat) (r : Int32) : Prop := (∃ j, j < 3 ∧ vt j ≠ 0 ∧ lt j = l ∧ r = nI (3 * s + j)) ∨
  ((∀ j, j < 3 → vt j ≠ 0 → lt j ≠ l) ∧ ((∃ j, j < 3 ∧ vt j = 0 ∧ r = nI (3 * s + j)) ∨ ((∀ j, j < 3 → vt j ≠ 0) ∧ r = -1)))
theorem X0_slotFor_eq {al : Nat → Nat → Bool} {N a b s l : Nat} {X : gM} {lt vt : Nat → Nat} (hN : 1000 ≤ N) (hs : s < 3) (hl : l < 26) (g : sF X a b s lt vt) : ∃ r, X0_slotFor al N a (nI s) (nI l) X = some (r, X) ∧ slR lt vt s l r := by
  obtain ⟨g1, g2, g3⟩ := g
  have e3 : s * 3 = 3 * s := Nat.mul_comm s 3
  unfold X0_slotFor
  refine m_up0 3 (fun fu i (p3 : Int32) => X0_slotFor_L5 al N (fun p5 Y => X0_slotFor_J46 al N p5 Y) (fun p3 Y => X0_slotFor_J55 al N p3 Y) fu a (nI s) (nI l) p3 i X)
    (fun i p3 => (∀ j, j < i → vt j ≠ 0 → lt j ≠ l) ∧ ((∃ j, j < i ∧ vt j = 0 ∧ p3 = nI (3 * s + j)) ∨ ((∀ j, j < i → vt j ≠ 0) ∧ p3 = -1))) (fun o => ∃ r, o = some (r, X) ∧ slR lt vt s l r) (-1) (by omega) ?_ ?_ ⟨fun j hj => absurd hj (Nat.not_lt_zero j), Or.inr ⟨fun j hj => absurd hj (Nat.not_lt_zero j), rfl⟩⟩
  · intro i fu p3 hi hI ih
    obtain ⟨hI1, hI2⟩ := hI
    obtain ⟨q1, q2, q3, q4⟩ := g1 i hi
    simp (disch := omega) only [X0_slotFor_L5, X0_slotFor_J49, X0_slotFor_J46, e3, q3, q4, zn_add, zn_mul, zn_addl, zn_ladd, zn_mull, zn_lmul, zn_le, zn_lt, zn_eq, zn_lel, zn_ltl, zn_eql, zn_lle, zn_llt, zn_leq, zn_sub, zn_subl, zn_m1, gl_eq, bind2_some, bind3_some, Option.bind_some, bz_0, bz_1, ib_0, ib_1, ib_bz, rd_nI, rd_l, if_pos, if_neg, if_true, if_false, ite_true, ite_false, eq_self, j00, j10, j20, j30, k00, k01, k02, k03, i20, i30, km0, i10, i01, im0, im1, i0m, i1m]
    by_cases hv : vt i = 0
    · rw [if_pos hv]
      refine ih _ ⟨fun j hj hvj => ?_, Or.inl ⟨i, by omega, hv, rfl⟩⟩
      by_cases hji : j = i
      · subst hji; exact absurd hv hvj
      · exact hI1 j (by omega) hvj
    · rw [if_neg hv]
      by_cases hl' : lt i = l
      · rw [if_pos hl']
        exact ⟨_, rfl, Or.inl ⟨i, hi, hv, hl', rfl⟩⟩
      · rw [if_neg hl']
        refine ih _ ⟨fun j hj hvj => ?_, ?_⟩
        · by_cases hji : j = i
          · subst hji; exact hl'
          · exact hI1 j (by omega) hvj
        · rcases hI2 with ⟨j, r1, r2, r3⟩ | ⟨r1, r2⟩
          · exact Or.inl ⟨j, by omega, r2, r3⟩
          · refine Or.inr ⟨fun j hj => ?_, r2⟩
            by_cases hji : j = i
            · subst hji; exact hv
            · exact r1 j (by omega)
  · intro fu p3 hI
    simp (disch := omega) only [X0_slotFor_L5, X0_slotFor_J55, zn_add, zn_mul, zn_addl, zn_ladd, zn_mull, zn_lmul, zn_le, zn_lt, zn_eq, zn_lel, zn_ltl, zn_eql, zn_lle, zn_llt, zn_leq, zn_sub, zn_subl, zn_m1, gl_eq, bind2_some, bind3_some, Option.bind_some, bz_0, bz_1, ib_0, ib_1, ib_bz, rd_nI, rd_l, if_pos, if_neg, if_true, if_false, ite_true, ite_false, eq_self, j00, j10, j20, j30, k00, k01, k02, k03, i20, i30, km0, i10, i01, im0, im1, i0m, i1m]
    exact ⟨_, rfl, Or.inr hI⟩
theorem X0_countOf_eq {al : Nat → Nat → Bool} {N a s : Nat} {X : gM} {vt : Nat → Nat} (hN : 1000 ≤ N) (hs : s < 3) (g : ∀ j, j < 3 → vt j ≤ 9 ∧ X 10 a (3 * s + j) = nI (vt j)) : X0_countOf al N a (nI s) X = some (nI (cz vt), X) := by
  have e3 : s * 3 = 3 * s := Nat.mul_comm s 3
  have st : ∀ f k n, k < 3 → n < 10 → X0_countOf_L4 al N (fun p2 Y => X0_countOf_J31 al N p2 Y) (f + 1) a (nI s) (nI n) (nI k) X = X0_countOf_L4 al N (fun p2 Y => X0_countOf_J31 al N p2 Y) f a (nI s) (nI (n + (if vt k = 0 then 0 else 1))) (nI (k + 1)) X := by
    intro f k n hk hn
    obtain ⟨q1, q2⟩ := g k hk
    simp (disch := omega) only [X0_countOf_L4, X0_countOf_J25, e3, q2, zn_add, zn_mul, zn_addl, zn_ladd, zn_mull, zn_lmul, zn_le, zn_lt, zn_eq, zn_lel, zn_ltl, zn_eql, zn_lle, zn_llt, zn_leq, zn_sub, zn_subl, zn_m1, gl_eq, bind2_some, bind3_some, Option.bind_some, bz_0, bz_1, ib_0, ib_1, ib_bz, rd_nI, rd_l, if_pos, if_neg, if_true, if_false, ite_true, ite_false, eq_self, j00, j10, j20, j30, k00, k01, k02, k03, i20, i30, km0, i10, i01, im0, im1, i0m, i1m]
    by_cases hv : vt k = 0
    · rw [if_pos hv, if_pos hv]; rfl
    · rw [if_neg hv, if_neg hv]
  unfold X0_countOf
  obtain ⟨m, rfl⟩ : ∃ m, N = m + 4 := ⟨N - 4, by omega⟩
  refine (st (m + 3) 0 0 (by omega) (by omega)).trans ?_
  have b0 : (if vt 0 = 0 then 0 else 1) ≤ 1 := by split <;> omega
  have b1 : (if vt 1 = 0 then 0 else 1) ≤ 1 := by split <;> omega
  have e2 : (0 + 1 + 1 : Nat) = 2 := rfl
  have e1 : (0 + 1 : Nat) = 1 := rfl
  rw [st (m + 2) (0 + 1) _ (by omega) (by omega), e1, st (m + 1) (1 + 1) _ (by omega) (by omega)]
  simp (disch := omega) only [X0_countOf_L4, X0_countOf_J31, zn_add, zn_mul, zn_addl, zn_ladd, zn_mull, zn_lmul, zn_le, zn_lt, zn_eq, zn_lel, zn_ltl, zn_eql, zn_lle, zn_llt, zn_leq, zn_sub, zn_subl, zn_m1, gl_eq, bind2_some, bind3_some, Option.bind_some, bz_0, bz_1, ib_0, ib_1, ib_bz, rd_nI, rd_l, if_pos, if_neg, if_true, if_false, ite_true, ite_false, eq_self, j00, j10, j20, j30, k00, k01, k02, k03, i20, i30, km0, i10, i01, im0, im1, i0m, i1m]
  unfold cz
  rw [Nat.zero_add]
theorem X10_give_loop {al : Nat → Nat → Bool} {N n0 : Nat} {p5 p6 p7 : Int32} {X : gM} {w : Nat → Nat} {k128 : Int32 → Int32 → Int32 → Int32 → Int32 → gM → Option (Int32 × gM)} (hN : 1000 ≤ N) (hn : n0 + 26 < 24961) (g : ∀ k, k < 26 → w k ≤ 27 ∧ X 57 0 (n0 + k) = nI (w k)) :
    X10_give_L92 al N k128 N p5 p6 p7 (nI n0) 0 0 X = k128 p5 p6 p7 (nI n0) (nI (cntP (fun k => decide (0 < w k)) 26)) X := by
  refine m_up0 26 (fun fu i (p9 : Int32) => X10_give_L92 al N k128 fu p5 p6 p7 (nI n0) p9 i X) (fun i p9 => p9 = nI (cntP (fun k => decide (0 < w k)) i)) (fun o => o = k128 p5 p6 p7 (nI n0) (nI (cntP (fun k => decide (0 < w k)) 26)) X) 0 (by omega) ?_ ?_ rfl
  · rintro i fu p9 hi rfl ih
    obtain ⟨q1, q2⟩ := g i hi
    have hle := cntP_le (fun k => decide (0 < w k)) i
    simp (disch := omega) only [X10_give_L92, X10_give_J119, q2, zn_add, zn_mul, zn_addl, zn_ladd, zn_mull, zn_lmul, zn_le, zn_lt, zn_eq, zn_lel, zn_ltl, zn_eql, zn_lle, zn_llt, zn_leq, zn_sub, zn_subl, zn_m1, gl_eq, bind2_some, bind3_some, Option.bind_some, bz_0, bz_1, ib_0, ib_1, ib_bz, rd_nI, rd_l, if_pos, if_neg, if_true, if_false, ite_true, ite_false, eq_self, j00, j10, j20, j30, k00, k01, k02, k03, i20, i30, km0, i10, i01, im0, im1, i0m, i1m]
    by_cases hw : w i ≤ 0
    · rw [if_pos hw]
      refine ih _ ?_
      rw [cntP_f (P := fun k => decide (0 < w k)) (decide_eq_false (by omega))]; rfl
    · rw [if_neg hw]
      refine ih _ ?_
      rw [cntP_t (P := fun k => decide (0 < w k)) (decide_eq_true (by omega))]
  · rintro fu p9 rfl
    simp (disch := omega) only [X10_give_L92, zn_add, zn_mul, zn_addl, zn_ladd, zn_mull, zn_lmul, zn_le, zn_lt, zn_eq, zn_lel, zn_ltl, zn_eql, zn_lle, zn_llt, zn_leq, zn_sub, zn_subl, zn_m1, gl_eq, bind2_some, bind3_some, Option.bind_some, bz_0, bz_1, ib_0, ib_1, ib_bz, rd_nI, rd_l, if_pos, if_neg, if_true, if_false, ite_true, ite_false, eq_self, j00, j10, j20, j30, k00, k01, k02, k03, i20, i30, km0, i10, i01, im0, im1, i0m, i1m]
theorem cz_le (vt : Nat → Nat) : cz vt ≤ 3 := by unfold cz; split <;> split <;> split <;> omega
theorem cz_3 {vt : Nat → Nat} : cz vt = 3 ↔ ∀ j, j < 3 → vt j ≠ 0 := by
  constructor
  · intro h j hj
    unfold cz at h
    have hj3 : j = 0 ∨ j = 1 ∨ j = 2 := by omega
    rcases hj3 with rfl | rfl | rfl
    all_goals
      intro q
      rw [q] at h
      simp at h
      split at h <;> split at h <;> omega
  · intro h
    unfold cz
    rw [if_neg (h 0 (by omega)), if_neg (h 1 (by omega)), if_neg (h 2 (by omega))]
theorem cz_upd {vt : Nat → Nat} {j w : Nat} (hj : j < 3) : cz (updN vt j w) + (if vt j = 0 then 0 else 1) = cz vt + (if w = 0 then 0 else 1) := by
  unfold cz updN
  have hj3 : j = 0 ∨ j = 1 ∨ j = 2 := by omega
  rcases hj3 with rfl | rfl | rfl <;> simp <;> omega
