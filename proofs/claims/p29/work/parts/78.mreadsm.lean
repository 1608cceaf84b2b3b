/-! reading a line: the reference -/
/-- what the reference keeps of a line before it reads it -/
def ldM (m W : Nat) (bl : Nat → Bool) (G : Nat → Nat → Nat) (gn : Nat → Nat) (wl : Nat → Nat) (wd : Nat → Nat → Nat) (Y : gM) : Prop := Y 43 0 17 = nI W ∧ W ≤ 12 ∧ m ≤ 8 ∧
  (∀ c, c < m → Y 72 0 c = (if bl c = true then 1 else 0) ∧ (∀ k, k < 26 → Y 73 0 (26 * c + k) = nI (G c k)) ∧ Y 74 0 c = nI (gn c) ∧ gn c ≤ 26) ∧
  (∀ c k, G c k ≤ 81) ∧ ∀ w, w < W → 1 ≤ wl w ∧ wl w ≤ 8 ∧ Y 59 0 w = nI (wl w) ∧ ∀ k, k < wl w → wd w k < 26 ∧ Y 60 0 (8 * w + k) = nI (wd w k)
theorem ldM_cg {m W : Nat} {bl : Nat → Bool} {G : Nat → Nat → Nat} {gn : Nat → Nat} {wl : Nat → Nat} {wd : Nat → Nat → Nat} {X Y : gM} (h : ∀ k p j, ¬ (k = 68 ∨ k = 69 ∨ k = 70 ∨ k = 71) → Y k p j = X k p j) (g : ldM m W bl G gn wl wd X) : ldM m W bl G gn wl wd Y := by
  obtain ⟨g1, g2, g3, g4, g5, g6⟩ := g
  refine ⟨(h 43 0 17 (by omega)).trans g1, g2, g3, fun c hc => ?_, g5, fun w hw => ?_⟩
  · obtain ⟨q1, q2, q3, q4⟩ := g4 c hc
    exact ⟨(h 72 0 c (by omega)).trans q1, fun k hk => (h 73 0 _ (by omega)).trans (q2 k hk), (h 74 0 c (by omega)).trans q3, q4⟩
  · obtain ⟨q1, q2, q3, q4⟩ := g6 w hw
    exact ⟨q1, q2, (h 59 0 w (by omega)).trans q3, fun k hk => ⟨(q4 k hk).1, (h 60 0 _ (by omega)).trans (q4 k hk).2⟩⟩
section
variable {m W : Nat} {bl : Nat → Bool} {G : Nat → Nat → Nat} {gn : Nat → Nat} {wl : Nat → Nat} {wd : Nat → Nat → Nat} {Y : gM} {al : Nat → Nat → Bool} {N : Nat}
theorem X10_weightAt_eq (hN : 1000 ≤ N) (g : ldM m W bl G gn wl wd Y) {w c : Nat} (hw : w < W) (hc : c < m) : X10_weightAt al N (nI w) (nI c) (nI m) Y = some (enc (fitW m bl G gn wl wd w c), Y) := by
  obtain ⟨g1, g2, g3, g4, g5, g6⟩ := g
  obtain ⟨q1, q2, q3, q4⟩ := g6 w hw
  unfold X10_weightAt fitW
  have key : ∀ d k s fu, k + d = wl w → d < fu → s ≤ 81 * k → X10_weightAt_L6 al N (fun Y => X10_weightAt_J39 al N Y) (fun Y => X10_weightAt_J81 al N Y) (fun p4 Y => X10_weightAt_J96 al N p4 Y) fu (nI w) (nI c) (nI m) (nI s) (nI k) Y = some (enc ((fitF m bl G gn wd w c d k).map (fun x => s + x)), Y) := by
    intro d
    induction d with
    | zero =>
      intro k s fu hk hf hs
      obtain ⟨fu, rfl⟩ : ∃ f', fu = f' + 1 := ⟨fu - 1, by omega⟩
      simp (disch := omega) only [X10_weightAt_L6, q3, X10_weightAt_J96, zn_add, zn_mul, zn_addl, zn_ladd, zn_mull, zn_lmul, zn_le, zn_lt, zn_eq, zn_lel, zn_ltl, zn_eql, zn_lle, zn_llt, zn_leq, zn_sub, zn_subl, zn_m1, gl_eq, bind2_some, bind3_some, Option.bind_some, bz_0, bz_1, ib_0, ib_1, ib_bz, rd_nI, rd_l, if_pos, if_neg, if_true, if_false, ite_true, ite_false, eq_self, j00, j10, j20, j30, k00, k01, k02, k03, i20, i30, km0, i10, i01, im0, im1, i0m, i1m]
      rfl
    | succ d ih =>
      intro k s fu hk hf hs
      obtain ⟨fu, rfl⟩ : ∃ f', fu = f' + 1 := ⟨fu - 1, by omega⟩
      obtain ⟨r1, r2⟩ := q4 k (by omega)
      simp (disch := omega) only [X10_weightAt_L6, q3, X10_weightAt_J39, X10_weightAt_J81, X10_weightAt_J83, zn_add, zn_mul, zn_addl, zn_ladd, zn_mull, zn_lmul, zn_le, zn_lt, zn_eq, zn_lel, zn_ltl, zn_eql, zn_lle, zn_llt, zn_leq, zn_sub, zn_subl, zn_m1, gl_eq, bind2_some, bind3_some, Option.bind_some, bz_0, bz_1, ib_0, ib_1, ib_bz, rd_nI, rd_l, if_pos, if_neg, if_true, if_false, ite_true, ite_false, eq_self, j00, j10, j20, j30, k00, k01, k02, k03, i20, i30, km0, i10, i01, im0, im1, i0m, i1m]
      unfold fitF
      by_cases hm : m ≤ c + k
      · rw [if_pos hm, if_pos hm]; rfl
      · rw [if_neg hm, if_neg hm]
        obtain ⟨t1, t2, t3, t4⟩ := g4 (c + k) (by omega)
        have t2 := t2 (wd w k) r1
        have hG := g5 (c + k) (wd w k)
        simp (disch := omega) only [t1, t3, r2, t2, zn_add, zn_mul, zn_addl, zn_ladd, zn_mull, zn_lmul, zn_le, zn_lt, zn_eq, zn_lel, zn_ltl, zn_eql, zn_lle, zn_llt, zn_leq, zn_sub, zn_subl, zn_m1, gl_eq, bind2_some, bind3_some, Option.bind_some, bz_0, bz_1, ib_0, ib_1, ib_bz, rd_nI, rd_l, if_pos, if_neg, if_true, if_false, ite_true, ite_false, eq_self, j00, j10, j20, j30, k00, k01, k02, k03, i20, i30, km0, i10, i01, im0, im1, i0m, i1m]
        by_cases hb : bl (c + k) = true
        · simp only [if_pos hb]; rfl
        · simp only [if_neg hb]
          have hih := ih (k + 1) (s + G (c + k) (wd w k)) fu (by omega) (by omega) (by omega)
          have hmap : ∀ o : Option Nat, Option.map (fun x => s + x) (Option.map (fun x => G (c + k) (wd w k) + x) o) = Option.map (fun x => s + G (c + k) (wd w k) + x) o := fun o => by
            cases o with
            | none => rfl
            | some x => show some (s + (G (c + k) (wd w k) + x)) = some (s + G (c + k) (wd w k) + x); rw [Nat.add_assoc]
          by_cases h0 : gn (c + k) ≤ 0
          · rw [if_pos h0, if_neg (fun z => by omega), hmap]
            exact hih
          · rw [if_neg h0]
            by_cases h1 : G (c + k) (wd w k) = 0
            · rw [if_pos h1, if_pos ⟨h1, by omega⟩]; rfl
            · rw [if_neg h1, if_neg (fun z => h1 z.1), hmap]
              exact hih
  have := key (wl w) 0 0 N (by omega) (by omega) (by omega)
  have hid : (fitF m bl G gn wd w c (wl w) 0).map (fun x => 0 + x) = fitF m bl G gn wd w c (wl w) 0 := by
    cases fitF m bl G gn wd w c (wl w) 0 with
    | none => rfl
    | some x => show some (0 + x) = some x; rw [Nat.zero_add]
  rw [hid] at this
  exact this
/-- the row of a cell in the reference -/
def rwM (Y : gM) : Nat → Nat → Int32 := fun c k => Y 71 0 (8 * c + k)
theorem newM_at (g : ldM m W bl G gn wl wd Y) {w c : Nat} (hw : w < W) (hcw : c + wl w ≤ m) {k : Nat} (hk : c + k < m) :
    newR wl wd (rwM Y) c w (c + k) = if wl w ≤ k then Y 71 0 (8 * (c + wl w) + (c + k)) else Y 60 0 (8 * w + k) := by
  obtain ⟨g1, g2, g3, g4, g5, g6⟩ := g
  obtain ⟨q1, q2, q3, q4⟩ := g6 w hw
  unfold newR
  by_cases h : wl w ≤ k
  · rw [if_neg (by omega), if_pos h]; rfl
  · rw [if_pos (by omega), if_neg h, (q4 k (by omega)).2]
    congr 2; omega
theorem X10_isLower_eq (hN : 1000 ≤ N) (g : ldM m W bl G gn wl wd Y) {w c : Nat} (hw : w < W) (hcw : c + wl w ≤ m) : X10_isLower al N (nI w) (nI c) (nI m) Y = some (if lowF (newR wl wd (rwM Y) c w) (rwM Y c) (m - c) c = true then 1 else 0, Y) := by
  have hg := g
  obtain ⟨g1, g2, g3, g4, g5, g6⟩ := g
  obtain ⟨q1, q2, q3, q4⟩ := g6 w hw
  unfold X10_isLower
  have key : ∀ d k fu, c + k + d = m → d < fu → X10_isLower_L3 al N (fun p5 p6 Y => X10_isLower_J83 al N p5 p6 Y) (fun Y => X10_isLower_J102 al N Y) fu (nI w) (nI c) (nI m) (nI k) Y = some (if lowF (newR wl wd (rwM Y) c w) (rwM Y c) d (c + k) = true then 1 else 0, Y) := by
    intro d
    induction d with
    | zero =>
      intro k fu hk hf
      obtain ⟨fu, rfl⟩ : ∃ f', fu = f' + 1 := ⟨fu - 1, by omega⟩
      simp (disch := omega) only [X10_isLower_L3, X10_isLower_J102, zn_add, zn_mul, zn_addl, zn_ladd, zn_mull, zn_lmul, zn_le, zn_lt, zn_eq, zn_lel, zn_ltl, zn_eql, zn_lle, zn_llt, zn_leq, zn_sub, zn_subl, zn_m1, gl_eq, bind2_some, bind3_some, Option.bind_some, bz_0, bz_1, ib_0, ib_1, ib_bz, rd_nI, rd_l, if_pos, if_neg, if_true, if_false, ite_true, ite_false, eq_self, j00, j10, j20, j30, k00, k01, k02, k03, i20, i30, km0, i10, i01, im0, im1, i0m, i1m]
      rfl
    | succ d ih =>
      intro k fu hk hf
      obtain ⟨fu, rfl⟩ : ∃ f', fu = f' + 1 := ⟨fu - 1, by omega⟩
      have hnew := newM_at hg hw hcw (k := k) (by omega)
      have e1 : 8 * (c + wl w) + c + k = 8 * (c + wl w) + (c + k) := by omega
      have e2 : 8 * c + c + k = 8 * c + (c + k) := by omega
      have hih := ih (k + 1) fu (by omega) (by omega)
      have e3 : c + (k + 1) = c + k + 1 := by omega
      rw [e3] at hih
      have hcom : ∀ v, v = newR wl wd (rwM Y) c w (c + k) → X10_isLower_J58 al N (X10_isLower_L3 al N (fun p5 p6 Y => X10_isLower_J83 al N p5 p6 Y) (fun Y => X10_isLower_J102 al N Y) fu) (fun p5 p6 Y => X10_isLower_J83 al N p5 p6 Y) (fun Y => X10_isLower_J102 al N Y) (nI w) (nI c) (nI m) (nI k) v Y = some (if lowF (newR wl wd (rwM Y) c w) (rwM Y c) (d + 1) (c + k) = true then 1 else 0, Y) := by
        intro v hv
        subst hv
        unfold X10_isLower_J58
        simp (disch := omega) only [e2, zn_add, zn_mul, zn_addl, zn_ladd, zn_mull, zn_lmul, zn_le, zn_lt, zn_eq, zn_lel, zn_ltl, zn_eql, zn_lle, zn_llt, zn_leq, zn_sub, zn_subl, zn_m1, gl_eq, bind2_some, bind3_some, Option.bind_some, bz_0, bz_1, ib_0, ib_1, ib_bz, rd_nI, rd_l, if_pos, if_neg, if_true, if_false, ite_true, ite_false, eq_self, j00, j10, j20, j30, k00, k01, k02, k03, i20, i30, km0, i10, i01, im0, im1, i0m, i1m, hih]
        have er : Y 71 0 (8 * c + (c + k)) = rwM Y c (c + k) := rfl
        rw [er]
        rw [show lowF (newR wl wd (rwM Y) c w) (rwM Y c) (d + 1) (c + k) = (if newR wl wd (rwM Y) c w (c + k) = rwM Y c (c + k) then lowF (newR wl wd (rwM Y) c w) (rwM Y c) d (c + k + 1) else decide (newR wl wd (rwM Y) c w (c + k) < rwM Y c (c + k))) from rfl]
        by_cases he : newR wl wd (rwM Y) c w (c + k) = rwM Y c (c + k)
        · rw [if_pos he, if_pos he]
        · rw [if_neg he, if_neg he]
          unfold X10_isLower_J83 X10_isLower_J95
          by_cases hl : rwM Y c (c + k) ≤ newR wl wd (rwM Y) c w (c + k)
          · rw [if_pos hl, decide_eq_false (not_lt32.mpr hl)]; rfl
          · rw [if_neg hl, decide_eq_true (not_le32.mp hl)]; rfl
      simp (disch := omega) only [X10_isLower_L3, q3, e1, zn_add, zn_mul, zn_addl, zn_ladd, zn_mull, zn_lmul, zn_le, zn_lt, zn_eq, zn_lel, zn_ltl, zn_eql, zn_lle, zn_llt, zn_leq, zn_sub, zn_subl, zn_m1, gl_eq, bind2_some, bind3_some, Option.bind_some, bz_0, bz_1, ib_0, ib_1, ib_bz, rd_nI, rd_l, if_pos, if_neg, if_true, if_false, ite_true, ite_false, eq_self, j00, j10, j20, j30, k00, k01, k02, k03, i20, i30, km0, i10, i01, im0, im1, i0m, i1m]
      by_cases h : wl w ≤ k
      · rw [if_pos h] at hnew ⊢
        exact hcom _ hnew.symm
      · rw [if_neg h] at hnew ⊢
        try simp (disch := omega) only [zn_add, zn_mul, zn_addl, zn_ladd, zn_mull, zn_lmul, zn_le, zn_lt, zn_eq, zn_lel, zn_ltl, zn_eql, zn_lle, zn_llt, zn_leq, zn_sub, zn_subl, zn_m1, gl_eq, bind2_some, bind3_some, Option.bind_some, bz_0, bz_1, ib_0, ib_1, ib_bz, rd_nI, rd_l, if_pos, if_neg, if_true, if_false, ite_true, ite_false, eq_self, j00, j10, j20, j30, k00, k01, k02, k03, i20, i30, km0, i10, i01, im0, im1, i0m, i1m]
        exact hcom _ hnew.symm
  have := key (m - c) 0 N (by omega) (by omega)
  exact this
theorem X10_takes_eq (hN : 1000 ≤ N) (g : ldM m W bl G gn wl wd Y) {w c : Nat} (hw : w < W) (hcw : c + wl w ≤ m) : ∃ Z, X10_takes al N (nI w) (nI c) (nI m) Y = some (0, Z) ∧ (∀ k p j, ¬ (k = 71 ∧ p = 0 ∧ 9 * c ≤ j ∧ j < 8 * c + m) → Z k p j = Y k p j) ∧ ∀ k, c ≤ k → k < m → Z 71 0 (8 * c + k) = newR wl wd (rwM Y) c w k := by
  have hg := g
  obtain ⟨g1, g2, g3, g4, g5, g6⟩ := g
  obtain ⟨q1, q2, q3, q4⟩ := g6 w hw
  unfold X10_takes
  refine m_up0 (m - c) (fun fu i (Z : gM) => X10_takes_L3 al N (fun Y => X10_takes_J78 al N Y) fu (nI w) (nI c) (nI m) i Z)
    (fun i Z => (∀ k p j, ¬ (k = 71 ∧ p = 0 ∧ 9 * c ≤ j ∧ j < 8 * c + m) → Z k p j = Y k p j) ∧ ∀ k, k < i → Z 71 0 (8 * c + (c + k)) = newR wl wd (rwM Y) c w (c + k)) (fun o => ∃ Z, o = some (0, Z) ∧ (∀ k p j, ¬ (k = 71 ∧ p = 0 ∧ 9 * c ≤ j ∧ j < 8 * c + m) → Z k p j = Y k p j) ∧ ∀ k, c ≤ k → k < m → Z 71 0 (8 * c + k) = newR wl wd (rwM Y) c w k) Y (by omega) ?_ ?_ ⟨fun _ _ _ _ => rfl, fun k hk => absurd hk (Nat.not_lt_zero k)⟩
  · rintro i fu Z hi ⟨h1, h2⟩ ih
    have hnew := newM_at hg hw hcw (k := i) (by omega)
    have e1 : 8 * (c + wl w) + c + i = 8 * (c + wl w) + (c + i) := by omega
    have e2 : 8 * c + c + i = 8 * c + (c + i) := by omega
    have e59 : Z 59 0 w = nI (wl w) := (h1 59 0 w (by omega)).trans q3
    have hstep : ∀ v, v = newR wl wd (rwM Y) c w (c + i) → ∃ Z2, (∃ Z', (some (0, Z') : Option (Int32 × gM)) = some (0, Z2)) ∧ Z2 = mset Z 71 0 (8 * c + (c + i)) v ∧ (∀ k p j, ¬ (k = 71 ∧ p = 0 ∧ 9 * c ≤ j ∧ j < 8 * c + m) → Z2 k p j = Y k p j) ∧ ∀ k, k < i + 1 → Z2 71 0 (8 * c + (c + k)) = newR wl wd (rwM Y) c w (c + k) := by
      intro v hv
      refine ⟨_, ⟨_, rfl⟩, rfl, fun k p j hk => ?_, fun k hk => ?_⟩
      · rw [mset_at, if_neg (by omega), h1 k p j hk]
      · rw [mset_at]
        by_cases hki : k = i
        · subst hki; rw [if_pos ⟨rfl, rfl, rfl⟩, hv]
        · rw [if_neg (by omega)]; exact h2 k (by omega)
    simp (disch := omega) only [X10_takes_L3, X10_takes_J71, e59, e1, e2, zn_add, zn_mul, zn_addl, zn_ladd, zn_mull, zn_lmul, zn_le, zn_lt, zn_eq, zn_lel, zn_ltl, zn_eql, zn_lle, zn_llt, zn_leq, zn_sub, zn_subl, zn_m1, gl_eq, bind2_some, bind3_some, Option.bind_some, bz_0, bz_1, ib_0, ib_1, ib_bz, rd_nI, rd_l, if_pos, if_neg, if_true, if_false, ite_true, ite_false, eq_self, j00, j10, j20, j30, k00, k01, k02, k03, i20, i30, km0, i10, i01, im0, im1, i0m, i1m]
    by_cases h : wl w ≤ i
    · rw [if_pos h] at hnew
      have r71 : Z 71 0 (8 * (c + wl w) + (c + i)) = Y 71 0 (8 * (c + wl w) + (c + i)) := h1 71 0 _ (by omega)
      rw [if_pos h]
      obtain ⟨Z2, -, q, r⟩ := hstep _ (r71.trans hnew.symm)
      rw [← q]
      exact ih Z2 r
    · rw [if_neg h] at hnew
      have r60 : Z 60 0 (8 * w + i) = Y 60 0 (8 * w + i) := h1 60 0 _ (by omega)
      rw [if_neg h]
      try simp (disch := omega) only [zn_add, zn_mul, zn_addl, zn_ladd, zn_mull, zn_lmul, zn_le, zn_lt, zn_eq, zn_lel, zn_ltl, zn_eql, zn_lle, zn_llt, zn_leq, zn_sub, zn_subl, zn_m1, gl_eq, bind2_some, bind3_some, Option.bind_some, bz_0, bz_1, ib_0, ib_1, ib_bz, rd_nI, rd_l, if_pos, if_neg, if_true, if_false, ite_true, ite_false, eq_self, j00, j10, j20, j30, k00, k01, k02, k03, i20, i30, km0, i10, i01, im0, im1, i0m, i1m]
      obtain ⟨Z2, -, q, r⟩ := hstep _ (r60.trans hnew.symm)
      rw [← q]
      exact ih Z2 r
  · rintro fu Z ⟨h1, h2⟩
    have e : c + (m - c) = m := by omega
    simp (disch := omega) only [X10_takes_L3, X10_takes_J78, e, zn_add, zn_mul, zn_addl, zn_ladd, zn_mull, zn_lmul, zn_le, zn_lt, zn_eq, zn_lel, zn_ltl, zn_eql, zn_lle, zn_llt, zn_leq, zn_sub, zn_subl, zn_m1, gl_eq, bind2_some, bind3_some, Option.bind_some, bz_0, bz_1, ib_0, ib_1, ib_bz, rd_nI, rd_l, if_pos, if_neg, if_true, if_false, ite_true, ite_false, eq_self, j00, j10, j20, j30, k00, k01, k02, k03, i20, i30, km0, i10, i01, im0, im1, i0m, i1m]
    refine ⟨Z, rfl, h1, fun k q1 q2 => ?_⟩
    have := h2 (k - c) (by omega)
    have e3 : c + (k - c) = k := by omega
    rw [e3] at this
    exact this
end
