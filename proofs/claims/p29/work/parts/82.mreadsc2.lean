/-! reading a line: the class, its words -/
/-- what the class keeps of a line before it reads it -/
def ldC (m W : Nat) (bl : Nat → Bool) (G : Nat → Nat → Nat) (gn : Nat → Nat) (wl : Nat → Nat) (wd : Nat → Nat → Nat) (Y : gM) : Prop := Y 29 0 0 = nI m ∧ W ≤ 12 ∧ m ≤ 8 ∧
  (∀ c, c < m → Y 30 0 c = (if bl c = true then 1 else 0) ∧ (bl c = false → (∀ k, k < 26 → Y 32 0 (26 * c + k) = nI (G c k)) ∧ Y 31 0 c = nI (gn c)) ∧ gn c ≤ 26) ∧
  (∀ c k, G c k ≤ 81) ∧ (∀ j, Y 25 0 j = if j < W then nI j else -1) ∧ ∀ w, w < W → 1 ≤ wl w ∧ wl w ≤ 8 ∧ Y 26 w 1 = nI (wl w) ∧ Y 27 w 99 = nI (wl w) ∧ ∀ k, k < wl w → wd w k < 26 ∧ Y 27 w k = nI (wd w k)
theorem ldC_cg {m W : Nat} {bl : Nat → Bool} {G : Nat → Nat → Nat} {gn : Nat → Nat} {wl : Nat → Nat} {wd : Nat → Nat → Nat} {X Y : gM} (h : ∀ k p j, ¬ (33 ≤ k ∧ k ≤ 39) → Y k p j = X k p j) (g : ldC m W bl G gn wl wd X) : ldC m W bl G gn wl wd Y := by
  obtain ⟨g1, g2, g3, g4, g5, g6, g7⟩ := g
  refine ⟨(h 29 0 0 (by omega)).trans g1, g2, g3, fun c hc => ?_, g5, fun j => (h 25 0 j (by omega)).trans (g6 j), fun w hw => ?_⟩
  · obtain ⟨q1, q2, q3⟩ := g4 c hc
    exact ⟨(h 30 0 c (by omega)).trans q1, fun hb => ⟨fun k hk => (h 32 0 _ (by omega)).trans ((q2 hb).1 k hk), (h 31 0 c (by omega)).trans (q2 hb).2⟩, q3⟩
  · obtain ⟨q1, q2, q3, q4, q5⟩ := g7 w hw
    exact ⟨q1, q2, (h 26 w 1 (by omega)).trans q3, (h 27 w 99 (by omega)).trans q4, fun k hk => ⟨(q5 k hk).1, (h 27 w k (by omega)).trans (q5 k hk).2⟩⟩
def rwC (Y : gM) : Nat → Nat → Int32 := fun c k => Y 38 c k
section
variable {m W : Nat} {bl : Nat → Bool} {G : Nat → Nat → Nat} {gn : Nat → Nat} {wl : Nat → Nat} {wd : Nat → Nat → Nat} {Y : gM} {al : Nat → Nat → Bool} {N : Nat}
theorem X6_fitOf_eq (hN : 1000 ≤ N) (g : ldC m W bl G gn wl wd Y) (hal : ∀ w, w < W → al 26 w = true) {w c : Nat} (hw : w < W) (hc : c < m) : X6_fitOf al N (nI w) (nI c) Y = some (enc (fitW m bl G gn wl wd w c), Y) := by
  obtain ⟨g1, g2, g3, g4, g5, g6, g7⟩ := g
  obtain ⟨q1, q2, q3, q4, q5⟩ := g7 w hw
  have hdr : dr al 26 (nI w) = some w := dr_nI (hal w hw) (by omega)
  unfold X6_fitOf
  rw [if_neg (zn_nn (by omega)), hdr, Option.bind_some, q3, g1]
  simp (disch := omega) only [zn_add, zn_mul, zn_addl, zn_ladd, zn_mull, zn_lmul, zn_le, zn_lt, zn_eq, zn_lel, zn_ltl, zn_eql, zn_lle, zn_llt, zn_leq, zn_sub, zn_subl, zn_m1]
  by_cases hend : c + wl w ≤ m
  · rw [if_pos hend]
    unfold fitW
    have key : ∀ d k s fu, k + d = wl w → d < fu → s ≤ 81 * k → X6_fitOf_L24 al N (fun Y => X6_fitOf_J49 al N Y) (fun Y => X6_fitOf_J86 al N Y) (fun p3 Y => X6_fitOf_J99 al N p3 Y) fu (nI w) (nI c) (nI s) (nI k) Y = some (enc ((fitF m bl G gn wd w c d k).map (fun x => s + x)), Y) := by
      intro d
      induction d with
      | zero =>
        intro k s fu hk hf hs
        obtain ⟨fu, rfl⟩ : ∃ f', fu = f' + 1 := ⟨fu - 1, by omega⟩
        simp (disch := omega) only [X6_fitOf_L24, hdr, q3, X6_fitOf_J99, zn_add, zn_mul, zn_addl, zn_ladd, zn_mull, zn_lmul, zn_le, zn_lt, zn_eq, zn_lel, zn_ltl, zn_eql, zn_lle, zn_llt, zn_leq, zn_sub, zn_subl, zn_m1, gl_eq, bind2_some, bind3_some, Option.bind_some, bz_0, bz_1, ib_0, ib_1, ib_bz, rd_nI, rd_l, if_pos, if_neg, if_true, if_false, ite_true, ite_false, eq_self, j00, j10, j20, j30, k00, k01, k02, k03, i20, i30, km0, i10, i01, im0, im1, i0m, i1m]
        rfl
      | succ d ih =>
        intro k s fu hk hf hs
        obtain ⟨fu, rfl⟩ : ∃ f', fu = f' + 1 := ⟨fu - 1, by omega⟩
        obtain ⟨r1, r2⟩ := q5 k (by omega)
        obtain ⟨t1, t2, t3⟩ := g4 (c + k) (by omega)
        have ecm : (c + k) * 26 = 26 * (c + k) := Nat.mul_comm _ _
        simp (disch := omega) only [X6_fitOf_L24, hdr, q3, t1, X6_fitOf_J49, X6_fitOf_J86, X6_fitOf_J88, q4, zn_tN, r2, ecm, zn_add, zn_mul, zn_addl, zn_ladd, zn_mull, zn_lmul, zn_le, zn_lt, zn_eq, zn_lel, zn_ltl, zn_eql, zn_lle, zn_llt, zn_leq, zn_sub, zn_subl, zn_m1, gl_eq, bind2_some, bind3_some, Option.bind_some, bz_0, bz_1, ib_0, ib_1, ib_bz, rd_nI, rd_l, if_pos, if_neg, if_true, if_false, ite_true, ite_false, eq_self, j00, j10, j20, j30, k00, k01, k02, k03, i20, i30, km0, i10, i01, im0, im1, i0m, i1m]
        unfold fitF
        rw [if_neg (show ¬ m ≤ c + k by omega)]
        by_cases hb : bl (c + k) = true
        · simp only [if_pos hb]; rfl
        · simp only [if_neg hb]
          obtain ⟨t4, t5⟩ := t2 (Bool.eq_false_iff.mpr hb)
          have t4 := t4 (wd w k) r1
          have hG := g5 (c + k) (wd w k)
          simp (disch := omega) only [t4, t5, zn_add, zn_mul, zn_addl, zn_ladd, zn_mull, zn_lmul, zn_le, zn_lt, zn_eq, zn_lel, zn_ltl, zn_eql, zn_lle, zn_llt, zn_leq, zn_sub, zn_subl, zn_m1, gl_eq, bind2_some, bind3_some, Option.bind_some, bz_0, bz_1, ib_0, ib_1, ib_bz, rd_nI, rd_l, if_pos, if_neg, if_true, if_false, ite_true, ite_false, eq_self, j00, j10, j20, j30, k00, k01, k02, k03, i20, i30, km0, i10, i01, im0, im1, i0m, i1m]
          have hih := ih (k + 1) (s + G (c + k) (wd w k)) fu (by omega) (by omega) (by omega)
          have hmap : ∀ o : Option Nat, Option.map (fun x => s + x) (Option.map (fun x => G (c + k) (wd w k) + x) o) = Option.map (fun x => s + G (c + k) (wd w k) + x) o := fun o => by
            cases o with
            | none => rfl
            | some x => show some (s + (G (c + k) (wd w k) + x)) = some (s + G (c + k) (wd w k) + x); rw [Nat.add_assoc]
          by_cases h1 : G (c + k) (wd w k) = 0
          · rw [if_pos h1]
            by_cases h0 : gn (c + k) ≤ 0
            · rw [if_pos h0, if_neg (fun z => by omega), hmap]
              exact hih
            · rw [if_neg h0, if_pos ⟨h1, by omega⟩]; rfl
          · rw [if_neg h1, if_neg (fun z => h1 z.1), hmap]
            exact hih
    have := key (wl w) 0 0 N (by omega) (by omega) (by omega)
    have hid : (fitF m bl G gn wd w c (wl w) 0).map (fun x => 0 + x) = fitF m bl G gn wd w c (wl w) 0 := by
      cases fitF m bl G gn wd w c (wl w) 0 with
      | none => rfl
      | some x => show some (0 + x) = some x; rw [Nat.zero_add]
    rw [hid] at this
    exact this
  · rw [if_neg hend]
    cases hf : fitW m bl G gn wl wd w c with
    | none => rfl
    | some f =>
      have := (fitF_le m bl G gn wd g5 w c (wl w) 0 f hf).2 (by omega)
      omega
theorem newC_at (g : ldC m W bl G gn wl wd Y) {w c : Nat} (hw : w < W) {i : Nat} (h1 : c ≤ i) : newR wl wd (rwC Y) c w i = if c + wl w ≤ i then Y 38 (c + wl w) i else Y 27 w (i - c) := by
  obtain ⟨q1, q2, q3, q4, q5⟩ := g.2.2.2.2.2.2 w hw
  unfold newR
  by_cases h : c + wl w ≤ i
  · rw [if_neg (by omega), if_pos h]; rfl
  · rw [if_pos (by omega), if_neg h, (q5 (i - c) (by omega)).2]
theorem X6_isLower_eq (hN : 1000 ≤ N) (g : ldC m W bl G gn wl wd Y) {w c : Nat} (hw : w < W) (hc : c < m) (hcw : c + wl w ≤ m) : X6_isLower al N w (nI c) (nI (c + wl w)) Y = some (if lowF (newR wl wd (rwC Y) c w) (rwC Y c) (m - c) c = true then 1 else 0, Y) := by
  have hg := g
  obtain ⟨g1, g2, g3, g4, g5, g6, g7⟩ := g
  obtain ⟨q1, q2, q3, q4, q5⟩ := g7 w hw
  unfold X6_isLower
  have key : ∀ d i fu, i + d = m → c ≤ i → d < fu → X6_isLower_L3 al N (fun p2 p4 p5 Y => X6_isLower_J55 al N p2 p4 p5 Y) (fun Y => X6_isLower_J81 al N Y) fu w (nI c) (nI (c + wl w)) (nI i) Y = some (if lowF (newR wl wd (rwC Y) c w) (rwC Y c) d i = true then 1 else 0, Y) := by
    intro d
    induction d with
    | zero =>
      intro i fu hi hci hf
      obtain ⟨fu, rfl⟩ : ∃ f', fu = f' + 1 := ⟨fu - 1, by omega⟩
      simp (disch := omega) only [X6_isLower_L3, X6_isLower_J81, g1, zn_add, zn_mul, zn_addl, zn_ladd, zn_mull, zn_lmul, zn_le, zn_lt, zn_eq, zn_lel, zn_ltl, zn_eql, zn_lle, zn_llt, zn_leq, zn_sub, zn_subl, zn_m1, gl_eq, bind2_some, bind3_some, Option.bind_some, bz_0, bz_1, ib_0, ib_1, ib_bz, rd_nI, rd_l, if_pos, if_neg, if_true, if_false, ite_true, ite_false, eq_self, j00, j10, j20, j30, k00, k01, k02, k03, i20, i30, km0, i10, i01, im0, im1, i0m, i1m]
      rfl
    | succ d ih =>
      intro i fu hi hci hf
      obtain ⟨fu, rfl⟩ : ∃ f', fu = f' + 1 := ⟨fu - 1, by omega⟩
      have hnew := newC_at hg hw hci
      have hih := ih (i + 1) fu (by omega) (by omega) (by omega)
      have hcom : ∀ v, v = newR wl wd (rwC Y) c w i → X6_isLower_J39 al N (X6_isLower_L3 al N (fun p2 p4 p5 Y => X6_isLower_J55 al N p2 p4 p5 Y) (fun Y => X6_isLower_J81 al N Y) fu) (fun p2 p4 p5 Y => X6_isLower_J55 al N p2 p4 p5 Y) (fun Y => X6_isLower_J81 al N Y) w (nI c) (nI (c + wl w)) (nI i) v Y = some (if lowF (newR wl wd (rwC Y) c w) (rwC Y c) (d + 1) i = true then 1 else 0, Y) := by
        intro v hv
        subst hv
        unfold X6_isLower_J39
        simp (disch := omega) only [zn_add, zn_mul, zn_addl, zn_ladd, zn_mull, zn_lmul, zn_le, zn_lt, zn_eq, zn_lel, zn_ltl, zn_eql, zn_lle, zn_llt, zn_leq, zn_sub, zn_subl, zn_m1, gl_eq, bind2_some, bind3_some, Option.bind_some, bz_0, bz_1, ib_0, ib_1, ib_bz, rd_nI, rd_l, if_pos, if_neg, if_true, if_false, ite_true, ite_false, eq_self, j00, j10, j20, j30, k00, k01, k02, k03, i20, i30, km0, i10, i01, im0, im1, i0m, i1m, hih]
        have er : Y 38 c i = rwC Y c i := rfl
        rw [er]
        rw [show lowF (newR wl wd (rwC Y) c w) (rwC Y c) (d + 1) i = (if newR wl wd (rwC Y) c w i = rwC Y c i then lowF (newR wl wd (rwC Y) c w) (rwC Y c) d (i + 1) else decide (newR wl wd (rwC Y) c w i < rwC Y c i)) from rfl]
        by_cases he : newR wl wd (rwC Y) c w i = rwC Y c i
        · rw [if_pos he, if_pos he]
        · rw [if_neg he, if_neg he]
          unfold X6_isLower_J55 X6_isLower_J74
          simp (disch := omega) only [zn_add, zn_mul, zn_addl, zn_ladd, zn_mull, zn_lmul, zn_le, zn_lt, zn_eq, zn_lel, zn_ltl, zn_eql, zn_lle, zn_llt, zn_leq, zn_sub, zn_subl, zn_m1, gl_eq, bind2_some, bind3_some, Option.bind_some, bz_0, bz_1, ib_0, ib_1, ib_bz, rd_nI, rd_l, if_pos, if_neg, if_true, if_false, ite_true, ite_false, eq_self, j00, j10, j20, j30, k00, k01, k02, k03, i20, i30, km0, i10, i01, im0, im1, i0m, i1m]
          rw [er]
          by_cases hl : rwC Y c i ≤ newR wl wd (rwC Y) c w i
          · rw [if_pos hl, decide_eq_false (not_lt32.mpr hl)]; rfl
          · rw [if_neg hl, decide_eq_true (not_le32.mp hl)]; rfl
      simp (disch := omega) only [X6_isLower_L3, g1, q4, zn_tN, zn_add, zn_mul, zn_addl, zn_ladd, zn_mull, zn_lmul, zn_le, zn_lt, zn_eq, zn_lel, zn_ltl, zn_eql, zn_lle, zn_llt, zn_leq, zn_sub, zn_subl, zn_m1, gl_eq, bind2_some, bind3_some, Option.bind_some, bz_0, bz_1, ib_0, ib_1, ib_bz, rd_nI, rd_l, if_pos, if_neg, if_true, if_false, ite_true, ite_false, eq_self, j00, j10, j20, j30, k00, k01, k02, k03, i20, i30, km0, i10, i01, im0, im1, i0m, i1m]
      by_cases h : c + wl w ≤ i
      · rw [if_pos h] at hnew ⊢
        exact hcom _ hnew.symm
      · rw [if_neg h] at hnew ⊢
        try simp (disch := omega) only [zn_add, zn_mul, zn_addl, zn_ladd, zn_mull, zn_lmul, zn_le, zn_lt, zn_eq, zn_lel, zn_ltl, zn_eql, zn_lle, zn_llt, zn_leq, zn_sub, zn_subl, zn_m1, gl_eq, bind2_some, bind3_some, Option.bind_some, bz_0, bz_1, ib_0, ib_1, ib_bz, rd_nI, rd_l, if_pos, if_neg, if_true, if_false, ite_true, ite_false, eq_self, j00, j10, j20, j30, k00, k01, k02, k03, i20, i30, km0, i10, i01, im0, im1, i0m, i1m]
        exact hcom _ hnew.symm
  exact key (m - c) c N (by omega) (Nat.le_refl c) (by omega)
theorem X6_makeFirst_eq (hN : 1000 ≤ N) (g : ldC m W bl G gn wl wd Y) {w c : Nat} (hw : w < W) (hc : c < m) (hcw : c + wl w ≤ m) : ∃ Z, X6_makeFirst al N w (nI c) (nI (c + wl w)) Y = some (0, Z) ∧ (∀ k p j, ¬ (k = 38 ∧ p = c) → Z k p j = Y k p j) ∧ ∀ k, c ≤ k → k < m → Z 38 c k = newR wl wd (rwC Y) c w k := by
  have hg := g
  obtain ⟨g1, g2, g3, g4, g5, g6, g7⟩ := g
  obtain ⟨q1, q2, q3, q4, q5⟩ := g7 w hw
  unfold X6_makeFirst
  refine m_up m (fun fu i (Z : gM) => X6_makeFirst_L3 al N (fun Y => X6_makeFirst_J54 al N Y) fu w (nI c) (nI (c + wl w)) i Z)
    (fun i Z => c ≤ i ∧ (∀ k p j, ¬ (k = 38 ∧ p = c) → Z k p j = Y k p j) ∧ ∀ k, c ≤ k → k < i → Z 38 c k = newR wl wd (rwC Y) c w k) (fun o => ∃ Z, o = some (0, Z) ∧ (∀ k p j, ¬ (k = 38 ∧ p = c) → Z k p j = Y k p j) ∧ ∀ k, c ≤ k → k < m → Z 38 c k = newR wl wd (rwC Y) c w k) ?_ ?_ (m - c) c N Y (by omega) (by omega) ⟨Nat.le_refl c, fun _ _ _ _ => rfl, fun k h1 h2 => absurd h1 (by omega)⟩
  · rintro i fu Z hi ⟨hci, h1, h2⟩ ih
    have hnew := newC_at hg hw hci
    have e29 : Z 29 0 0 = nI m := (h1 29 0 0 (by omega)).trans g1
    have e99 : Z 27 w 99 = nI (wl w) := (h1 27 w 99 (by omega)).trans q4
    have hstep : ∀ v, v = newR wl wd (rwC Y) c w i → c ≤ i + 1 ∧ (∀ k p j, ¬ (k = 38 ∧ p = c) → (mset Z 38 c i v) k p j = Y k p j) ∧ ∀ k, c ≤ k → k < i + 1 → (mset Z 38 c i v) 38 c k = newR wl wd (rwC Y) c w k := by
      intro v hv
      refine ⟨by omega, fun k p j hk => ?_, fun k hk1 hk2 => ?_⟩
      · rw [mset_at, if_neg (by omega), h1 k p j hk]
      · rw [mset_at]
        by_cases hki : k = i
        · subst hki; rw [if_pos ⟨rfl, rfl, rfl⟩, hv]
        · rw [if_neg (by omega)]; exact h2 k hk1 (by omega)
    simp (disch := omega) only [X6_makeFirst_L3, X6_makeFirst_J47, e29, e99, zn_tN, zn_add, zn_mul, zn_addl, zn_ladd, zn_mull, zn_lmul, zn_le, zn_lt, zn_eq, zn_lel, zn_ltl, zn_eql, zn_lle, zn_llt, zn_leq, zn_sub, zn_subl, zn_m1, gl_eq, bind2_some, bind3_some, Option.bind_some, bz_0, bz_1, ib_0, ib_1, ib_bz, rd_nI, rd_l, if_pos, if_neg, if_true, if_false, ite_true, ite_false, eq_self, j00, j10, j20, j30, k00, k01, k02, k03, i20, i30, km0, i10, i01, im0, im1, i0m, i1m]
    by_cases h : c + wl w ≤ i
    · rw [if_pos h] at hnew ⊢
      have r38 : Z 38 (c + wl w) i = Y 38 (c + wl w) i := h1 38 _ i (by omega)
      exact ih _ (hstep _ (r38.trans hnew.symm))
    · rw [if_neg h] at hnew ⊢
      have r27 : Z 27 w (i - c) = Y 27 w (i - c) := h1 27 w _ (by omega)
      try simp (disch := omega) only [zn_add, zn_mul, zn_addl, zn_ladd, zn_mull, zn_lmul, zn_le, zn_lt, zn_eq, zn_lel, zn_ltl, zn_eql, zn_lle, zn_llt, zn_leq, zn_sub, zn_subl, zn_m1, gl_eq, bind2_some, bind3_some, Option.bind_some, bz_0, bz_1, ib_0, ib_1, ib_bz, rd_nI, rd_l, if_pos, if_neg, if_true, if_false, ite_true, ite_false, eq_self, j00, j10, j20, j30, k00, k01, k02, k03, i20, i30, km0, i10, i01, im0, im1, i0m, i1m]
      exact ih _ (hstep _ (r27.trans hnew.symm))
  · rintro fu Z ⟨-, h1, h2⟩
    have e29 : Z 29 0 0 = nI m := (h1 29 0 0 (by omega)).trans g1
    simp (disch := omega) only [X6_makeFirst_L3, X6_makeFirst_J54, e29, zn_add, zn_mul, zn_addl, zn_ladd, zn_mull, zn_lmul, zn_le, zn_lt, zn_eq, zn_lel, zn_ltl, zn_eql, zn_lle, zn_llt, zn_leq, zn_sub, zn_subl, zn_m1, gl_eq, bind2_some, bind3_some, Option.bind_some, bz_0, bz_1, ib_0, ib_1, ib_bz, rd_nI, rd_l, if_pos, if_neg, if_true, if_false, ite_true, ite_false, eq_self, j00, j10, j20, j30, k00, k01, k02, k03, i20, i30, km0, i10, i01, im0, im1, i0m, i1m]
    exact ⟨Z, rfl, h1, h2⟩
theorem rc_word (hN : 1000 ≤ N) {Z : gM} (g : ldC m W bl G gn wl wd Z) {S : (Nat → Option Nat) × (Nat → Int32) × (Nat → Nat → Int32)} {c w f : Nat} (hc : c < m) (hw : w < W) (hf : fitW m bl G gn wl wd w c = some f) (hS : bhB m S (c + 1))
    (hr : rdR m (c + 1) (Z 35 0) (Z 36 0) (rwC Z) S) {s : Option Nat × Int32 × (Nat → Int32)} (hs : clR m c (Z 35 0) (Z 36 0) (rwC Z) s) (hsb : ∀ b, s.1 = some b → b ≤ 81 * (m - c)) :
    ∃ Z', X6_tryWord al N w (nI f) (nI c) Z = some (0, Z') ∧ (∀ k p j, ¬ (((k = 35 ∨ k = 36) ∧ p = 0 ∧ j = c) ∨ (k = 38 ∧ p = c)) → Z' k p j = Z k p j) ∧ clR m c (Z' 35 0) (Z' 36 0) (rwC Z') (stW m bl G gn wl wd S.1 S.2.1 S.2.2 c w s) := by
  have hg := g
  obtain ⟨g1, g2, g3, g4, g5, g6, g7⟩ := g
  obtain ⟨q1, q2, q3, q4, q5⟩ := g7 w hw
  obtain ⟨b1, b2⟩ := fitF_le m bl G gn wd g5 w c (wl w) 0 f hf
  have b2 : c + wl w ≤ m := by have := b2 (by omega); omega
  obtain ⟨s1, s2, s3⟩ := hs
  have hstay : (stW m bl G gn wl wd S.1 S.2.1 S.2.2 c w s = s) → ∃ Z', (some ((0 : Int32), Z) : Option (Int32 × gM)) = some (0, Z') ∧ (∀ k p j, ¬ (((k = 35 ∨ k = 36) ∧ p = 0 ∧ j = c) ∨ (k = 38 ∧ p = c)) → Z' k p j = Z k p j) ∧ clR m c (Z' 35 0) (Z' 36 0) (rwC Z') (stW m bl G gn wl wd S.1 S.2.1 S.2.2 c w s) := fun he => by
    refine ⟨Z, rfl, fun _ _ _ _ => rfl, ?_⟩
    rw [he]; exact ⟨s1, s2, s3⟩
  unfold X6_tryWord
  simp only [gl_eq, q3, zn_add, g1]
  rw [if_neg (fun z => by have := (zn_lt (by omega) (by omega)).mp z; omega), rd_nI (by omega) (by omega), Option.bind_some]
  obtain ⟨r1, r2, r3⟩ := hr (c + wl w) (by omega) (by omega)
  rw [r1]
  cases hb : S.1 (c + wl w) with
  | none =>
    rw [show enc (none : Option Nat) = -1 from rfl, if_pos rfl]
    exact hstay (by unfold stW; rw [hf, hb])
  | some gg =>
    have hgg := hS (c + wl w) gg (by omega) (by omega) hb
    have r3 := r3 (by rw [hb]; exact fun z => by cases z)
    rw [hb] at r1
    have hrow : ∀ k, k < m → newR wl wd (rwC Z) c w k = newR wl wd S.2.2 c w k := fun k hk => newR_cg (fun k h1 h2 => r3 k h1 h2) hk
    have e35 : Z 35 0 c = enc s.1 := s1
    have hgt : ∀ n2 : Int32, n2 = S.2.1 (c + wl w) → stW m bl G gn wl wd S.1 S.2.1 S.2.2 c w s = (some (f + gg), S.2.1 (c + wl w), newR wl wd S.2.2 c w) → ∃ Z', (bind2 (X6_makeFirst al N w (nI c) (nI (c + wl w)) (mset (mset Z 35 0 c (nI (f + gg))) 36 0 c n2)) fun r42 X43 => X6_tryWord_J130 al N X43) = some (0, Z') ∧ (∀ k p j, ¬ (((k = 35 ∨ k = 36) ∧ p = 0 ∧ j = c) ∨ (k = 38 ∧ p = c)) → Z' k p j = Z k p j) ∧ clR m c (Z' 35 0) (Z' 36 0) (rwC Z') (stW m bl G gn wl wd S.1 S.2.1 S.2.2 c w s) := by
      intro n2 hn2 hst
      generalize hZ1 : mset (mset Z 35 0 c (nI (f + gg))) 36 0 c n2 = Z1
      have f1 : ∀ k p j, ¬ ((k = 35 ∨ k = 36) ∧ p = 0 ∧ j = c) → Z1 k p j = Z k p j := fun k p j hk => by
        rw [← hZ1]
        simp only [mset_at]
        rw [if_neg (by omega), if_neg (by omega)]
      obtain ⟨Z2, t1, t2, t3⟩ := X6_makeFirst_eq (al := al) hN (ldC_cg (fun k p j hk => f1 k p j (by omega)) hg) hw hc b2
      rw [t1, bind2_some]
      refine ⟨Z2, rfl, fun k p j hk => by rw [t2 k p j (by omega), f1 k p j (by omega)], ?_⟩
      rw [hst]
      refine ⟨?_, ?_, fun _ k h1 h2 => ?_⟩
      · rw [t2 35 0 c (by omega), ← hZ1, mset_at, if_neg (by omega), mset_same]; rfl
      · rw [t2 36 0 c (by omega), ← hZ1, mset_same, hn2]
      · show Z2 38 c k = _
        rw [t3 k h1 h2]
        have : rwC Z1 = rwC Z := by
          funext c' k'
          exact f1 38 c' k' (by omega)
        rw [this]
        exact hrow k h2
    rw [show enc (some gg) = nI gg from rfl, if_neg (zn_ne1 (by omega)), rd_nI (by omega) (by omega), Option.bind_some]
    have r1' : Z 35 0 (c + wl w) = nI gg := r1
    simp (disch := omega) only [r1', rd_nI, Option.bind_some, zn_add, e35]
    cases hs1 : s.1 with
    | none =>
      have hst : stW m bl G gn wl wd S.1 S.2.1 S.2.2 c w s = (some (f + gg), S.2.1 (c + wl w), newR wl wd S.2.2 c w) := by
        unfold stW
        rw [hf, hb, hs1]
      have hm1 : (-1 : Int32) ≤ nI (f + gg) := by
        rw [Int32.le_iff_toInt_le, zn_tI (by omega)]
        have h2 : (-1 : Int32).toInt = -1 := rfl
        omega
      have hm2 : ¬ nI (f + gg) ≤ -1 := fun z => by
        have := Int32.le_iff_toInt_le.mp z
        rw [zn_tI (by omega)] at this
        have h2 : (-1 : Int32).toInt = -1 := rfl
        omega
      have e36 : (mset Z 35 0 c (nI (f + gg))) 36 0 (c + wl w) = Z 36 0 (c + wl w) := by rw [mset_at, if_neg (by omega)]
      simp (disch := omega) only [show enc (none : Option Nat) = -1 from rfl, if_pos hm1, if_neg hm2, e36]
      exact hgt _ r2 hst
    | some b =>
      have hbb := hsb b hs1
      simp (disch := omega) only [show enc (some b) = nI b from rfl, zn_le]
      by_cases hlt : f + gg < b
      · rw [if_neg (by omega)]
        exact hstay (by unfold stW; rw [hf, hb, hs1]; dsimp only; rw [if_pos hlt])
      · rw [if_pos (by omega)]
        by_cases heq : f + gg = b
        · rw [if_pos (by omega)]
          have hst : stW m bl G gn wl wd S.1 S.2.1 S.2.2 c w s = (some (f + gg), s.2.1 + S.2.1 (c + wl w), if lowF (newR wl wd S.2.2 c w) s.2.2 (m - c) c = true then newR wl wd S.2.2 c w else s.2.2) := by
            unfold stW
            rw [hf, hb, hs1]
            dsimp only
            rw [if_neg hlt, if_pos heq, heq]
          have hrc : ∀ k, c ≤ k → k < m → rwC Z c k = s.2.2 k := s3 (by rw [hs1]; exact fun z => by cases z)
          generalize hZ1 : mset Z 36 0 c (Z 36 0 c + Z 36 0 (c + wl w)) = Z1
          have f1 : ∀ k p j, ¬ (k = 36 ∧ p = 0 ∧ j = c) → Z1 k p j = Z k p j := fun k p j hk => by
            rw [← hZ1, mset_at, if_neg hk]
          have e36 : Z1 36 0 c = s.2.1 + S.2.1 (c + wl w) := by rw [← hZ1, mset_same, s2, r2]
          have hld : ldC m W bl G gn wl wd Z1 := ldC_cg (fun k p j hk => f1 k p j (by omega)) hg
          have hrw : rwC Z1 = rwC Z := by
            funext c' k'
            exact f1 38 c' k' (by omega)
          have hlow := X6_isLower_eq (al := al) hN hld hw hc b2
          have hlf : lowF (newR wl wd (rwC Z1) c w) (rwC Z1 c) (m - c) c = lowF (newR wl wd S.2.2 c w) s.2.2 (m - c) c := by
            rw [hrw]
            exact lowF_cg (m - c) c (fun i h1 h2 => ⟨hrow i (by omega), hrc i h1 (by omega)⟩)
          rw [hlf] at hlow
          rw [hlow, bind2_some, ib_0]
          by_cases hl : lowF (newR wl wd S.2.2 c w) s.2.2 (m - c) c = true
          · rw [if_pos hl] at hst ⊢
            obtain ⟨Z2, t1, t2, t3⟩ := X6_makeFirst_eq (al := al) hN hld hw hc b2
            rw [t1, bind2_some]
            refine ⟨Z2, rfl, fun k p j hk => by rw [t2 k p j (by omega), f1 k p j (by omega)], ?_⟩
            rw [hst]
            refine ⟨?_, ?_, fun _ k h1 h2 => ?_⟩
            · rw [t2 35 0 c (by omega), f1 35 0 c (by omega), e35, hs1, heq]
            · rw [t2 36 0 c (by omega), e36]
            · show Z2 38 c k = _
              rw [t3 k h1 h2, hrw]
              exact hrow k h2
          · rw [if_neg hl] at hst ⊢
            refine ⟨Z1, rfl, fun k p j hk => f1 k p j (by omega), ?_⟩
            rw [hst]
            refine ⟨?_, e36, fun _ k h1 h2 => ?_⟩
            · rw [f1 35 0 c (by omega), e35, hs1, heq]
            · rw [hrw]; exact hrc k h1 h2
        · rw [if_neg (by omega)]
          have hst : stW m bl G gn wl wd S.1 S.2.1 S.2.2 c w s = (some (f + gg), S.2.1 (c + wl w), newR wl wd S.2.2 c w) := by
            unfold stW
            rw [hf, hb, hs1]
            dsimp only
            rw [if_neg hlt, if_neg heq]
          have e36 : (mset Z 35 0 c (nI (f + gg))) 36 0 (c + wl w) = Z 36 0 (c + wl w) := by rw [mset_at, if_neg (by omega)]
          rw [e36]
          exact hgt _ r2 hst
end
