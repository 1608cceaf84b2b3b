/-! reading a line: the loops of the reference -/
section
variable {m W : Nat} {bl : Nat → Bool} {G : Nat → Nat → Nat} {gn : Nat → Nat} {wl : Nat → Nat} {wd : Nat → Nat → Nat} {al : Nat → Nat → Bool} {N : Nat}
theorem newR_cg {row row' : Nat → Nat → Int32} {c w : Nat} (h : ∀ k, c + wl w ≤ k → k < m → row (c + wl w) k = row' (c + wl w) k) {k : Nat} (hk : k < m) : newR wl wd row c w k = newR wl wd row' c w k := by
  unfold newR
  by_cases q : k < c + wl w
  · rw [if_pos q, if_pos q]
  · rw [if_neg q, if_neg q]; exact h k (by omega) hk
theorem rm_word (hN : 1000 ≤ N) {Z : gM} (g : ldM m W bl G gn wl wd Z) {S : (Nat → Option Nat) × (Nat → Int32) × (Nat → Nat → Int32)} {c w f : Nat} (hc : c < m) (hw : w < W) (hf : fitW m bl G gn wl wd w c = some f) (hS : bhB m S (c + 1))
    (hr : rdR m (c + 1) (Z 68 0) (Z 70 0) (rwM Z) S) {s : Option Nat × Int32 × (Nat → Int32)} (hs : clR m c (Z 68 0) (Z 70 0) (rwM Z) s) (hsb : ∀ b, s.1 = some b → b ≤ 81 * (m - c))
    {kk : Int32 → Int32 → Int32 → gM → Option (Int32 × gM)} {k497 : Int32 → Int32 → gM → Option (Int32 × gM)} (Q : Option (Int32 × gM) → Prop)
    (hQ : ∀ Z', (∀ k p j, ¬ (((k = 68 ∨ k = 70) ∧ p = 0 ∧ j = c) ∨ (k = 71 ∧ p = 0 ∧ 9 * c ≤ j ∧ j < 8 * c + m)) → Z' k p j = Z k p j) → clR m c (Z' 68 0) (Z' 70 0) (rwM Z') (stW m bl G gn wl wd S.1 S.2.1 S.2.2 c w s) → Q (kk (nI m) (nI c) (nI (w + 1)) Z')) :
    Q (X10_reads_J367 al N kk k497 (nI m) (nI c) (nI w) (nI f) (enc (S.1 (c + wl w))) Z) := by
  have hg := g
  obtain ⟨g1, g2, g3, g4, g5, g6⟩ := g
  obtain ⟨q1, q2, q3, q4⟩ := g6 w hw
  obtain ⟨b1, b2⟩ := fitF_le m bl G gn wd g5 w c (wl w) 0 f hf
  have b2 : c + wl w ≤ m := by have := b2 (by omega); omega
  obtain ⟨s1, s2, s3⟩ := hs
  have hstay : (stW m bl G gn wl wd S.1 S.2.1 S.2.2 c w s = s) → Q (X10_reads_J491 al N kk k497 (nI m) (nI c) (nI w) Z) := by
    intro he
    unfold X10_reads_J491
    simp only [gl_eq, zn_addl]
    exact hQ Z (fun _ _ _ _ => rfl) (by rw [he]; exact ⟨s1, s2, s3⟩)
  unfold X10_reads_J367
  cases hb : S.1 (c + wl w) with
  | none =>
    rw [show enc (none : Option Nat) = -1 from rfl, if_pos rfl]
    exact hstay (by unfold stW; rw [hf, hb])
  | some gg =>
    have hgg := hS (c + wl w) gg (by omega) (by omega) hb
    obtain ⟨r1, r2, r3⟩ := hr (c + wl w) (by omega) (by omega)
    have r3 := r3 (by rw [hb]; exact fun z => by cases z)
    have hrow : ∀ k, k < m → newR wl wd (rwM Z) c w k = newR wl wd S.2.2 c w k := fun k hk => newR_cg (fun k h1 h2 => r3 k h1 h2) hk
    have hset : ∀ (n2 : Int32) (Z1 : gM), Z1 = mset (mset Z 70 0 c n2) 68 0 c (nI (f + gg)) → ∀ r, stW m bl G gn wl wd S.1 S.2.1 S.2.2 c w s = (some (f + gg), n2, r) →
        ((∀ k, c ≤ k → k < m → newR wl wd (rwM Z) c w k = r k) → Q (X10_reads_J481 al N kk k497 (nI m) (nI c) (nI w) Z1)) ∧ ((∀ k, c ≤ k → k < m → rwM Z c k = r k) → Q (X10_reads_J491 al N kk k497 (nI m) (nI c) (nI w) Z1)) := by
      intro n2 Z1 hZ1 r hst
      have f1 : ∀ k p j, ¬ ((k = 68 ∨ k = 70) ∧ p = 0 ∧ j = c) → Z1 k p j = Z k p j := fun k p j hk => by
        rw [hZ1]
        simp only [mset_at]
        rw [if_neg (by omega), if_neg (by omega)]
      have e68 : Z1 68 0 c = nI (f + gg) := by rw [hZ1, mset_same]
      have e70 : Z1 70 0 c = n2 := by rw [hZ1, mset_at, if_neg (by omega), mset_same]
      refine ⟨fun hr1 => ?_, fun hr1 => ?_⟩
      · obtain ⟨Z2, t1, t2, t3⟩ := X10_takes_eq (al := al) (Y := Z1) hN (ldM_cg (fun k p j hk => f1 k p j (by omega)) hg) hw b2
        unfold X10_reads_J481 X10_reads_J491
        simp only [t1, bind2_some, gl_eq, zn_addl]
        refine hQ Z2 (fun k p j hk => ?_) ?_
        · rw [t2 k p j (by omega), f1 k p j (by omega)]
        · rw [hst]
          refine ⟨?_, ?_, fun _ k h1 h2 => ?_⟩
          · rw [t2 68 0 c (by omega), e68]; rfl
          · rw [t2 70 0 c (by omega), e70]
          · show Z2 71 0 (8 * c + k) = r k
            rw [t3 k h1 h2, ← hr1 k h1 h2]
            congr 1
            funext c' k'
            exact f1 71 0 _ (by omega)
      · unfold X10_reads_J491
        simp only [gl_eq, zn_addl]
        refine hQ Z1 (fun k p j hk => f1 k p j (by omega)) ?_
        rw [hst]
        refine ⟨e68, e70, fun _ k h1 h2 => ?_⟩
        show Z1 71 0 (8 * c + k) = r k
        rw [f1 71 0 _ (by omega)]
        exact hr1 k h1 h2
    have e68 : Z 68 0 c = enc s.1 := s1
    rw [show enc (some gg) = nI gg from rfl, if_neg (zn_ne1 (by omega))]
    cases hs1 : s.1 with
    | none =>
      have hst : stW m bl G gn wl wd S.1 S.2.1 S.2.2 c w s = (some (f + gg), S.2.1 (c + wl w), newR wl wd S.2.2 c w) := by
        unfold stW
        rw [hf, hb, hs1]
      have hm1 : ¬ nI (f + gg) < -1 := fun z => by
        have := Int32.lt_iff_toInt_lt.mp z
        rw [zn_tI (by omega)] at this
        have h2 : (-1 : Int32).toInt = -1 := rfl
        omega
      have hm2 : ¬ nI (f + gg) ≤ -1 := fun z => by
        have := Int32.le_iff_toInt_le.mp z
        rw [zn_tI (by omega)] at this
        have h2 : (-1 : Int32).toInt = -1 := rfl
        omega
      have := (hset (0 + Z 70 0 (c + wl w)) _ rfl (newR wl wd S.2.2 c w) (by rw [hst, Int32.zero_add, r2])).1 (fun k _ h2 => hrow k h2)
      simp (disch := omega) only [rd_nI, Option.bind_some, zn_add, e68, hs1, show enc (none : Option Nat) = -1 from rfl, if_neg hm1, if_neg hm2, X10_reads_J410, i10, if_false, X10_reads_J434, q3, gl_eq]
      exact this
    | some b =>
      have hbb := hsb b hs1
      simp (disch := omega) only [rd_nI, Option.bind_some, zn_add, e68, hs1, show enc (some b) = nI b from rfl, zn_lt, zn_le]
      by_cases hlt : f + gg < b
      · rw [if_pos hlt]
        exact hstay (by unfold stW; rw [hf, hb, hs1]; simp only [if_pos hlt])
      · rw [if_neg hlt]
        by_cases heq : f + gg = b
        · rw [if_pos (by omega)]
          have hst : stW m bl G gn wl wd S.1 S.2.1 S.2.2 c w s = (some (f + gg), s.2.1 + S.2.1 (c + wl w), if lowF (newR wl wd S.2.2 c w) s.2.2 (m - c) c = true then newR wl wd S.2.2 c w else s.2.2) := by
            unfold stW
            rw [hf, hb, hs1]
            dsimp only
            rw [if_neg hlt, if_pos heq, heq]
          have hrc : ∀ k, c ≤ k → k < m → rwM Z c k = s.2.2 k := s3 (by rw [hs1]; exact fun z => by cases z)
          have hQ2 := hset (Z 70 0 c + Z 70 0 (c + wl w)) _ rfl _ (by rw [hst, s2, r2])
          have hld : ldM m W bl G gn wl wd (mset (mset Z 70 0 c (Z 70 0 c + Z 70 0 (c + wl w))) 68 0 c (nI (f + gg))) := ldM_cg (fun k p j hk => by simp only [mset_at]; rw [if_neg (by omega), if_neg (by omega)]) hg
          have hlow := X10_isLower_eq (al := al) hN hld hw b2
          have hlf : lowF (newR wl wd (rwM (mset (mset Z 70 0 c (Z 70 0 c + Z 70 0 (c + wl w))) 68 0 c (nI (f + gg)))) c w) (rwM (mset (mset Z 70 0 c (Z 70 0 c + Z 70 0 (c + wl w))) 68 0 c (nI (f + gg))) c) (m - c) c = lowF (newR wl wd S.2.2 c w) s.2.2 (m - c) c := by
            have e71 : rwM (mset (mset Z 70 0 c (Z 70 0 c + Z 70 0 (c + wl w))) 68 0 c (nI (f + gg))) = rwM Z := by
              funext c' k'
              show (mset (mset Z 70 0 c (Z 70 0 c + Z 70 0 (c + wl w))) 68 0 c (nI (f + gg))) 71 0 (8 * c' + k') = Z 71 0 (8 * c' + k')
              simp only [mset_at]
              rw [if_neg (by omega), if_neg (by omega)]
            rw [e71]
            exact lowF_cg (m - c) c (fun i h1 h2 => ⟨hrow i (by omega), hrc i h1 (by omega)⟩)
          rw [hlf] at hlow
          simp (disch := omega) only [X10_reads_J410, eq_self, if_true, X10_reads_J434, rd_nI, Option.bind_some, zn_add, q3, gl_eq, hlow, bind2_some, ib_0]
          by_cases hl : lowF (newR wl wd S.2.2 c w) s.2.2 (m - c) c = true
          · rw [if_pos hl] at hQ2 ⊢
            exact hQ2.1 (fun k _ h2 => hrow k h2)
          · rw [if_neg hl] at hQ2 ⊢
            exact hQ2.2 hrc
        · rw [if_neg (by omega)]
          have hst : stW m bl G gn wl wd S.1 S.2.1 S.2.2 c w s = (some (f + gg), S.2.1 (c + wl w), newR wl wd S.2.2 c w) := by
            unfold stW
            rw [hf, hb, hs1]
            simp only [if_neg hlt, if_neg heq]
          have := (hset (0 + Z 70 0 (c + wl w)) _ rfl (newR wl wd S.2.2 c w) (by rw [hst, Int32.zero_add, r2])).1 (fun k _ h2 => hrow k h2)
          simp (disch := omega) only [X10_reads_J410, i10, if_false, X10_reads_J434, rd_nI, Option.bind_some, zn_add, q3, gl_eq]
          exact this
theorem rm_cell (hN : 1000 ≤ N) {Y : gM} (g : ldM m W bl G gn wl wd Y) {S : (Nat → Option Nat) × (Nat → Int32) × (Nat → Nat → Int32)} {c : Nat} (hc : c < m) (hb : bl c = false) (hS : bhB m S (c + 1))
    (hr : rdR m (c + 1) (Y 68 0) (Y 70 0) (rwM Y) S) (h68 : Y 68 0 c = -1) (h70 : Y 70 0 c = 0) {k497 : Int32 → Int32 → gM → Option (Int32 × gM)} (Q : Option (Int32 × gM) → Prop)
    (hQ : ∀ Z, (∀ k p j, ¬ (((k = 68 ∨ k = 70) ∧ p = 0 ∧ j = c) ∨ (k = 71 ∧ p = 0 ∧ 9 * c ≤ j ∧ j < 8 * c + m)) → Z k p j = Y k p j) → clR m c (Z 68 0) (Z 70 0) (rwM Z) (cellF m bl G gn wl wd S.1 S.2.1 S.2.2 c W) → Q (k497 (nI m) (nI c) Z)) :
    Q (X10_reads_L311 al N k497 N (nI m) (nI c) 0 Y) := by
  have hg := g
  obtain ⟨g1, g2, g3, g4, g5, g6⟩ := g
  refine m_up0 W (fun fu i (Z : gM) => X10_reads_L311 al N k497 fu (nI m) (nI c) i Z) (fun w Z => (∀ k p j, ¬ (((k = 68 ∨ k = 70) ∧ p = 0 ∧ j = c) ∨ (k = 71 ∧ p = 0 ∧ 9 * c ≤ j ∧ j < 8 * c + m)) → Z k p j = Y k p j) ∧ clR m c (Z 68 0) (Z 70 0) (rwM Z) (cellF m bl G gn wl wd S.1 S.2.1 S.2.2 c w)) Q Y (by omega) ?_ ?_ ⟨fun _ _ _ _ => rfl, h68, h70, fun h => absurd rfl h⟩
  · rintro w fu Z hw ⟨h1, h2⟩ ih
    have hgZ : ldM m W bl G gn wl wd Z := ldM_cg (fun k p j hk => h1 k p j (by omega)) hg
    obtain ⟨q1, q2, q3, q4⟩ := hgZ.2.2.2.2.2 w hw
    have e17 := hgZ.1
    have e72 := (hgZ.2.2.2.1 c hc).1
    rw [hb, if_neg (by decide)] at e72
    have hrZ : rdR m (c + 1) (Z 68 0) (Z 70 0) (rwM Z) S := by
      intro x hx1 hx2
      obtain ⟨r1, r2, r3⟩ := hr x hx1 hx2
      refine ⟨(h1 68 0 x (by omega)).trans r1, (h1 70 0 x (by omega)).trans r2, fun hn k hk1 hk2 => ?_⟩
      show Z 71 0 (8 * x + k) = _
      rw [h1 71 0 _ (by omega)]
      exact r3 hn k hk1 hk2
    have hsb := cellF_le m W bl G gn wl wd g5 (fun w hw => (g6 w hw).1) (beh := S.1) (bst := S.2.1) (row := S.2.2) (c := c) (fun c' g' h1 h2 h3 => hS c' g' (by omega) h2 h3) w (by omega)
    simp (disch := omega) only [X10_reads_L311, e17, e72, X10_weightAt_eq hN hgZ hw hc, zn_add, zn_mul, zn_addl, zn_ladd, zn_mull, zn_lmul, zn_le, zn_lt, zn_eq, zn_lel, zn_ltl, zn_eql, zn_lle, zn_llt, zn_leq, zn_sub, zn_subl, zn_m1, gl_eq, bind2_some, bind3_some, Option.bind_some, bz_0, bz_1, ib_0, ib_1, ib_bz, rd_nI, rd_l, if_pos, if_neg, if_true, if_false, ite_true, ite_false, eq_self, j00, j10, j20, j30, k00, k01, k02, k03, i20, i30, km0, i10, i01, im0, im1, i0m, i1m]
    have hnone : (∀ s, stW m bl G gn wl wd S.1 S.2.1 S.2.2 c w s = s) → ∀ v, Q (X10_reads_J367 al N (X10_reads_L311 al N k497 fu) k497 (nI m) (nI c) (nI w) v (-1) Z) := fun he v => by
      unfold X10_reads_J367 X10_reads_J491
      simp only [eq_self, if_true, gl_eq, zn_addl]
      exact ih Z ⟨h1, by
        have : cellF m bl G gn wl wd S.1 S.2.1 S.2.2 c (w + 1) = cellF m bl G gn wl wd S.1 S.2.1 S.2.2 c w := he _
        rw [this]; exact h2⟩
    cases hf : fitW m bl G gn wl wd w c with
    | none =>
      rw [show enc (none : Option Nat) = -1 from rfl, if_pos rfl]
      exact hnone (fun s => by unfold stW; rw [hf]) _
    | some f =>
      obtain ⟨b1, b2⟩ := fitF_le m bl G gn wd g5 w c (wl w) 0 f hf
      have b2 : c + wl w ≤ m := by have := b2 (by omega); omega
      rw [show enc (some f) = nI f from rfl, if_neg (zn_ne1 (by omega))]
      simp (disch := omega) only [q3, zn_add, zn_mul, zn_addl, zn_ladd, zn_mull, zn_lmul, zn_le, zn_lt, zn_eq, zn_lel, zn_ltl, zn_eql, zn_lle, zn_llt, zn_leq, zn_sub, zn_subl, zn_m1, gl_eq, bind2_some, bind3_some, Option.bind_some, bz_0, bz_1, ib_0, ib_1, ib_bz, rd_nI, rd_l, if_pos, if_neg, if_true, if_false, ite_true, ite_false, eq_self, j00, j10, j20, j30, k00, k01, k02, k03, i20, i30, km0, i10, i01, im0, im1, i0m, i1m]
      have r1 := (hrZ (c + wl w) (by omega) (by omega)).1
      rw [r1]
      refine rm_word hN hgZ hc hw hf hS hrZ h2 hsb Q (fun Z' z1 z2 => ih Z' ⟨fun k p j hk => ?_, z2⟩)
      rw [z1 k p j hk, h1 k p j hk]
  · rintro fu Z ⟨h1, h2⟩
    have e17 : Z 43 0 17 = nI W := (h1 43 0 17 (by omega)).trans g1
    simp (disch := omega) only [X10_reads_L311, e17, zn_add, zn_mul, zn_addl, zn_ladd, zn_mull, zn_lmul, zn_le, zn_lt, zn_eq, zn_lel, zn_ltl, zn_eql, zn_lle, zn_llt, zn_leq, zn_sub, zn_subl, zn_m1, gl_eq, bind2_some, bind3_some, Option.bind_some, bz_0, bz_1, ib_0, ib_1, ib_bz, rd_nI, rd_l, if_pos, if_neg, if_true, if_false, ite_true, ite_false, eq_self, j00, j10, j20, j30, k00, k01, k02, k03, i20, i30, km0, i10, i01, im0, im1, i0m, i1m]
    exact hQ Z h1 h2
theorem rm_main (hN : 1000 ≤ N) {X : gM} (g : ldM m W bl G gn wl wd X) (hm : 1 ≤ m) :
    ∃ Z, X10_reads_J162 al N (nI m) X = some (0, Z) ∧ (∀ k p j, ¬ (k = 68 ∨ k = 70 ∨ k = 71) → Z k p j = X k p j) ∧ rdR m 0 (Z 68 0) (Z 70 0) (rwM Z) (rdT m W bl G gn wl wd m) := by
  have hg := g
  obtain ⟨g1, g2, g3, g4, g5, g6⟩ := g
  have key : ∀ Q : Option (Int32 × gM) → Prop, (∀ Z, (∀ k p j, ¬ (k = 68 ∨ k = 70 ∨ k = 71) → Z k p j = X k p j) → rdR m 0 (Z 68 0) (Z 70 0) (rwM Z) (rdT m W bl G gn wl wd m) → Q (some (0, Z))) → Q (X10_reads_J162 al N (nI m) X) := by
    intro Q hQ
    unfold X10_reads_J162
    simp (disch := omega) only [rd_nI, Option.bind_some, gl_eq, dI_s1]
    refine m_dn m (fun fu i (Z : gM) => X10_reads_L184 al N (fun Y => X10_reads_J503 al N Y) fu (nI m) i Z) (fun i Z => (∀ k p j, ¬ (k = 68 ∨ k = 70 ∨ k = 71) → Z k p j = X k p j) ∧ rdR m i (Z 68 0) (Z 70 0) (rwM Z) (rdT m W bl G gn wl wd (m - i))) Q ?_ ?_ m N _ (Nat.le_refl m) (by omega) ⟨fun k p j hk => ?_, fun c h1 h2 => ?_⟩
    · rintro c fu Y hc ⟨h1, h2⟩ ih
      have ht : m - c = (m - (c + 1)) + 1 := by omega
      have hcm : m - ((m - (c + 1)) + 1) = c := by omega
      have hT : rdT m W bl G gn wl wd (m - c) = setQ (rdT m W bl G gn wl wd (m - (c + 1))) c (celQ m W bl G gn wl wd (rdT m W bl G gn wl wd (m - (c + 1))) c) := by
        rw [ht]
        show setQ _ (m - ((m - (c + 1)) + 1)) (celQ m W bl G gn wl wd _ (m - ((m - (c + 1)) + 1))) = _
        rw [hcm]
      have hS := rdT_le m W bl G gn wl wd g5 (fun w hw => (g6 w hw).1) (m - (c + 1)) (by omega)
      have hmc : m - (m - (c + 1)) = c + 1 := by omega
      rw [hmc] at hS
      have e72 := (g4 c hc).1
      have hfin : ∀ Z, (∀ k p j, ¬ (((k = 68 ∨ k = 70) ∧ p = 0 ∧ j = c) ∨ (k = 71 ∧ p = 0 ∧ 9 * c ≤ j ∧ j < 8 * c + m)) → Z k p j = Y k p j) → clR m c (Z 68 0) (Z 70 0) (rwM Z) (celQ m W bl G gn wl wd (rdT m W bl G gn wl wd (m - (c + 1))) c) → Q (X10_reads_J497 al N (X10_reads_L184 al N (fun Y => X10_reads_J503 al N Y) fu) (fun Y => X10_reads_J503 al N Y) (nI m) (nI c) Z) := by
        intro Z z1 z2
        unfold X10_reads_J497
        simp only [gl_eq, dI_m1]
        refine ih Z ⟨fun k p j hk => ?_, ?_⟩
        · rw [z1 k p j (by omega), h1 k p j hk]
        · rw [hT]
          refine rdR_set (fun x hx1 hx2 => ?_) z2
          obtain ⟨r1, r2, r3⟩ := h2 x hx1 hx2
          refine ⟨(z1 68 0 x (by omega)).trans r1, (z1 70 0 x (by omega)).trans r2, fun hn k hk1 hk2 => ?_⟩
          show Z 71 0 (8 * x + k) = _
          rw [z1 71 0 _ (by omega)]
          exact r3 hn k hk1 hk2
      simp (disch := omega) only [X10_reads_L184, zn_add, zn_mul, zn_addl, zn_ladd, zn_mull, zn_lmul, zn_le, zn_lt, zn_eq, zn_lel, zn_ltl, zn_eql, zn_lle, zn_llt, zn_leq, zn_sub, zn_subl, zn_m1, gl_eq, bind2_some, bind3_some, Option.bind_some, bz_0, bz_1, ib_0, ib_1, ib_bz, rd_nI, rd_l, if_pos, if_neg, if_true, if_false, ite_true, ite_false, eq_self, j00, j10, j20, j30, k00, k01, k02, k03, i20, i30, km0, i10, i01, im0, im1, i0m, i1m]
      generalize hY1 : mset (mset Y 68 0 c (-1)) 70 0 c 0 = Y1
      have y1 : ∀ k p j, ¬ ((k = 68 ∨ k = 70) ∧ p = 0 ∧ j = c) → Y1 k p j = Y k p j := fun k p j hk => by
        rw [← hY1]
        simp only [mset_at]
        rw [if_neg (by omega), if_neg (by omega)]
      have hld1 : ldM m W bl G gn wl wd Y1 := ldM_cg (fun k p j hk => by rw [y1 k p j (by omega), h1 k p j (by omega)]) hg
      have hr1 : rdR m (c + 1) (Y1 68 0) (Y1 70 0) (rwM Y1) (rdT m W bl G gn wl wd (m - (c + 1))) := fun x hx1 hx2 => by
        obtain ⟨r1, r2, r3⟩ := h2 x hx1 hx2
        refine ⟨(y1 68 0 x (by omega)).trans r1, (y1 70 0 x (by omega)).trans r2, fun hn k hk1 hk2 => ?_⟩
        show Y1 71 0 (8 * x + k) = _
        rw [y1 71 0 _ (by omega)]
        exact r3 hn k hk1 hk2
      have e721 : Y1 72 0 c = if bl c = true then 1 else 0 := by rw [y1 72 0 c (by omega), h1 72 0 c (by omega), e72]
      rw [e721, ib_0]
      cases hb : bl c with
      | false =>
        rw [if_neg (by decide)]
        unfold X10_reads_J308
        refine rm_cell hN hld1 hc hb hS hr1 (by rw [← hY1]; simp [mset_at]) (by rw [← hY1]; simp [mset_at]) Q (fun Z z1 z2 => hfin Z (fun k p j hk => ?_) ?_)
        · rw [z1 k p j hk, y1 k p j (by omega)]
        · unfold celQ
          rw [hb, if_neg (by decide)]
          exact z2
      | true =>
        rw [if_pos rfl]
        obtain ⟨r1, r2, r3⟩ := hr1 (c + 1) (Nat.le_refl _) (by omega)
        generalize hY2 : mset (mset (mset Y1 68 0 c (Y1 68 0 (c + 1))) 70 0 c ((mset Y1 68 0 c (Y1 68 0 (c + 1))) 70 0 (c + 1))) 71 0 (8 * c + c) (-1) = Y2
        have y2 : ∀ k p j, ¬ (((k = 68 ∨ k = 70) ∧ p = 0 ∧ j = c) ∨ (k = 71 ∧ p = 0 ∧ j = 9 * c)) → Y2 k p j = Y1 k p j := fun k p j hk => by
          rw [← hY2]
          simp only [mset_at]
          rw [if_neg (by omega), if_neg (by omega), if_neg (by omega)]
        have s68 : Y2 68 0 c = Y1 68 0 (c + 1) := by
          rw [← hY2, mset_at, if_neg (by omega), mset_at, if_neg (by omega), mset_same]
        have s70 : Y2 70 0 c = Y1 70 0 (c + 1) := by
          rw [← hY2, mset_at, if_neg (by omega), mset_same, mset_at, if_neg (by omega)]
        have s71 : Y2 71 0 (8 * c + c) = -1 := by rw [← hY2, mset_same]
        refine m_up m (fun fu' i (Z : gM) => X10_reads_L267 al N (fun p4 p5 Y => X10_reads_J308 al N (X10_reads_L184 al N (fun Y => X10_reads_J503 al N Y) fu) (fun Y => X10_reads_J503 al N Y) p4 p5 Y) fu' (nI m) (nI c) i Z)
          (fun i Z => c + 1 ≤ i ∧ (∀ k p j, ¬ (k = 71 ∧ p = 0 ∧ 9 * c < j ∧ j < 8 * c + m) → Z k p j = Y2 k p j) ∧ ∀ k, c + 1 ≤ k → k < i → Z 71 0 (8 * c + k) = Y1 71 0 (8 * (c + 1) + k)) Q ?_ ?_ (m - (c + 1)) (c + 1) N Y2 (by omega) (by omega) ⟨Nat.le_refl _, fun _ _ _ _ => rfl, fun k q1 q2 => absurd q1 (by omega)⟩
        · rintro i fu' Z hi ⟨hci, z1, z2⟩ ih'
          · have r71 : Z 71 0 (8 * (c + 1) + i) = Y1 71 0 (8 * (c + 1) + i) := by rw [z1 71 0 _ (by omega), y2 71 0 _ (by omega)]
            simp (disch := omega) only [X10_reads_L267, zn_add, zn_mul, zn_addl, zn_ladd, zn_mull, zn_lmul, zn_le, zn_lt, zn_eq, zn_lel, zn_ltl, zn_eql, zn_lle, zn_llt, zn_leq, zn_sub, zn_subl, zn_m1, gl_eq, bind2_some, bind3_some, Option.bind_some, bz_0, bz_1, ib_0, ib_1, ib_bz, rd_nI, rd_l, if_pos, if_neg, if_true, if_false, ite_true, ite_false, eq_self, j00, j10, j20, j30, k00, k01, k02, k03, i20, i30, km0, i10, i01, im0, im1, i0m, i1m, r71]
            refine ih' _ ⟨by omega, fun k p j hk => ?_, fun k q1 q2 => ?_⟩
            · rw [mset_at, if_neg (by omega), z1 k p j hk]
            · rw [mset_at]
              by_cases hki : k = i
              · subst hki; rw [if_pos ⟨rfl, rfl, rfl⟩]
              · rw [if_neg (by omega)]; exact z2 k q1 (by omega)
        · rintro fu' Z ⟨-, z1, z2⟩
          simp (disch := omega) only [X10_reads_L267, zn_add, zn_mul, zn_addl, zn_ladd, zn_mull, zn_lmul, zn_le, zn_lt, zn_eq, zn_lel, zn_ltl, zn_eql, zn_lle, zn_llt, zn_leq, zn_sub, zn_subl, zn_m1, gl_eq, bind2_some, bind3_some, Option.bind_some, bz_0, bz_1, ib_0, ib_1, ib_bz, rd_nI, rd_l, if_pos, if_neg, if_true, if_false, ite_true, ite_false, eq_self, j00, j10, j20, j30, k00, k01, k02, k03, i20, i30, km0, i10, i01, im0, im1, i0m, i1m]
          have hldZ : ldM m W bl G gn wl wd Z := ldM_cg (fun k p j hk => by rw [z1 k p j (by omega), y2 k p j (by omega)]) hld1
          have e17 := hldZ.1
          have e72Z := (hldZ.2.2.2.1 c hc).1
          rw [hb, if_pos rfl] at e72Z
          unfold X10_reads_J308
          obtain ⟨n, rfl⟩ : ∃ n, N = n + 1 := ⟨N - 1, by omega⟩
          have hexit : X10_reads_L311 al (n + 1) (fun p4 p5 Y => X10_reads_J497 al (n + 1) (X10_reads_L184 al (n + 1) (fun Y => X10_reads_J503 al (n + 1) Y) fu) (fun Y => X10_reads_J503 al (n + 1) Y) p4 p5 Y) (n + 1) (nI m) (nI c) 0 Z = X10_reads_J497 al (n + 1) (X10_reads_L184 al (n + 1) (fun Y => X10_reads_J503 al (n + 1) Y) fu) (fun Y => X10_reads_J503 al (n + 1) Y) (nI m) (nI c) Z := by
            simp (disch := omega) only [X10_reads_L311, e17, e72Z, rd_nI, Option.bind_some, i10, if_false]
            split <;> rfl
          rw [hexit]
          refine hfin Z (fun k p j hk => ?_) ?_
          · rw [z1 k p j (by omega), y2 k p j (by omega), y1 k p j (by omega)]
          · unfold celQ
            rw [hb, if_pos rfl]
            refine ⟨?_, ?_, fun hn k hk1 hk2 => ?_⟩
            · show Z 68 0 c = _
              rw [z1 68 0 c (by omega), s68]; exact r1
            · show Z 70 0 c = _
              rw [z1 70 0 c (by omega), s70]; exact r2
            · show Z 71 0 (8 * c + k) = if k = c then -1 else _
              by_cases hkc : k = c
              · subst hkc
                rw [if_pos rfl, z1 71 0 _ (by omega), s71]
              · rw [if_neg hkc, z2 k (by omega) hk2]
                exact r3 hn k (by omega) hk2
    · rintro fu Z ⟨h1, h2⟩
      simp (disch := omega) only [X10_reads_L184, X10_reads_J503, zn_add, zn_mul, zn_addl, zn_ladd, zn_mull, zn_lmul, zn_le, zn_lt, zn_eq, zn_lel, zn_ltl, zn_eql, zn_lle, zn_llt, zn_leq, zn_sub, zn_subl, zn_m1, gl_eq, bind2_some, bind3_some, Option.bind_some, bz_0, bz_1, ib_0, ib_1, ib_bz, rd_nI, rd_l, if_pos, if_neg, if_true, if_false, ite_true, ite_false, eq_self, j00, j10, j20, j30, k00, k01, k02, k03, i20, i30, km0, i10, i01, im0, im1, i0m, i1m]
      exact hQ Z h1 (by rw [Nat.sub_zero] at h2; exact h2)
    · simp only [mset_at]
      rw [if_neg (by omega), if_neg (by omega)]
    · have hcm : c = m := by omega
      subst hcm
      rw [Nat.sub_self]
      refine ⟨?_, ?_, fun _ k q1 q2 => absurd q1 (by omega)⟩
      · simp [mset_at]; rfl
      · simp [mset_at]; rfl
  exact key (fun o => ∃ Z, o = some (0, Z) ∧ (∀ k p j, ¬ (k = 68 ∨ k = 70 ∨ k = 71) → Z k p j = X k p j) ∧ rdR m 0 (Z 68 0) (Z 70 0) (rwM Z) (rdT m W bl G gn wl wd m)) (fun Z h1 h2 => ⟨Z, rfl, h1, h2⟩)
end
