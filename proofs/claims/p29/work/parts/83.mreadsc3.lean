/-! reading a line: the loops of the class -/
def ftC (m W : Nat) (bl : Nat → Bool) (G : Nat → Nat → Nat) (gn : Nat → Nat) (wl : Nat → Nat) (wd : Nat → Nat → Nat) (Y : gM) : Prop := ∀ c i, c < m → i < 12 → Y 33 0 (12 * c + i) = if i < W then enc (fitW m bl G gn wl wd i c) else -1
section
variable {m W : Nat} {bl : Nat → Bool} {G : Nat → Nat → Nat} {gn : Nat → Nat} {wl : Nat → Nat} {wd : Nat → Nat → Nat} {al : Nat → Nat → Bool} {N : Nat}
theorem X6_readFrom_eq (hN : 1000 ≤ N) {Y : gM} (g : ldC m W bl G gn wl wd Y) (hft : ftC m W bl G gn wl wd Y) (hal : ∀ w, w < W → al 26 w = true) {S : (Nat → Option Nat) × (Nat → Int32) × (Nat → Nat → Int32)} {c : Nat} (hc : c < m) (hS : bhB m S (c + 1))
    (hr : rdR m (c + 1) (Y 35 0) (Y 36 0) (rwC Y) S) (h35 : Y 35 0 c = -1) (h36 : Y 36 0 c = 0) :
    ∃ Z, X6_readFrom al N (nI c) Y = some (0, Z) ∧ (∀ k p j, ¬ (((k = 35 ∨ k = 36) ∧ p = 0 ∧ j = c) ∨ (k = 38 ∧ p = c)) → Z k p j = Y k p j) ∧ clR m c (Z 35 0) (Z 36 0) (rwC Z) (celQ m W bl G gn wl wd S c) := by
  have hg := g
  obtain ⟨g1, g2, g3, g4, g5, g6, g7⟩ := g
  have e30 := (g4 c hc).1
  unfold X6_readFrom
  rw [rd_nI (by omega) (by omega), Option.bind_some, e30, ib_0]
  cases hb : bl c with
  | false =>
    rw [if_neg (by decide)]
    unfold celQ
    rw [hb, if_neg (by decide)]
    have key : ∀ Q : Option (Int32 × gM) → Prop, (∀ Z, (∀ k p j, ¬ (((k = 35 ∨ k = 36) ∧ p = 0 ∧ j = c) ∨ (k = 38 ∧ p = c)) → Z k p j = Y k p j) → clR m c (Z 35 0) (Z 36 0) (rwC Z) (cellF m bl G gn wl wd S.1 S.2.1 S.2.2 c W) → Q (some (0, Z))) → Q (X6_readFrom_L70 al N (fun Y => X6_readFrom_J126 al N Y) N (nI c) 0 Y) := by
      intro Q hQ
      refine m_up0 12 (fun fu i (Z : gM) => X6_readFrom_L70 al N (fun Y => X6_readFrom_J126 al N Y) fu (nI c) i Z)
        (fun i Z => (∀ k p j, ¬ (((k = 35 ∨ k = 36) ∧ p = 0 ∧ j = c) ∨ (k = 38 ∧ p = c)) → Z k p j = Y k p j) ∧ clR m c (Z 35 0) (Z 36 0) (rwC Z) (cellF m bl G gn wl wd S.1 S.2.1 S.2.2 c (if i ≤ W then i else W))) Q Y (by omega) ?_ ?_ ⟨fun _ _ _ _ => rfl, ?_⟩
      · rintro i fu Z hi ⟨h1, h2⟩ ih
        have hgZ : ldC m W bl G gn wl wd Z := ldC_cg (fun k p j hk => h1 k p j (by omega)) hg
        have e25 := hgZ.2.2.2.2.2.1 i
        have ecm : c * 12 = 12 * c := Nat.mul_comm _ _
        have e33 : Z 33 0 (12 * c + i) = if i < W then enc (fitW m bl G gn wl wd i c) else -1 := by rw [h1 33 0 _ (by omega)]; exact hft c i hc hi
        simp (disch := omega) only [X6_readFrom_L70, ecm, e25, e33, X6_readFrom_J120, zn_add, zn_mul, zn_addl, zn_ladd, zn_mull, zn_lmul, zn_le, zn_lt, zn_eq, zn_lel, zn_ltl, zn_eql, zn_lle, zn_llt, zn_leq, zn_sub, zn_subl, zn_m1, gl_eq, bind2_some, bind3_some, Option.bind_some, bz_0, bz_1, ib_0, ib_1, ib_bz, rd_nI, rd_l, if_pos, if_neg, if_true, if_false, ite_true, ite_false, eq_self, j00, j10, j20, j30, k00, k01, k02, k03, i20, i30, km0, i10, i01, im0, im1, i0m, i1m]
        by_cases hiW : i < W
        · simp (disch := omega) only [if_pos hiW, if_neg (zn_nn (a := i) (by omega))]
          rw [if_pos (by omega)] at h2
          have hnone : (∀ s, stW m bl G gn wl wd S.1 S.2.1 S.2.2 c i s = s) → Q (X6_readFrom_L70 al N (fun Y => X6_readFrom_J126 al N Y) fu (nI c) (nI (i + 1)) Z) := fun he => by
            refine ih Z ⟨h1, ?_⟩
            rw [if_pos (by omega)]
            have : cellF m bl G gn wl wd S.1 S.2.1 S.2.2 c (i + 1) = cellF m bl G gn wl wd S.1 S.2.1 S.2.2 c i := he _
            rw [this]; exact h2
          cases hf : fitW m bl G gn wl wd i c with
          | none =>
            rw [show enc (none : Option Nat) = -1 from rfl, if_pos rfl]
            exact hnone (fun s => by unfold stW; rw [hf])
          | some f =>
            obtain ⟨b1, b2⟩ := fitF_le m bl G gn wd g5 i c (wl i) 0 f hf
            have hb8 := (g7 i hiW).2.1
            rw [show enc (some f) = nI f from rfl, if_neg (zn_ne1 (by omega)), dr_nI (hal i hiW) (by omega), Option.bind_some]
            have hrZ : rdR m (c + 1) (Z 35 0) (Z 36 0) (rwC Z) S := by
              intro x hx1 hx2
              obtain ⟨r1, r2, r3⟩ := hr x hx1 hx2
              refine ⟨(h1 35 0 x (by omega)).trans r1, (h1 36 0 x (by omega)).trans r2, fun hn k hk1 hk2 => ?_⟩
              show Z 38 x k = _
              rw [h1 38 x k (by omega)]
              exact r3 hn k hk1 hk2
            have hsb := cellF_le m W bl G gn wl wd g5 (fun w hw => (g7 w hw).1) (beh := S.1) (bst := S.2.1) (row := S.2.2) (c := c) (fun c' g' h1 h2 h3 => hS c' g' (by omega) h2 h3) i (by omega)
            obtain ⟨Z', z1, z2, z3⟩ := rc_word (al := al) hN hgZ hc hiW hf hS hrZ h2 hsb
            rw [z1, bind2_some]
            refine ih Z' ⟨fun k p j hk => by rw [z2 k p j hk, h1 k p j hk], ?_⟩
            rw [if_pos (by omega)]
            exact z3
        · simp (disch := omega) only [if_neg hiW, km0, if_true]
          refine ih Z ⟨h1, ?_⟩
          rw [if_neg (by omega)]
          by_cases hie : i = W
          · subst hie
            rw [if_pos (Nat.le_refl i)] at h2; exact h2
          · rw [if_neg (by omega)] at h2; exact h2
      · rintro fu Z ⟨h1, h2⟩
        simp (disch := omega) only [X6_readFrom_L70, X6_readFrom_J126, zn_add, zn_mul, zn_addl, zn_ladd, zn_mull, zn_lmul, zn_le, zn_lt, zn_eq, zn_lel, zn_ltl, zn_eql, zn_lle, zn_llt, zn_leq, zn_sub, zn_subl, zn_m1, gl_eq, bind2_some, bind3_some, Option.bind_some, bz_0, bz_1, ib_0, ib_1, ib_bz, rd_nI, rd_l, if_pos, if_neg, if_true, if_false, ite_true, ite_false, eq_self, j00, j10, j20, j30, k00, k01, k02, k03, i20, i30, km0, i10, i01, im0, im1, i0m, i1m]
        refine hQ Z h1 ?_
        by_cases h12 : 12 ≤ W
        · have : W = 12 := by omega
          subst this
          rw [if_pos (Nat.le_refl 12)] at h2; exact h2
        · rw [if_neg h12] at h2; exact h2
      · rw [if_pos (Nat.zero_le W)]
        exact ⟨h35, h36, fun h => absurd rfl h⟩
    exact key (fun o => ∃ Z, o = some (0, Z) ∧ (∀ k p j, ¬ (((k = 35 ∨ k = 36) ∧ p = 0 ∧ j = c) ∨ (k = 38 ∧ p = c)) → Z k p j = Y k p j) ∧ clR m c (Z 35 0) (Z 36 0) (rwC Z) (cellF m bl G gn wl wd S.1 S.2.1 S.2.2 c W)) (fun Z h1 h2 => ⟨Z, rfl, h1, h2⟩)
  | true =>
    rw [if_pos rfl]
    unfold celQ
    rw [hb, if_pos rfl]
    obtain ⟨r1, r2, r3⟩ := hr (c + 1) (Nat.le_refl _) (by omega)
    have ecp : cpok 0 0 8 8 8 = some 8 := by decide
    have t0 : (0 : Int32).toNatClampNeg = 0 := rfl
    have t8 : (8 : Int32).toNatClampNeg = 8 := rfl
    simp (disch := omega) only [rd_nI, Option.bind_some, gl_eq, zn_addl, ecp, t0, t8]
    refine ⟨_, rfl, fun k p j hk => ?_, ?_, ?_, fun hn k h1 h2 => ?_⟩
    · rw [mset_at, if_neg (by omega), msl_at, if_neg (by omega), mset_at, if_neg (by omega), mset_at, if_neg (by omega)]
    · show (mset _ 38 c c (-1)) 35 0 c = _
      rw [mset_at, if_neg (by omega), msl_at, if_neg (by omega), mset_at, if_neg (by omega), mset_same]
      exact r1
    · show (mset _ 38 c c (-1)) 36 0 c = _
      rw [mset_at, if_neg (by omega), msl_at, if_neg (by omega), mset_same, mset_at, if_neg (by omega)]
      exact r2
    · show (mset _ 38 c c (-1)) 38 c k = if k = c then -1 else _
      rw [mset_at]
      by_cases hkc : k = c
      · rw [if_pos ⟨rfl, rfl, hkc⟩, if_pos hkc]
      · rw [if_neg (fun z => hkc z.2.2), if_neg hkc, msl_at, if_pos ⟨rfl, rfl⟩]
        unfold va_cpy
        rw [if_pos (by omega), mset_at, if_neg (by omega), mset_at, if_neg (by omega)]
        have e : 0 + (k - 0) = k := by omega
        rw [e]
        exact r3 hn k (by omega) h2
theorem rc_main (hN : 1000 ≤ N) {X : gM} (g : ldC m W bl G gn wl wd X) (hft : ftC m W bl G gn wl wd X) (hal : ∀ w, w < W → al 26 w = true) (hm : 1 ≤ m) :
    ∃ Z, X6_read_J119 al N X = some (0, Z) ∧ (∀ k p j, ¬ (k = 35 ∨ k = 36 ∨ k = 38) → Z k p j = X k p j) ∧ rdR m 0 (Z 35 0) (Z 36 0) (rwC Z) (rdT m W bl G gn wl wd m) := by
  have hg := g
  obtain ⟨g1, g2, g3, g4, g5, g6, g7⟩ := g
  have key : ∀ Q : Option (Int32 × gM) → Prop, (∀ Z, (∀ k p j, ¬ (k = 35 ∨ k = 36 ∨ k = 38) → Z k p j = X k p j) → rdR m 0 (Z 35 0) (Z 36 0) (rwC Z) (rdT m W bl G gn wl wd m) → Q (some (0, Z))) → Q (X6_read_J119 al N X) := by
    intro Q hQ
    unfold X6_read_J119
    have e1 : (mfill (mfill X 35 0 9 (-1)) 36 0 9 0) 29 0 0 = nI m := by rw [mfill_at, if_neg (by omega), mfill_at, if_neg (by omega), g1]
    have e2 : (mset (mfill (mfill X 35 0 9 (-1)) 36 0 9 0) 35 0 m 0) 29 0 0 = nI m := by rw [mset_at, if_neg (by omega), e1]
    have e3 : (mset (mset (mfill (mfill X 35 0 9 (-1)) 36 0 9 0) 35 0 m 0) 36 0 m 1) 29 0 0 = nI m := by rw [mset_at, if_neg (by omega), e2]
    simp (disch := omega) only [gl_eq, e1, rd_nI, Option.bind_some, e2, e3, dI_s1]
    refine m_dn m (fun fu i (Z : gM) => X6_read_L163 al N (fun Y => X6_read_J182 al N Y) fu i Z) (fun i Z => (∀ k p j, ¬ (k = 35 ∨ k = 36 ∨ k = 38) → Z k p j = X k p j) ∧ rdR m i (Z 35 0) (Z 36 0) (rwC Z) (rdT m W bl G gn wl wd (m - i)) ∧ ∀ c, c < i → Z 35 0 c = -1 ∧ Z 36 0 c = 0) Q ?_ ?_ m N _ (Nat.le_refl m) (by omega) ⟨fun k p j hk => ?_, fun c h1 h2 => ?_, fun c hc => ?_⟩
    · rintro c fu Y hc ⟨h1, h2, h3⟩ ih
      have ht : m - c = (m - (c + 1)) + 1 := by omega
      have hcm : m - ((m - (c + 1)) + 1) = c := by omega
      have hT : rdT m W bl G gn wl wd (m - c) = setQ (rdT m W bl G gn wl wd (m - (c + 1))) c (celQ m W bl G gn wl wd (rdT m W bl G gn wl wd (m - (c + 1))) c) := by
        rw [ht]
        show setQ _ (m - ((m - (c + 1)) + 1)) (celQ m W bl G gn wl wd _ (m - ((m - (c + 1)) + 1))) = _
        rw [hcm]
      have hS := rdT_le m W bl G gn wl wd g5 (fun w hw => (g7 w hw).1) (m - (c + 1)) (by omega)
      have hmc : m - (m - (c + 1)) = c + 1 := by omega
      rw [hmc] at hS
      obtain ⟨Z, z1, z2, z3⟩ := X6_readFrom_eq (al := al) hN (ldC_cg (fun k p j hk => h1 k p j (by omega)) hg) (fun c' i hc' hi => (h1 33 0 _ (by omega)).trans (hft c' i hc' hi)) hal hc hS h2 (h3 c (by omega)).1 (h3 c (by omega)).2
      simp (disch := omega) only [X6_read_L163, z1, dI_m1, gl_eq, bind2_some, bind3_some, Option.bind_some, bz_0, bz_1, ib_0, ib_1, ib_bz, rd_nI, rd_l, if_pos, if_neg, if_true, if_false, ite_true, ite_false, eq_self, j00, j10, j20, j30, k00, k01, k02, k03, i20, i30, km0, i10, i01, im0, im1, i0m, i1m, zn_ltl]
      refine ih Z ⟨fun k p j hk => ?_, ?_, fun c' hc' => ?_⟩
      · rw [z2 k p j (by omega), h1 k p j hk]
      · rw [hT]
        refine rdR_set (fun x hx1 hx2 => ?_) z3
        obtain ⟨r1, r2, r3⟩ := h2 x hx1 hx2
        refine ⟨(z2 35 0 x (by omega)).trans r1, (z2 36 0 x (by omega)).trans r2, fun hn k hk1 hk2 => ?_⟩
        show Z 38 x k = _
        rw [z2 38 x k (by omega)]
        exact r3 hn k hk1 hk2
      · rw [z2 35 0 c' (by omega), z2 36 0 c' (by omega)]
        exact h3 c' (by omega)
    · rintro fu Z ⟨h1, h2, -⟩
      simp (disch := omega) only [X6_read_L163, X6_read_J182, zn_add, zn_mul, zn_addl, zn_ladd, zn_mull, zn_lmul, zn_le, zn_lt, zn_eq, zn_lel, zn_ltl, zn_eql, zn_lle, zn_llt, zn_leq, zn_sub, zn_subl, zn_m1, gl_eq, bind2_some, bind3_some, Option.bind_some, bz_0, bz_1, ib_0, ib_1, ib_bz, rd_nI, rd_l, if_pos, if_neg, if_true, if_false, ite_true, ite_false, eq_self, j00, j10, j20, j30, k00, k01, k02, k03, i20, i30, km0, i10, i01, im0, im1, i0m, i1m]
      exact hQ Z h1 (by rw [Nat.sub_zero] at h2; exact h2)
    · rw [mset_at, if_neg (by omega), mset_at, if_neg (by omega), mfill_at, if_neg (by omega), mfill_at, if_neg (by omega)]
    · have hcm : c = m := by omega
      subst hcm
      rw [Nat.sub_self]
      refine ⟨?_, ?_, fun _ k q1 q2 => absurd q1 (by omega)⟩
      · rw [mset_at, if_neg (by omega), mset_same]; rfl
      · rw [mset_same]; rfl
    · refine ⟨?_, ?_⟩
      · rw [mset_at, if_neg (by omega), mset_at, if_neg (by omega), mfill_at, if_neg (by omega), mfill_at, if_pos (by omega)]
      · rw [mset_at, if_neg (by omega), mset_at, if_neg (by omega), mfill_at, if_pos (by omega)]
  exact key (fun o => ∃ Z, o = some (0, Z) ∧ (∀ k p j, ¬ (k = 35 ∨ k = 36 ∨ k = 38) → Z k p j = X k p j) ∧ rdR m 0 (Z 35 0) (Z 36 0) (rwC Z) (rdT m W bl G gn wl wd m)) (fun Z h1 h2 => ⟨Z, rfl, h1, h2⟩)
theorem X6_read_eq (hN : 1000 ≤ N) {X : gM} {i l L ln : Nat} {y : Int32} (g3 : jC L X) (g9 : jW W X) (hi : i < L) (hiL : L ≤ 10) (hl : l < ln) (hln : ln ≤ 4) (h45 : X 45 0 i = nI ln) (h46 : X 46 0 i = nI m) (f52 : X 5 i 2 = nI ln) (f53 : X 5 i 3 = nI m) (f6 : ∀ j, X 6 i j = if j < ln * m then nI (32 * i + j) else -1)
    (hm1 : 1 ≤ m) (hm : m ≤ 8) (hO : lnO X i l m) (hal7 : ∀ j, j < ln * m → al 7 (32 * i + j) = true) (hal : ∀ w, w < W → al 26 w = true) :
    ∃ Z, X6_read al N i (nI l) y X = some (0, Z) ∧ (∀ k p j, ¬ ((29 ≤ k ∧ k ≤ 36) ∨ k = 38) → Z k p j = X k p j) ∧
      ldC m W (lnB X i l) (lnH X i l m y) (lnN X i l y) (lnL X) (lnD X) Z ∧ ftC m W (lnB X i l) (lnH X i l m y) (lnN X i l y) (lnL X) (lnD X) Z ∧
      rdR m 0 (Z 35 0) (Z 36 0) (rwC Z) (rdT m W (lnB X i l) (lnH X i l m y) (lnN X i l y) (lnL X) (lnD X) m) := by
  obtain ⟨hW, w1, w2, h25, hw⟩ := g9
  have hle := lw_le hln hm
  have key : ∀ Q : Option (Int32 × gM) → Prop, (∀ Z, (∀ k p j, ¬ (29 ≤ k ∧ k ≤ 33) → Z k p j = X k p j) → ldC m W (lnB X i l) (lnH X i l m y) (lnN X i l y) (lnL X) (lnD X) Z → ftC m W (lnB X i l) (lnH X i l m y) (lnN X i l y) (lnL X) (lnD X) Z → Q (X6_read_J119 al N Z)) → Q (X6_read al N i (nI l) y X) := by
    intro Q hQ
    unfold X6_read
    have e8 : (if (8 : Int32) < X 5 i 3 then 8 else X 5 i 3) = nI m := by
      rw [f53, if_neg (fun z => by have := (zn_llt (k := 8) (by omega) (by decide)).mp z; have h8 : (8 : Nat) < m := this; omega)]
    simp only [gl_eq, e8]
    generalize hX1 : mfill (mset X 29 0 0 (nI m)) 32 0 208 0 = X1
    have x1 : ∀ k p j, ¬ (k = 29 ∨ k = 32) → X1 k p j = X k p j := fun k p j hk => by
      rw [← hX1, mfill_at, if_neg (by omega), mset_at, if_neg (by omega)]
    have x29 : X1 29 0 0 = nI m := by rw [← hX1, mfill_at, if_neg (by omega), mset_same]
    have x32 : ∀ j, j < 208 → X1 32 0 j = 0 := fun j hj => by rw [← hX1, mfill_at, if_pos ⟨rfl, rfl, hj⟩]
    refine m_up0 m (fun fu c (Z : gM) => X6_read_L24 al N (fun Y => X6_read_J53 al N Y) fu i (nI l) y c Z)
      (fun c' Z => (∀ k p j, ¬ (30 ≤ k ∧ k ≤ 32) → Z k p j = X1 k p j) ∧ (∀ c k, c' ≤ c → c < m → k < 26 → Z 32 0 (26 * c + k) = 0) ∧ ∀ c, c < c' → Z 30 0 c = (if lnB X i l c = true then 1 else 0) ∧ (lnB X i l c = false → (∀ k, k < 26 → Z 32 0 (26 * c + k) = nI (lnG X i l y c k)) ∧ Z 31 0 c = nI (lnN X i l y c))) Q X1 (by omega) ?_ ?_ ⟨fun _ _ _ _ => rfl, fun c k _ hc hk => x32 _ (by omega), fun c hc => absurd hc (Nat.not_lt_zero c)⟩
    · rintro c fu Z hc ⟨h1, h2, h3⟩ ih
      have e29 : Z 29 0 0 = nI m := (h1 29 0 0 (by omega)).trans x29
      have hlt := lw_lt hl hc
      have hca := X2_cellAt_yes (al := al) (N := N) (i := i) (X := Z) ((h1 5 i 2 (by omega)).trans ((x1 5 i 2 (by omega)).trans f52)) ((h1 5 i 3 (by omega)).trans ((x1 5 i 3 (by omega)).trans f53)) hm hln (fun j => (h1 6 i j (by omega)).trans ((x1 6 i j (by omega)).trans (f6 j))) hl hc
      obtain ⟨Z', z1, z2, z3, z4⟩ := X6_load_eq (al := al) (y := y) hN (X := X) (Y := Z) (i := i) (l := l) (m := m) (c := c) (A := 32 * i + (l * m + c)) (by omega) (by omega) (hal7 _ hlt) (g3 i ln m hi h45 h46 hln hm l c hl hc) hO hc (fun k p j hk => by rw [h1 k p j (by omega), x1 k p j (by omega)]) (fun k hk => h2 c k (Nat.le_refl c) hc hk)
      simp (disch := omega) only [X6_read_L24, e29, hca, z1, zn_add, zn_mul, zn_addl, zn_ladd, zn_mull, zn_lmul, zn_le, zn_lt, zn_eq, zn_lel, zn_ltl, zn_eql, zn_lle, zn_llt, zn_leq, zn_sub, zn_subl, zn_m1, gl_eq, bind2_some, bind3_some, Option.bind_some, bz_0, bz_1, ib_0, ib_1, ib_bz, rd_nI, rd_l, if_pos, if_neg, if_true, if_false, ite_true, ite_false, eq_self, j00, j10, j20, j30, k00, k01, k02, k03, i20, i30, km0, i10, i01, im0, im1, i0m, i1m]
      refine ih Z' ⟨fun k p j hk => by rw [z2 k p j (by omega), h1 k p j hk], fun c' k h4 h5 h6 => by rw [z2 32 0 _ (by omega)]; exact h2 c' k (by omega) h5 h6, fun c' hc' => ?_⟩
      by_cases hcc : c' = c
      · subst hcc; exact ⟨z3, z4⟩
      · obtain ⟨r1, r2⟩ := h3 c' (by omega)
        refine ⟨(z2 30 0 c' (by omega)).trans r1, fun hb => ⟨fun k hk => (z2 32 0 _ (by omega)).trans ((r2 hb).1 k hk), (z2 31 0 c' (by omega)).trans (r2 hb).2⟩⟩
    · rintro fu Z ⟨h1, h2, h3⟩
      have e29 : Z 29 0 0 = nI m := (h1 29 0 0 (by omega)).trans x29
      simp (disch := omega) only [X6_read_L24, e29, zn_add, zn_mul, zn_addl, zn_ladd, zn_mull, zn_lmul, zn_le, zn_lt, zn_eq, zn_lel, zn_ltl, zn_eql, zn_lle, zn_llt, zn_leq, zn_sub, zn_subl, zn_m1, gl_eq, bind2_some, bind3_some, Option.bind_some, bz_0, bz_1, ib_0, ib_1, ib_bz, rd_nI, rd_l, if_pos, if_neg, if_true, if_false, ite_true, ite_false, eq_self, j00, j10, j20, j30, k00, k01, k02, k03, i20, i30, km0, i10, i01, im0, im1, i0m, i1m]
      have hld : ldC m W (lnB X i l) (lnH X i l m y) (lnN X i l y) (lnL X) (lnD X) Z := by
        refine ⟨e29, hW, hm, fun c hc => ?_, fun c k => ?_, fun j => ?_, fun w hwW => ?_⟩
        · obtain ⟨r1, r2⟩ := h3 c hc
          refine ⟨r1, fun hb => ⟨fun k hk => ?_, (r2 hb).2⟩, cntP_le _ _⟩
          rw [lnH_eq hc]; exact (r2 hb).1 k hk
        · by_cases hc : c < m
          · rw [lnH_eq hc]; exact lnG_le hO hm c k hc
          · unfold lnH; rw [if_neg hc]; omega
        · rw [h1 25 0 j (by omega), x1 25 0 j (by omega)]; exact h25 j
        · obtain ⟨n, n1, n2, q1, q2, q3, q4⟩ := hw w hwW
          have e : lnL X w = n := by unfold lnL; rw [q1, zn_tN (by omega)]
          rw [e]
          refine ⟨n1, n2, (h1 26 w 1 (by omega)).trans ((x1 26 w 1 (by omega)).trans q2), (h1 27 w 99 (by omega)).trans ((x1 27 w 99 (by omega)).trans q3), fun k hk => ?_⟩
          obtain ⟨u, u1, u2, u3⟩ := q4 k hk
          have e2 : lnD X w k = u := by unfold lnD; rw [u2, zn_tN (by omega)]
          rw [e2]
          exact ⟨u1, (h1 27 w k (by omega)).trans ((x1 27 w k (by omega)).trans u3)⟩
      unfold X6_read_J53
      refine m_up0 m (fun fu' c (Z' : gM) => X6_read_L56 al N (fun Y => X6_read_J119 al N Y) fu' c Z')
        (fun c' Z' => (∀ k p j, ¬ (k = 33) → Z' k p j = Z k p j) ∧ ∀ c i', c < c' → i' < 12 → Z' 33 0 (12 * c + i') = if i' < W then enc (fitW m (lnB X i l) (lnH X i l m y) (lnN X i l y) (lnL X) (lnD X) i' c) else -1) Q Z (by omega) ?_ ?_ ⟨fun _ _ _ _ => rfl, fun c i' hc => absurd hc (Nat.not_lt_zero c)⟩
      · rintro c fu' Z' hc ⟨t1, t2⟩ ih'
        have e29' : Z' 29 0 0 = nI m := (t1 29 0 0 (by omega)).trans e29
        simp (disch := omega) only [X6_read_L56, e29', zn_add, zn_mul, zn_addl, zn_ladd, zn_mull, zn_lmul, zn_le, zn_lt, zn_eq, zn_lel, zn_ltl, zn_eql, zn_lle, zn_llt, zn_leq, zn_sub, zn_subl, zn_m1, gl_eq, bind2_some, bind3_some, Option.bind_some, bz_0, bz_1, ib_0, ib_1, ib_bz, rd_nI, rd_l, if_pos, if_neg, if_true, if_false, ite_true, ite_false, eq_self, j00, j10, j20, j30, k00, k01, k02, k03, i20, i30, km0, i10, i01, im0, im1, i0m, i1m]
        refine m_up0 12 (fun fu'' i' (Z'' : gM) => X6_read_L68 al N (fun p5 Y => X6_read_J113 al N (X6_read_L56 al N (fun Y => X6_read_J119 al N Y) fu') (fun Y => X6_read_J119 al N Y) p5 Y) fu'' (nI c) i' Z'')
          (fun n Z'' => (∀ k p j, ¬ (k = 33 ∧ p = 0 ∧ 12 * c ≤ j ∧ j < 12 * c + 12) → Z'' k p j = Z' k p j) ∧ ∀ i', i' < n → Z'' 33 0 (12 * c + i') = if i' < W then enc (fitW m (lnB X i l) (lnH X i l m y) (lnN X i l y) (lnL X) (lnD X) i' c) else -1) Q Z' (by omega) ?_ ?_ ⟨fun _ _ _ _ => rfl, fun i' hi' => absurd hi' (Nat.not_lt_zero i')⟩
        · rintro i' fu'' Z'' hi' ⟨s1, s2⟩ ih''
          have hld'' : ldC m W (lnB X i l) (lnH X i l m y) (lnN X i l y) (lnL X) (lnD X) Z'' := ldC_cg (fun k p j hk => by rw [s1 k p j (by omega), t1 k p j (by omega)]) hld
          have e25 := hld''.2.2.2.2.2.1 i'
          have ecm : c * 12 = 12 * c := Nat.mul_comm _ _
          have hfo : X6_fitOf al N (if i' < W then nI i' else -1) (nI c) Z'' = some (if i' < W then enc (fitW m (lnB X i l) (lnH X i l m y) (lnN X i l y) (lnL X) (lnD X) i' c) else -1, Z'') := by
            by_cases hiW : i' < W
            · rw [if_pos hiW, if_pos hiW]
              exact X6_fitOf_eq hN hld'' hal hiW hc
            · rw [if_neg hiW, if_neg hiW]
              unfold X6_fitOf X6_fitOf_J17
              rw [if_pos m1_neg]
          simp (disch := omega) only [X6_read_L68, e25, hfo, ecm, zn_add, zn_mul, zn_addl, zn_ladd, zn_mull, zn_lmul, zn_le, zn_lt, zn_eq, zn_lel, zn_ltl, zn_eql, zn_lle, zn_llt, zn_leq, zn_sub, zn_subl, zn_m1, gl_eq, bind2_some, bind3_some, Option.bind_some, bz_0, bz_1, ib_0, ib_1, ib_bz, rd_nI, rd_l, if_pos, if_neg, if_true, if_false, ite_true, ite_false, eq_self, j00, j10, j20, j30, k00, k01, k02, k03, i20, i30, km0, i10, i01, im0, im1, i0m, i1m]
          refine ih'' _ ⟨fun k p j hk => ?_, fun i2 hi2 => ?_⟩
          · rw [mset_at, if_neg (by omega), s1 k p j hk]
          · rw [mset_at]
            by_cases hii : i2 = i'
            · subst hii; rw [if_pos ⟨rfl, rfl, rfl⟩]
            · rw [if_neg (by omega)]; exact s2 i2 (by omega)
        · rintro fu'' Z'' ⟨s1, s2⟩
          simp (disch := omega) only [X6_read_L68, X6_read_J113, zn_add, zn_mul, zn_addl, zn_ladd, zn_mull, zn_lmul, zn_le, zn_lt, zn_eq, zn_lel, zn_ltl, zn_eql, zn_lle, zn_llt, zn_leq, zn_sub, zn_subl, zn_m1, gl_eq, bind2_some, bind3_some, Option.bind_some, bz_0, bz_1, ib_0, ib_1, ib_bz, rd_nI, rd_l, if_pos, if_neg, if_true, if_false, ite_true, ite_false, eq_self, j00, j10, j20, j30, k00, k01, k02, k03, i20, i30, km0, i10, i01, im0, im1, i0m, i1m]
          refine ih' Z'' ⟨fun k p j hk => by rw [s1 k p j (by omega), t1 k p j hk], fun c' i' hc' hi' => ?_⟩
          by_cases hcc : c' = c
          · subst hcc; exact s2 i' hi'
          · rw [s1 33 0 _ (by omega)]; exact t2 c' i' (by omega) hi'
      · rintro fu' Z' ⟨t1, t2⟩
        have e29' : Z' 29 0 0 = nI m := (t1 29 0 0 (by omega)).trans e29
        simp (disch := omega) only [X6_read_L56, e29', zn_add, zn_mul, zn_addl, zn_ladd, zn_mull, zn_lmul, zn_le, zn_lt, zn_eq, zn_lel, zn_ltl, zn_eql, zn_lle, zn_llt, zn_leq, zn_sub, zn_subl, zn_m1, gl_eq, bind2_some, bind3_some, Option.bind_some, bz_0, bz_1, ib_0, ib_1, ib_bz, rd_nI, rd_l, if_pos, if_neg, if_true, if_false, ite_true, ite_false, eq_self, j00, j10, j20, j30, k00, k01, k02, k03, i20, i30, km0, i10, i01, im0, im1, i0m, i1m]
        exact hQ Z' (fun k p j hk => by rw [t1 k p j (by omega), h1 k p j (by omega), x1 k p j (by omega)]) (ldC_cg (fun k p j hk => t1 k p j (by omega)) hld) (fun c i' hc hi' => t2 c i' hc hi')
  refine key (fun o => ∃ Z, o = some (0, Z) ∧ (∀ k p j, ¬ ((29 ≤ k ∧ k ≤ 36) ∨ k = 38) → Z k p j = X k p j) ∧
      ldC m W (lnB X i l) (lnH X i l m y) (lnN X i l y) (lnL X) (lnD X) Z ∧ ftC m W (lnB X i l) (lnH X i l m y) (lnN X i l y) (lnL X) (lnD X) Z ∧
      rdR m 0 (Z 35 0) (Z 36 0) (rwC Z) (rdT m W (lnB X i l) (lnH X i l m y) (lnN X i l y) (lnL X) (lnD X) m)) (fun Z h1 h2 h3 => ?_)
  obtain ⟨Z', z1, z2, z3⟩ := rc_main (al := al) hN h2 h3 hal hm1
  exact ⟨Z', z1, fun k p j hk => by rw [z2 k p j (by omega), h1 k p j (by omega)], ldC_cg (fun k p j hk => z2 k p j (by omega)) h2, fun c i' hc hi' => (z2 33 0 _ (by omega)).trans (h3 c i' hc hi'), z3⟩
end
