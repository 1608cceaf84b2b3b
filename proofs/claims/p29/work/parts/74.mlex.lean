/-! word -/
def dI (i : Nat) : Int32 := if i = 0 then -1 else nI (i - 1)
theorem dI_m1 (i : Nat) : nI i + (-1 : Int32) = dI i := by
  unfold dI
  by_cases h : i = 0
  · subst h; rfl
  · rw [if_neg h, zn_m1 (by omega)]
theorem dI_s1 (i : Nat) : nI i - (1 : Int32) = dI i := by
  unfold dI
  by_cases h : i = 0
  · subst h; rfl
  · rw [if_neg h]; exact zn_subl (k := 1) (by show 1 ≤ i; omega)
theorem dI_0 : dI 0 = -1 := rfl
theorem dI_s (i : Nat) : dI (i + 1) = nI i := rfl
theorem m_dn {α β : Type} (n : Nat) (F : Nat → Int32 → β → Option α) (I : Nat → β → Prop) (Q : Option α → Prop)
    (hs : ∀ i f s, i < n → I (i + 1) s → (∀ s', I i s' → Q (F f (dI i) s')) → Q (F (f + 1) (nI i) s))
    (he : ∀ f s, I 0 s → Q (F (f + 1) (-1) s)) : ∀ i f s, i ≤ n → i < f → I i s → Q (F f (dI i) s) := by
  intro i
  induction i with
  | zero =>
    intro f s hi hf h
    obtain ⟨f, rfl⟩ : ∃ f', f = f' + 1 := ⟨f - 1, by omega⟩
    exact he f s h
  | succ i ih =>
    intro f s hi hf h
    obtain ⟨f, rfl⟩ : ∃ f', f = f' + 1 := ⟨f - 1, by omega⟩
    exact hs i f s (by omega) h (fun s' h' => ih f s' (by omega) (by omega) h')
def smW (X : gM) (w : Nat) : Nat → Bool
  | 0 => true
  | n + 1 => smW X w n && decide (X 60 0 (8 * w + n) = X 58 0 n)
def sameW (X : gM) (D w : Nat) : Bool := decide (X 59 0 w = nI D) && smW X w D
theorem smW_le {X : gM} {w m : Nat} (h : smW X w m = true) {n : Nat} (hn : n ≤ m) : smW X w n = true := by
  induction m with
  | zero => have : n = 0 := by omega
            subst this; exact h
  | succ m ih =>
    by_cases q : n = m + 1
    · subst q; exact h
    · unfold smW at h
      exact ih (Bool.and_eq_true_iff.mp h).1 (by omega)
theorem smW_f {X : gM} {w i m : Nat} (h : ¬ X 60 0 (8 * w + i) = X 58 0 i) (hi : i < m) : smW X w m = false := by
  apply Bool.eq_false_iff.mpr
  intro q
  have := smW_le q (n := i + 1) (by omega)
  unfold smW at this
  exact h (of_decide_eq_true (Bool.and_eq_true_iff.mp this).2)
theorem X8_isSame_eq {al : Nat → Nat → Bool} {N D W w : Nat} {X : gM} (hN : 1000 ≤ N) (g8 : jD D X) (g9 : jW W X) (hw : w < W) : X8_isSame al N w (nI D) X = some (if sameW X D w = true then 1 else 0, X) := by
  obtain ⟨hD, d1, d2, hd⟩ := g8
  obtain ⟨n, n1, n2, q1, q2, q3, q4⟩ := g9.2.2.2.2 w hw
  unfold X8_isSame sameW
  rw [q2, q1]
  by_cases hn : D = n
  · subst hn
    rw [if_pos rfl, decide_eq_true rfl, Bool.true_and]
    simp (disch := omega) only [zn_add, zn_mul, zn_addl, zn_ladd, zn_mull, zn_lmul, zn_le, zn_lt, zn_eq, zn_lel, zn_ltl, zn_eql, zn_lle, zn_llt, zn_leq, zn_sub, zn_subl, zn_m1, gl_eq, bind2_some, bind3_some, Option.bind_some, bz_0, bz_1, ib_0, ib_1, ib_bz, rd_nI, rd_l, if_pos, if_neg, if_true, if_false, ite_true, ite_false, eq_self, j00, j10, j20, j30, k00, k01, k02, k03, i20, i30, km0, i10, i01, im0, im1, i0m, i1m]
    refine m_up0 D (fun fu i (Y : gM) => X8_isSame_L18 al N (fun Y => X8_isSame_J38 al N Y) (fun Y => X8_isSame_J46 al N Y) fu w i Y) (fun i Y => Y = X ∧ smW X w i = true) (fun o => o = some (if smW X w D = true then 1 else 0, X)) X (by omega) ?_ ?_ ⟨rfl, rfl⟩
    · rintro i fu Y hi ⟨rfl, hs⟩ ih
      obtain ⟨u, u1, u2, u3⟩ := q4 i hi
      obtain ⟨v, v1, v2, v3⟩ := hd i hi
      simp (disch := omega) only [X8_isSame_L18, q2, q3, zn_tN, zn_add, zn_mul, zn_addl, zn_ladd, zn_mull, zn_lmul, zn_le, zn_lt, zn_eq, zn_lel, zn_ltl, zn_eql, zn_lle, zn_llt, zn_leq, zn_sub, zn_subl, zn_m1, gl_eq, bind2_some, bind3_some, Option.bind_some, bz_0, bz_1, ib_0, ib_1, ib_bz, rd_nI, rd_l, if_pos, if_neg, if_true, if_false, ite_true, ite_false, eq_self, j00, j10, j20, j30, k00, k01, k02, k03, i20, i30, km0, i10, i01, im0, im1, i0m, i1m]
      by_cases he : Y 27 w i = Y 24 0 i
      · rw [if_pos he]
        refine ih Y ⟨rfl, ?_⟩
        unfold smW
        rw [hs, Bool.true_and]
        exact decide_eq_true (by rw [u2, v2, ← u3, ← v3, he])
      · rw [if_neg he]
        have : smW Y w D = false := smW_f (i := i) (by rw [u2, v2, ← u3, ← v3]; exact he) hi
        rw [this]; rfl
    · rintro fu Y ⟨rfl, hs⟩
      simp (disch := omega) only [X8_isSame_L18, q2, X8_isSame_J46, hs, zn_add, zn_mul, zn_addl, zn_ladd, zn_mull, zn_lmul, zn_le, zn_lt, zn_eq, zn_lel, zn_ltl, zn_eql, zn_lle, zn_llt, zn_leq, zn_sub, zn_subl, zn_m1, gl_eq, bind2_some, bind3_some, Option.bind_some, bz_0, bz_1, ib_0, ib_1, ib_bz, rd_nI, rd_l, if_pos, if_neg, if_true, if_false, ite_true, ite_false, eq_self, j00, j10, j20, j30, k00, k01, k02, k03, i20, i30, km0, i10, i01, im0, im1, i0m, i1m]
  · have hne : ¬ nI n = nI D := fun q => hn ((zn_eq (by omega) (by omega)).mp q).symm
    rw [if_neg (fun q => hne q.symm), decide_eq_false hne]; rfl
/-- the lowest word that is the same -/
def lowW (X : gM) (D lo W : Nat) (r no : Int32) : Prop := (∃ w, lo ≤ w ∧ w < W ∧ sameW X D w = true ∧ (∀ v, lo ≤ v → v < w → ¬ sameW X D v = true) ∧ r = nI w) ∨ ((∀ w, lo ≤ w → w < W → ¬ sameW X D w = true) ∧ r = no)
theorem X9_wordLikeDraft_eq {al : Nat → Nat → Bool} {N D W : Nat} {X : gM} (hN : 1000 ≤ N) (g8 : jD D X) (g9 : jW W X) (hal : ∀ w, w < W → al 26 w = true) : ∃ r, X9_wordLikeDraft al N X = some (r, X) ∧ lowW X D 0 W r (-1) := by
  obtain ⟨hW, w1, w2, h25, hw⟩ := id g9
  have d2 := g8.2.2.1
  unfold X9_wordLikeDraft
  refine m_up0 12 (fun fu i (Y : gM) => X9_wordLikeDraft_L2 al N (fun p1 Y => X9_wordLikeDraft_J37 al N p1 Y) (fun Y => X9_wordLikeDraft_J45 al N Y) fu i Y) (fun i Y => Y = X ∧ ∀ w, w < W → w < i → ¬ sameW X D w = true) (fun o => ∃ r, o = some (r, X) ∧ lowW X D 0 W r (-1)) X (by omega) ?_ ?_ ⟨rfl, fun w _ h => absurd h (Nat.not_lt_zero w)⟩
  · rintro i fu Y hi ⟨rfl, hs⟩ ih
    simp (disch := omega) only [X9_wordLikeDraft_L2, X9_wordLikeDraft_J39, X9_wordLikeDraft_J37, h25, zn_add, zn_mul, zn_addl, zn_ladd, zn_mull, zn_lmul, zn_le, zn_lt, zn_eq, zn_lel, zn_ltl, zn_eql, zn_lle, zn_llt, zn_leq, zn_sub, zn_subl, zn_m1, gl_eq, bind2_some, bind3_some, Option.bind_some, bz_0, bz_1, ib_0, ib_1, ib_bz, rd_nI, rd_l, if_pos, if_neg, if_true, if_false, ite_true, ite_false, eq_self, j00, j10, j20, j30, k00, k01, k02, k03, i20, i30, km0, i10, i01, im0, im1, i0m, i1m]
    by_cases hiW : i < W
    · simp (disch := omega) only [if_pos hiW, dr_nI (hal i hiW) (by omega : i < 2147483648), d2, X8_isSame_eq hN g8 g9 hiW, zn_add, zn_mul, zn_addl, zn_ladd, zn_mull, zn_lmul, zn_le, zn_lt, zn_eq, zn_lel, zn_ltl, zn_eql, zn_lle, zn_llt, zn_leq, zn_sub, zn_subl, zn_m1, gl_eq, bind2_some, bind3_some, Option.bind_some, bz_0, bz_1, ib_0, ib_1, ib_bz, rd_nI, rd_l, if_pos, if_neg, if_true, if_false, ite_true, ite_false, eq_self, j00, j10, j20, j30, k00, k01, k02, k03, i20, i30, km0, i10, i01, im0, im1, i0m, i1m]
      by_cases hb : sameW Y D i = true
      · rw [if_pos hb]
        exact ⟨nI i, rfl, Or.inl ⟨i, by omega, hiW, hb, fun v _ hv => hs v (by omega) hv, rfl⟩⟩
      · rw [if_neg hb]
        refine ih Y ⟨rfl, fun w hw hwi => ?_⟩
        by_cases hwe : w = i
        · subst hwe; exact hb
        · exact hs w hw (by omega)
    · simp (disch := omega) only [if_neg hiW, zn_add, zn_mul, zn_addl, zn_ladd, zn_mull, zn_lmul, zn_le, zn_lt, zn_eq, zn_lel, zn_ltl, zn_eql, zn_lle, zn_llt, zn_leq, zn_sub, zn_subl, zn_m1, gl_eq, bind2_some, bind3_some, Option.bind_some, bz_0, bz_1, ib_0, ib_1, ib_bz, rd_nI, rd_l, if_pos, if_neg, if_true, if_false, ite_true, ite_false, eq_self, j00, j10, j20, j30, k00, k01, k02, k03, i20, i30, km0, i10, i01, im0, im1, i0m, i1m]
      exact ih Y ⟨rfl, fun w hw hwi => hs w hw (by omega)⟩
  · rintro fu Y ⟨rfl, hs⟩
    simp (disch := omega) only [X9_wordLikeDraft_L2, X9_wordLikeDraft_J45, zn_add, zn_mul, zn_addl, zn_ladd, zn_mull, zn_lmul, zn_le, zn_lt, zn_eq, zn_lel, zn_ltl, zn_eql, zn_lle, zn_llt, zn_leq, zn_sub, zn_subl, zn_m1, gl_eq, bind2_some, bind3_some, Option.bind_some, bz_0, bz_1, ib_0, ib_1, ib_bz, rd_nI, rd_l, if_pos, if_neg, if_true, if_false, ite_true, ite_false, eq_self, j00, j10, j20, j30, k00, k01, k02, k03, i20, i30, km0, i10, i01, im0, im1, i0m, i1m]
    exact ⟨-1, rfl, Or.inr ⟨fun w _ hw => hs w hw (by omega), rfl⟩⟩
theorem lowW_u {X : gM} {D W : Nat} {r r' no no' : Int32} (h : lowW X D 0 W r no) (g : lowW X D 0 W r' no') : (r = no ∧ r' = no' ∧ ∀ w, w < W → ¬ sameW X D w = true) ∨ ∃ w, w < W ∧ r = nI w ∧ r' = nI w := by
  rcases h with ⟨w, -, hw, h1, h2, h3⟩ | ⟨h1, h2⟩
  · rcases g with ⟨v, -, hv, g1, g2, g3⟩ | ⟨g1, -⟩
    · right
      have : w = v := by
        rcases Nat.lt_trichotomy w v with q | q | q
        · exact absurd h1 (g2 w (by omega) q)
        · exact q
        · exact absurd g1 (h2 v (by omega) q)
      subst this
      exact ⟨w, hw, h3, g3⟩
    · exact absurd h1 (g1 w (by omega) hw)
  · rcases g with ⟨v, -, hv, g1, -, -⟩ | ⟨-, g2⟩
    · exact absurd g1 (h1 v (by omega) hv)
    · exact Or.inl ⟨h2, g2, fun w hw => h1 w (by omega) hw⟩
/-- the reference's look for a word that is the same -/
theorem X10_word_loop {al : Nat → Nat → Bool} {N D W : Nat} {X : gM} (hN : 1000 ≤ N) (hD : D ≤ 8) (hD1 : 1 ≤ D) (h15 : X 43 0 15 = nI D) (h46 : X 43 0 46 = 0) (hW : W ≤ 12) :
    ∃ r, X10_word_L37 al N (fun p1 Y => X10_word_J133 al N p1 Y) N (nI W) (dI W) X = X10_word_J133 al N r X ∧ lowW X D 0 W r (nI W) := by
  have inner : ∀ (kk : Int32 → Int32 → gM → Option (Int32 × gM)) (k133 : Int32 → gM → Option (Int32 × gM)) (p1 : Int32) (w : Nat), w < W → X10_word_J66 al N kk k133 p1 (nI w) (if X 59 0 w = nI D then 1 else 0) X = X10_word_J117 al N kk k133 p1 (nI w) (if sameW X D w = true then 1 else 0) X := by
    intro kk k133 p1 w hw
    unfold X10_word_J66 sameW
    by_cases hn : X 59 0 w = nI D
    · rw [if_pos hn, decide_eq_true hn, Bool.true_and]
      refine m_up0 D (fun fu i (s : Int32 × gM) => X10_word_L70 al N (fun p1 p2 p3 Y => X10_word_J117 al N kk k133 p1 p2 p3 Y) fu p1 (nI w) s.1 i s.2) (fun i s => s = (if smW X w i = true then 1 else 0, X)) (fun o => o = X10_word_J117 al N kk k133 p1 (nI w) (if smW X w D = true then 1 else 0) X) (1, X) (by omega) ?_ ?_ rfl
      · rintro i fu s hi rfl ih
        dsimp only at ih ⊢
        simp (disch := omega) only [X10_word_L70, h15, X10_word_J110, zn_add, zn_mul, zn_addl, zn_ladd, zn_mull, zn_lmul, zn_le, zn_lt, zn_eq, zn_lel, zn_ltl, zn_eql, zn_lle, zn_llt, zn_leq, zn_sub, zn_subl, zn_m1, gl_eq, bind2_some, bind3_some, Option.bind_some, bz_0, bz_1, ib_0, ib_1, ib_bz, rd_nI, rd_l, if_pos, if_neg, if_true, if_false, ite_true, ite_false, eq_self, j00, j10, j20, j30, k00, k01, k02, k03, i20, i30, km0, i10, i01, im0, im1, i0m, i1m]
        by_cases hs : smW X w i = true
        · rw [if_pos hs]
          by_cases he : X 60 0 (8 * w + i) = X 58 0 i
          · rw [if_pos he]
            refine ih (1, X) ?_
            unfold smW
            rw [hs, decide_eq_true he]; rfl
          · rw [if_neg he]
            refine ih (0, X) ?_
            unfold smW
            rw [hs, decide_eq_false he]; rfl
        · rw [if_neg hs]
          have : smW X w D = false := Bool.eq_false_iff.mpr (fun q => hs (smW_le q (by omega)))
          rw [this]; rfl
      · rintro fu s rfl
        simp (disch := omega) only [X10_word_L70, h15, zn_add, zn_mul, zn_addl, zn_ladd, zn_mull, zn_lmul, zn_le, zn_lt, zn_eq, zn_lel, zn_ltl, zn_eql, zn_lle, zn_llt, zn_leq, zn_sub, zn_subl, zn_m1, gl_eq, bind2_some, bind3_some, Option.bind_some, bz_0, bz_1, ib_0, ib_1, ib_bz, rd_nI, rd_l, if_pos, if_neg, if_true, if_false, ite_true, ite_false, eq_self, j00, j10, j20, j30, k00, k01, k02, k03, i20, i30, km0, i10, i01, im0, im1, i0m, i1m]
    · rw [if_neg hn, decide_eq_false hn]
      obtain ⟨m, rfl⟩ : ∃ m, N = m + 1 := ⟨N - 1, by omega⟩
      simp (disch := omega) only [X10_word_L70, h15, Bool.false_and, zn_add, zn_mul, zn_addl, zn_ladd, zn_mull, zn_lmul, zn_le, zn_lt, zn_eq, zn_lel, zn_ltl, zn_eql, zn_lle, zn_llt, zn_leq, zn_sub, zn_subl, zn_m1, gl_eq, bind2_some, bind3_some, Option.bind_some, bz_0, bz_1, ib_0, ib_1, ib_bz, rd_nI, rd_l, if_pos, if_neg, if_true, if_false, ite_true, ite_false, eq_self, j00, j10, j20, j30, k00, k01, k02, k03, i20, i30, km0, i10, i01, im0, im1, i0m, i1m]
      rfl
  refine m_dn W (fun fu i (s : Int32) => X10_word_L37 al N (fun p1 Y => X10_word_J133 al N p1 Y) fu s i X) (fun i s => lowW X D i W s (nI W)) (fun o => ∃ r, o = X10_word_J133 al N r X ∧ lowW X D 0 W r (nI W)) ?_ ?_ W N (nI W) (Nat.le_refl W) (by omega) (Or.inr ⟨fun w h1 h2 => absurd h2 (by omega), rfl⟩)
  · intro i fu s hi hs ih
    have hJ : X10_word_L37 al N (fun p1 Y => X10_word_J133 al N p1 Y) (fu + 1) s (nI i) X = X10_word_J117 al N (X10_word_L37 al N (fun p1 Y => X10_word_J133 al N p1 Y) fu) (fun p1 Y => X10_word_J133 al N p1 Y) s (nI i) (if sameW X D i = true then 1 else 0) X := by
      rw [← inner _ _ _ i hi]
      simp (disch := omega) only [X10_word_L37, h15, h46, zn_add, zn_mul, zn_addl, zn_ladd, zn_mull, zn_lmul, zn_le, zn_lt, zn_eq, zn_lel, zn_ltl, zn_eql, zn_lle, zn_llt, zn_leq, zn_sub, zn_subl, zn_m1, gl_eq, bind2_some, bind3_some, Option.bind_some, bz_0, bz_1, ib_0, ib_1, ib_bz, rd_nI, rd_l, if_pos, if_neg, if_true, if_false, ite_true, ite_false, eq_self, j00, j10, j20, j30, k00, k01, k02, k03, i20, i30, km0, i10, i01, im0, im1, i0m, i1m]
      by_cases hn : X 59 0 i = nI D
      · rw [if_pos hn, if_pos hn]
      · rw [if_neg hn, if_neg hn]
    rw [hJ]
    unfold X10_word_J117 X10_word_J126
    simp only [gl_eq, dI_m1, ib_0]
    by_cases hb : sameW X D i = true
    · rw [if_pos hb]
      exact ih (nI i) (Or.inl ⟨i, Nat.le_refl i, hi, hb, fun v h1 h2 => absurd h1 (by omega), rfl⟩)
    · rw [if_neg hb]
      refine ih s ?_
      rcases hs with ⟨w, q1, q2, q3, q4, q5⟩ | ⟨q1, q2⟩
      · refine Or.inl ⟨w, by omega, q2, q3, fun v h1 h2 => ?_, q5⟩
        by_cases hvi : v = i
        · subst hvi; exact hb
        · exact q4 v (by omega) h2
      · refine Or.inr ⟨fun w h1 h2 => ?_, q2⟩
        by_cases hvi : w = i
        · subst hvi; exact hb
        · exact q1 w (by omega) h2
  · intro fu s hs
    refine ⟨s, ?_, hs⟩
    simp (disch := omega) only [X10_word_L37, zn_add, zn_mul, zn_addl, zn_ladd, zn_mull, zn_lmul, zn_le, zn_lt, zn_eq, zn_lel, zn_ltl, zn_eql, zn_lle, zn_llt, zn_leq, zn_sub, zn_subl, zn_m1, gl_eq, bind2_some, bind3_some, Option.bind_some, bz_0, bz_1, ib_0, ib_1, ib_bz, rd_nI, rd_l, if_pos, if_neg, if_true, if_false, ite_true, ite_false, eq_self, j00, j10, j20, j30, k00, k01, k02, k03, i20, i30, km0, i10, i01, im0, im1, i0m, i1m]
theorem X10_word_copy {al : Nat → Nat → Bool} {N D W : Nat} {X : gM} (hN : 1000 ≤ N) (hD : D ≤ 8) (hW : W < 12) (h15 : X 43 0 15 = nI D) (h17 : X 43 0 17 = nI W) :
    ∃ Y, X10_word_L174 al N (fun p1 Y => X10_word_J208 al N p1 Y) N (nI W) 0 X = some (nI W, Y) ∧ (∀ k p j, ¬ ((k = 60 ∧ 8 * W ≤ j ∧ j < 8 * W + 8) ∨ (k = 59 ∧ j = W) ∨ (k = 43 ∧ (j = 15 ∨ j = 17))) → Y k p j = X k p j) ∧ Y 43 0 15 = nI 0 ∧ Y 43 0 17 = nI (W + 1) ∧ Y 59 0 W = nI D ∧ ∀ j, j < D → Y 60 0 (8 * W + j) = X 58 0 j := by
  refine m_up0 D (fun fu i (Y : gM) => X10_word_L174 al N (fun p1 Y => X10_word_J208 al N p1 Y) fu (nI W) i Y) (fun i Y => (∀ k p j, ¬ (k = 60 ∧ 8 * W ≤ j ∧ j < 8 * W + 8) → Y k p j = X k p j) ∧ ∀ j, j < i → Y 60 0 (8 * W + j) = X 58 0 j) (fun o => ∃ Y, o = some (nI W, Y) ∧ (∀ k p j, ¬ ((k = 60 ∧ 8 * W ≤ j ∧ j < 8 * W + 8) ∨ (k = 59 ∧ j = W) ∨ (k = 43 ∧ (j = 15 ∨ j = 17))) → Y k p j = X k p j) ∧ Y 43 0 15 = nI 0 ∧ Y 43 0 17 = nI (W + 1) ∧ Y 59 0 W = nI D ∧ ∀ j, j < D → Y 60 0 (8 * W + j) = X 58 0 j) X (by omega) ?_ ?_ ⟨fun _ _ _ _ => rfl, fun j hj => absurd hj (Nat.not_lt_zero j)⟩
  · rintro i fu Y hi ⟨hY, hc⟩ ih
    have e1 : Y 43 0 15 = nI D := (hY 43 0 15 (by omega)).trans h15
    have e2 : Y 43 0 17 = nI W := (hY 43 0 17 (by omega)).trans h17
    simp (disch := omega) only [X10_word_L174, e1, e2, zn_add, zn_mul, zn_addl, zn_ladd, zn_mull, zn_lmul, zn_le, zn_lt, zn_eq, zn_lel, zn_ltl, zn_eql, zn_lle, zn_llt, zn_leq, zn_sub, zn_subl, zn_m1, gl_eq, bind2_some, bind3_some, Option.bind_some, bz_0, bz_1, ib_0, ib_1, ib_bz, rd_nI, rd_l, if_pos, if_neg, if_true, if_false, ite_true, ite_false, eq_self, j00, j10, j20, j30, k00, k01, k02, k03, i20, i30, km0, i10, i01, im0, im1, i0m, i1m]
    refine ih _ ⟨fun k p j hk => ?_, fun j hj => ?_⟩
    · rw [mset_at, if_neg (by omega), hY k p j hk]
    · rw [mset_at]
      by_cases hji : j = i
      · subst hji
        rw [if_pos ⟨rfl, rfl, rfl⟩, hY 58 0 j (by omega)]
      · rw [if_neg (by omega)]; exact hc j (by omega)
  · rintro fu Y ⟨hY, hc⟩
    have e1 : Y 43 0 15 = nI D := (hY 43 0 15 (by omega)).trans h15
    have e2 : Y 43 0 17 = nI W := (hY 43 0 17 (by omega)).trans h17
    have r1 : (mset Y 59 0 W (nI D)) 43 0 17 = nI W := by simp [mset_at, e2]
    simp (disch := omega) only [X10_word_L174, X10_word_J208, X10_word_J231, e1, e2, r1, zn_add, zn_mul, zn_addl, zn_ladd, zn_mull, zn_lmul, zn_le, zn_lt, zn_eq, zn_lel, zn_ltl, zn_eql, zn_lle, zn_llt, zn_leq, zn_sub, zn_subl, zn_m1, gl_eq, bind2_some, bind3_some, Option.bind_some, bz_0, bz_1, ib_0, ib_1, ib_bz, rd_nI, rd_l, if_pos, if_neg, if_true, if_false, ite_true, ite_false, eq_self, j00, j10, j20, j30, k00, k01, k02, k03, i20, i30, km0, i10, i01, im0, im1, i0m, i1m]
    refine ⟨_, rfl, fun k p j hk => ?_, ?_, ?_, ?_, fun j hj => ?_⟩
    · simp only [mset_at]
      rw [if_neg (by omega), if_neg (by omega), if_neg (by omega), hY k p j (by omega)]
    · simp [mset_at]; rfl
    · simp [mset_at]
    · simp [mset_at]
    · simp [mset_at, hc j hj]
theorem case7 {NL : List (Nat × Nat)} {al : Nat → Nat → Bool} {N : Nat} {X : gM} (hN : 1000000 ≤ N) (a1 a2 a3 a4 a5 a6 : Int32) (h : gJ NL X) : ∃ (nw : List (Nat × Nat)) (rr : Int32) (X' : gM), gFr NL nw ∧ K7 (gal NL) al N nw a1 a2 a3 a4 a5 a6 X = some (rr, X') ∧ gJ (NL ++ nw) X' := by
  unfold K7
  obtain ⟨L, F, D, W, K, g1, g2, g3, g4, g5, g6, g7, g8, g9, g10, g11, g12⟩ := id h
  obtain ⟨hD, d1, d2, hd⟩ := id g8
  obtain ⟨hW, w1, w2, h25, hw⟩ := id g9
  obtain ⟨hK, k1, k2, h28, hk⟩ := id g10
  have hal : ∀ w, w < W → gal NL 26 w = true := fun w hw => gal_al g1 (Or.inl hw)
  have hfr0 : gFr NL [] := ⟨List.nodup_nil, fun n hn => by cases hn⟩
  by_cases hbad : D = 0 ∨ 8 < D
  · refine ⟨[], 0, mset (mset X 43 0 46 1) 43 0 46 1, hfr0, K_thrown (k := 1) (r := 0) (X1 := X) ?_ ?_ (mset_same ..) (by decide), by rw [List.append_nil]; exact gJ_th _ (gJ_th _ h)⟩
    · by_cases h0 : D = 0
      · simp (disch := omega) only [L_word, X9_word, X9_word_J16, d2, h0, eqn_nil, zn_add, zn_mul, zn_addl, zn_ladd, zn_mull, zn_lmul, zn_le, zn_lt, zn_eq, zn_lel, zn_ltl, zn_eql, zn_lle, zn_llt, zn_leq, zn_sub, zn_subl, zn_m1, gl_eq, bind2_some, bind3_some, Option.bind_some, bz_0, bz_1, ib_0, ib_1, ib_bz, rd_nI, rd_l, if_pos, if_neg, if_true, if_false, ite_true, ite_false, eq_self, j00, j10, j20, j30, k00, k01, k02, k03, i20, i30, km0, i10, i01, im0, im1, i0m, i1m]
        try rfl
      · simp (disch := omega) only [L_word, X9_word, X9_word_J16, d2, eqn_nil, zn_add, zn_mul, zn_addl, zn_ladd, zn_mull, zn_lmul, zn_le, zn_lt, zn_eq, zn_lel, zn_ltl, zn_eql, zn_lle, zn_llt, zn_leq, zn_sub, zn_subl, zn_m1, gl_eq, bind2_some, bind3_some, Option.bind_some, bz_0, bz_1, ib_0, ib_1, ib_bz, rd_nI, rd_l, if_pos, if_neg, if_true, if_false, ite_true, ite_false, eq_self, j00, j10, j20, j30, k00, k01, k02, k03, i20, i30, km0, i10, i01, im0, im1, i0m, i1m]
        try rfl
    · have e : X10_word al N X = X10_word_J22 al N 1 X := by
        by_cases h0 : D = 0
        · simp (disch := omega) only [X10_word, X10_word_J17, d1, h0, zn_add, zn_mul, zn_addl, zn_ladd, zn_mull, zn_lmul, zn_le, zn_lt, zn_eq, zn_lel, zn_ltl, zn_eql, zn_lle, zn_llt, zn_leq, zn_sub, zn_subl, zn_m1, gl_eq, bind2_some, bind3_some, Option.bind_some, bz_0, bz_1, ib_0, ib_1, ib_bz, rd_nI, rd_l, if_pos, if_neg, if_true, if_false, ite_true, ite_false, eq_self, j00, j10, j20, j30, k00, k01, k02, k03, i20, i30, km0, i10, i01, im0, im1, i0m, i1m]
        · simp (disch := omega) only [X10_word, X10_word_J17, d1, zn_add, zn_mul, zn_addl, zn_ladd, zn_mull, zn_lmul, zn_le, zn_lt, zn_eq, zn_lel, zn_ltl, zn_eql, zn_lle, zn_llt, zn_leq, zn_sub, zn_subl, zn_m1, gl_eq, bind2_some, bind3_some, Option.bind_some, bz_0, bz_1, ib_0, ib_1, ib_bz, rd_nI, rd_l, if_pos, if_neg, if_true, if_false, ite_true, ite_false, eq_self, j00, j10, j20, j30, k00, k01, k02, k03, i20, i30, km0, i10, i01, im0, im1, i0m, i1m]
      rw [e]
      unfold X10_word_J22
      have r1 : (mset X 43 0 46 1) 43 0 17 = nI W := by simp [mset_at, w1]
      simp only [gl_eq, r1, dI_s1]
      obtain ⟨m, rfl⟩ : ∃ m, N = m + 1 := ⟨N - 1, by omega⟩
      by_cases hW0 : W = 0
      · subst hW0
        simp (disch := omega) only [dI_0, X10_word_L37, X10_word_J133, X10_word_J147, X10_word_J152, mset_same, zn_add, zn_mul, zn_addl, zn_ladd, zn_mull, zn_lmul, zn_le, zn_lt, zn_eq, zn_lel, zn_ltl, zn_eql, zn_lle, zn_llt, zn_leq, zn_sub, zn_subl, zn_m1, gl_eq, bind2_some, bind3_some, Option.bind_some, bz_0, bz_1, ib_0, ib_1, ib_bz, rd_nI, rd_l, if_pos, if_neg, if_true, if_false, ite_true, ite_false, eq_self, j00, j10, j20, j30, k00, k01, k02, k03, i20, i30, km0, i10, i01, im0, im1, i0m, i1m]
      · obtain ⟨w, rfl⟩ : ∃ w, W = w + 1 := ⟨W - 1, by omega⟩
        simp (disch := omega) only [dI_s, X10_word_L37, X10_word_J133, X10_word_J147, X10_word_J152, mset_same, zn_add, zn_mul, zn_addl, zn_ladd, zn_mull, zn_lmul, zn_le, zn_lt, zn_eq, zn_lel, zn_ltl, zn_eql, zn_lle, zn_llt, zn_leq, zn_sub, zn_subl, zn_m1, gl_eq, bind2_some, bind3_some, Option.bind_some, bz_0, bz_1, ib_0, ib_1, ib_bz, rd_nI, rd_l, if_pos, if_neg, if_true, if_false, ite_true, ite_false, eq_self, j00, j10, j20, j30, k00, k01, k02, k03, i20, i30, km0, i10, i01, im0, im1, i0m, i1m]
  · have hD8 : D ≤ 8 := by omega
    have hD1 : 1 ≤ D := by omega
    obtain ⟨r, c1, c2⟩ := X9_wordLikeDraft_eq (al := gal NL) (N := N) (by omega) g8 g9 hal
    have hcg : ∀ Y : gM, Y 58 0 = X 58 0 → Y 59 0 = X 59 0 → Y 60 0 = X 60 0 → ∀ r no, lowW Y D 0 W r no → lowW X D 0 W r no := fun Y h58 h59 h60 r no => by
      have e : ∀ w, sameW Y D w = sameW X D w := fun w => by
        have e2 : ∀ n, smW Y w n = smW X w n := fun n => by
          induction n with
          | zero => rfl
          | succ n ih => unfold smW; rw [ih, h58, h60]
        unfold sameW
        rw [e2, h59]
      unfold lowW
      simp only [e]
      exact id
    have hB : ∀ Y : gM, Y 58 0 = X 58 0 → Y 59 0 = X 59 0 → Y 60 0 = X 60 0 → Y 43 0 15 = nI D → Y 43 0 17 = nI W → ∃ r', X10_word al N Y = X10_word_J133 al N r' (mset Y 43 0 46 0) ∧ lowW X D 0 W r' (nI W) := fun Y h58 h59 h60 h15 h17 => by
      obtain ⟨r', q1, q2⟩ := X10_word_loop (al := al) (N := N) (D := D) (W := W) (X := mset Y 43 0 46 0) (by omega) hD8 hD1 (by simp [mset_at, h15]) (mset_same ..) hW
      refine ⟨r', ?_, hcg (mset Y 43 0 46 0) (by funext j; simp [mset_at, h58]) (by funext j; simp [mset_at, h59]) (by funext j; simp [mset_at, h60]) _ _ q2⟩
      have r1 : (mset Y 43 0 46 0) 43 0 17 = nI W := by simp [mset_at, h17]
      simp (disch := omega) only [X10_word, X10_word_J22, h15, r1, dI_s1, zn_add, zn_mul, zn_addl, zn_ladd, zn_mull, zn_lmul, zn_le, zn_lt, zn_eq, zn_lel, zn_ltl, zn_eql, zn_lle, zn_llt, zn_leq, zn_sub, zn_subl, zn_m1, gl_eq, bind2_some, bind3_some, Option.bind_some, bz_0, bz_1, ib_0, ib_1, ib_bz, rd_nI, rd_l, if_pos, if_neg, if_true, if_false, ite_true, ite_false, eq_self, j00, j10, j20, j30, k00, k01, k02, k03, i20, i30, km0, i10, i01, im0, im1, i0m, i1m]
      exact q1
    by_cases hfound : ∃ w, w < W ∧ r = nI w
    · obtain ⟨w, hwW, rfl⟩ := hfound
      obtain ⟨r', q1, q2⟩ := hB (mset (mset X 0 0 7 0) 81 0 0 (nI w)) (by funext j; simp [mset_at]) (by funext j; simp [mset_at]) (by funext j; simp [mset_at]) (by simp [mset_at, d1]) (by simp [mset_at, w1])
      have hr' : r' = nI w := by
        rcases lowW_u c2 q2 with ⟨z1, -, -⟩ | ⟨v, z1, z2, z3⟩
        · exact absurd z1 (zn_ne1 (by omega))
        · rw [z3, ← z2]
      subst hr'
      have e1 : L_word (gal NL) N [] X = some (0, mset (mset X 0 0 7 0) 81 0 0 (nI w)) := by
        simp (disch := omega) only [L_word, X9_word, X9_word_J51, X9_word_J97, d2, c1, if_neg (zn_ne1 (a := w) (by omega)), eqn_nil, zn_add, zn_mul, zn_addl, zn_ladd, zn_mull, zn_lmul, zn_le, zn_lt, zn_eq, zn_lel, zn_ltl, zn_eql, zn_lle, zn_llt, zn_leq, zn_sub, zn_subl, zn_m1, gl_eq, bind2_some, bind3_some, Option.bind_some, bz_0, bz_1, ib_0, ib_1, ib_bz, rd_nI, rd_l, if_pos, if_neg, if_true, if_false, ite_true, ite_false, eq_self, j00, j10, j20, j30, k00, k01, k02, k03, i20, i30, km0, i10, i01, im0, im1, i0m, i1m]
      have e2 : X10_word al N (mset (mset X 0 0 7 0) 81 0 0 (nI w)) = some (nI w, mset (mset (mset (mset (mset X 0 0 7 0) 81 0 0 (nI w)) 43 0 46 0) 43 0 46 0) 43 0 15 0) := by
        rw [q1]
        have r1 : (mset (mset (mset (mset X 0 0 7 0) 81 0 0 (nI w)) 43 0 46 0) 43 0 46 0) 43 0 17 = nI W := by simp [mset_at, w1]
        simp (disch := omega) only [X10_word_J133, X10_word_J152, X10_word_J231, mset_same, r1, zn_add, zn_mul, zn_addl, zn_ladd, zn_mull, zn_lmul, zn_le, zn_lt, zn_eq, zn_lel, zn_ltl, zn_eql, zn_lle, zn_llt, zn_leq, zn_sub, zn_subl, zn_m1, gl_eq, bind2_some, bind3_some, Option.bind_some, bz_0, bz_1, ib_0, ib_1, ib_bz, rd_nI, rd_l, if_pos, if_neg, if_true, if_false, ite_true, ite_false, eq_self, j00, j10, j20, j30, k00, k01, k02, k03, i20, i30, km0, i10, i01, im0, im1, i0m, i1m]
      refine ⟨[], 0, _, hfr0, K_ans e1 e2 ?_ ?_, ?_⟩
      · simp [mset_at]
      · simp [mset_at]
      · rw [List.append_nil]
        refine ⟨L, F, 0, W, K, jN_cg (by repeat (first | exact (fun _ _ _ _ => rfl) | refine dset ?_ rfl)) g1, jL_cg (by repeat (first | exact (fun _ _ _ _ => rfl) | refine dset ?_ rfl)) g2, jC_cg (by repeat (first | exact (fun _ _ _ _ => rfl) | refine dset ?_ rfl)) g3, jZ_cg (by repeat (first | exact (fun _ _ _ _ => rfl) | refine dset ?_ rfl)) g4, jH_cg (by repeat (first | exact (fun _ _ _ _ => rfl) | refine dset ?_ rfl)) g5, jB_cg (by repeat (first | exact (fun _ _ _ _ => rfl) | refine dset ?_ rfl)) g6, jF_cg (by repeat (first | exact (fun _ _ _ _ => rfl) | refine dset ?_ rfl)) g7, ?_, jW_cg (by repeat (first | exact (fun _ _ _ _ => rfl) | refine dset ?_ rfl)) g9, jK_cg (by repeat (first | exact (fun _ _ _ _ => rfl) | refine dset ?_ rfl)) g10, jI_cg (by repeat (first | exact (fun _ _ _ _ => rfl) | refine dset ?_ rfl)) g11, jS_cg (by repeat (first | exact (fun _ _ _ _ => rfl) | refine dset ?_ rfl)) g12⟩
        exact ⟨by omega, by simp [mset_at]; rfl, by simp [mset_at]; rfl, fun j hj => absurd hj (Nat.not_lt_zero j)⟩
    · have hnone : r = -1 ∧ ∀ w, w < W → ¬ sameW X D w = true := by
        rcases c2 with ⟨w, -, z1, z2, z3, z4⟩ | ⟨z1, z2⟩
        · exact absurd ⟨w, z1, z4⟩ hfound
        · exact ⟨z2, fun w hw => z1 w (by omega) hw⟩
      obtain ⟨rfl, hnone⟩ := hnone
      have hlow : ∀ r', lowW X D 0 W r' (nI W) → r' = nI W := fun r' q => by
        rcases q with ⟨w, -, z1, z2, -, -⟩ | ⟨-, z2⟩
        · exact absurd z2 (hnone w z1)
        · exact z2
      by_cases hW12 : W = 12
      · obtain ⟨r', q1, q2⟩ := hB X rfl rfl rfl d1 w1
        have hr' := hlow r' q2
        subst hr'
        refine ⟨[], 0, mset (mset X 43 0 46 0) 43 0 46 1, hfr0, K_thrown (k := 1) (r := 0) (X1 := X) ?_ ?_ (mset_same ..) (by decide), by rw [List.append_nil]; exact gJ_th _ (gJ_th _ h)⟩
        · simp (disch := omega) only [L_word, X9_word, X9_word_J51, d2, w2, c1, hW12, eqn_nil, zn_add, zn_mul, zn_addl, zn_ladd, zn_mull, zn_lmul, zn_le, zn_lt, zn_eq, zn_lel, zn_ltl, zn_eql, zn_lle, zn_llt, zn_leq, zn_sub, zn_subl, zn_m1, gl_eq, bind2_some, bind3_some, Option.bind_some, bz_0, bz_1, ib_0, ib_1, ib_bz, rd_nI, rd_l, if_pos, if_neg, if_true, if_false, ite_true, ite_false, eq_self, j00, j10, j20, j30, k00, k01, k02, k03, i20, i30, km0, i10, i01, im0, im1, i0m, i1m]
          try rfl
        · rw [q1]
          simp (disch := omega) only [X10_word_J133, X10_word_J147, X10_word_J152, mset_same, hW12, zn_add, zn_mul, zn_addl, zn_ladd, zn_mull, zn_lmul, zn_le, zn_lt, zn_eq, zn_lel, zn_ltl, zn_eql, zn_lle, zn_llt, zn_leq, zn_sub, zn_subl, zn_m1, gl_eq, bind2_some, bind3_some, Option.bind_some, bz_0, bz_1, ib_0, ib_1, ib_bz, rd_nI, rd_l, if_pos, if_neg, if_true, if_false, ite_true, ite_false, eq_self, j00, j10, j20, j30, k00, k01, k02, k03, i20, i30, km0, i10, i01, im0, im1, i0m, i1m]
          try rfl
      · generalize hX1 : mset (mset (mset (tx8 (msl X 89 W rz_89) W D) 25 0 W (nI W)) 0 0 9 (nI (W + 1))) 0 0 7 0 = X1
        have x1 : ∀ k p j, ¬ ((k = 26 ∧ p = W) ∨ (k = 27 ∧ p = W) ∨ k = 89 ∨ (k = 25 ∧ j = W) ∨ (k = 0 ∧ (j = 7 ∨ j = 9))) → X1 k p j = X k p j := fun k p j hk => by
          rw [← hX1]
          simp only [mset_at]
          rw [if_neg (by omega), if_neg (by omega), if_neg (by omega), tx8_off (by omega) (by omega) (by omega), msl_at, if_neg (by omega)]
        have hWlt : W < 12 := by omega
        have e1 : L_word (gal NL) N [(26, W), (27, W)] X = some (0, mset X1 81 0 0 (nI W)) := by
          have r1 : (msl X 89 W rz_89) 0 0 7 = nI D := by simp [msl_at, d2]
          have r2 : (mset (tx8 (msl X 89 W rz_89) W D) 25 0 W (nI W)) 0 0 9 = nI W := by
            rw [mset_at, if_neg (by omega), tx8_off (by omega) (by omega) (by omega), msl_at, if_neg (by omega), w2]
          have r3 : eqn [(26, W), (27, W)] [(26, W), (27, W)] = some () := if_pos rfl
          simp (disch := omega) only [L_word, X9_word, X9_word_J51, d2, c1, w2, r3, rn_some, r1, r2, zn_add, zn_mul, zn_addl, zn_ladd, zn_mull, zn_lmul, zn_le, zn_lt, zn_eq, zn_lel, zn_ltl, zn_eql, zn_lle, zn_llt, zn_leq, zn_sub, zn_subl, zn_m1, gl_eq, bind2_some, bind3_some, Option.bind_some, bz_0, bz_1, ib_0, ib_1, ib_bz, rd_nI, rd_l, if_pos, if_neg, if_true, if_false, ite_true, ite_false, eq_self, j00, j10, j20, j30, k00, k01, k02, k03, i20, i30, km0, i10, i01, im0, im1, i0m, i1m, hX1]
        obtain ⟨r', q1, q2⟩ := hB (mset X1 81 0 0 (nI W)) (by funext j; simp [mset_at, x1]) (by funext j; simp [mset_at, x1]) (by funext j; simp [mset_at, x1]) (by simp [mset_at, x1, d1]) (by simp [mset_at, x1, w1])
        have hr' := hlow r' q2
        subst hr'
        obtain ⟨Z, z1, z2, z3, z4, z5, z6⟩ := X10_word_copy (al := al) (N := N) (D := D) (W := W) (X := mset (mset (mset X1 81 0 0 (nI W)) 43 0 46 0) 43 0 46 0) (by omega) hD8 hWlt (by simp [mset_at, x1, d1]) (by simp [mset_at, x1, w1])
        have e2 : X10_word al N (mset X1 81 0 0 (nI W)) = some (nI W, Z) := by
          rw [q1]
          have r1 : (mset (mset (mset X1 81 0 0 (nI W)) 43 0 46 0) 43 0 46 0) 43 0 17 = nI W := by simp [mset_at, x1, w1]
          simp (disch := omega) only [X10_word_J133, X10_word_J152, mset_same, r1, z1, zn_add, zn_mul, zn_addl, zn_ladd, zn_mull, zn_lmul, zn_le, zn_lt, zn_eq, zn_lel, zn_ltl, zn_eql, zn_lle, zn_llt, zn_leq, zn_sub, zn_subl, zn_m1, gl_eq, bind2_some, bind3_some, Option.bind_some, bz_0, bz_1, ib_0, ib_1, ib_bz, rd_nI, rd_l, if_pos, if_neg, if_true, if_false, ite_true, ite_false, eq_self, j00, j10, j20, j30, k00, k01, k02, k03, i20, i30, km0, i10, i01, im0, im1, i0m, i1m]
        have hZ1 : ∀ k p j, ¬ ((k = 60 ∧ 8 * W ≤ j ∧ j < 8 * W + 8) ∨ (k = 59 ∧ j = W) ∨ (k = 43 ∧ (j = 15 ∨ j = 17 ∨ j = 46)) ∨ k = 81) → Z k p j = X1 k p j := fun k p j hk => by
          rw [z2 k p j (by omega)]
          simp only [mset_at]
          rw [if_neg (by omega), if_neg (by omega), if_neg (by omega)]
        have hZ : ∀ k p j, ¬ ((k = 60 ∧ 8 * W ≤ j ∧ j < 8 * W + 8) ∨ (k = 59 ∧ j = W) ∨ (k = 43 ∧ (j = 15 ∨ j = 17 ∨ j = 46)) ∨ k = 81 ∨ (k = 26 ∧ p = W) ∨ (k = 27 ∧ p = W) ∨ k = 89 ∨ (k = 25 ∧ j = W) ∨ (k = 0 ∧ (j = 7 ∨ j = 9))) → Z k p j = X k p j := fun k p j hk => by
          rw [hZ1 k p j (by omega), x1 k p j (by omega)]
        have hnew : ∀ n ∈ [(26, W), (27, W)], n ∉ NL := by
          intro n hn hin
          have hav := (g1 n.1 n.2).mp hin
          rcases List.mem_cons.mp hn with rfl | hn
          · change W < W ∨ (12 ≤ W ∧ W < 12 + K) at hav; omega
          · rw [List.mem_singleton] at hn
            subst hn
            change W < W ∨ (12 ≤ W ∧ W < 12 + K) at hav; omega
        refine ⟨[(26, W), (27, W)], 0, Z, ⟨by simp, fun n hn => ⟨hnew n hn, ?_⟩⟩, K_ans e1 e2 ?_ ?_, ?_⟩
        · rcases List.mem_cons.mp hn with rfl | hn
          · exact ⟨by show (26 : Nat) < 82; decide, by show (26 : Nat) ≠ 38; decide⟩
          · rw [List.mem_singleton] at hn
            subst hn
            exact ⟨by show (27 : Nat) < 82; decide, by show (27 : Nat) ≠ 38; decide⟩
        · rw [z2 43 0 46 (by omega)]; simp [mset_at]
        · rw [z2 81 0 0 (by omega)]; simp [mset_at]
        · have e45 : Z 45 = X 45 := funext fun p => funext fun j => hZ 45 p j (by omega)
          have e46 : Z 46 = X 46 := funext fun p => funext fun j => hZ 46 p j (by omega)
          refine ⟨L, F, 0, W + 1, K, ?_, jL_cg (fun k p j hd => hZ k p j (by simp only [djN, djL, djC, djZ, djH, djB, djF, djD, djW, djK, djI, djS, Bool.or_eq_true, Bool.and_eq_true, decide_eq_true_eq] at hd; omega)) g2, jC_cg (fun k p j hd => hZ k p j (by simp only [djN, djL, djC, djZ, djH, djB, djF, djD, djW, djK, djI, djS, Bool.or_eq_true, Bool.and_eq_true, decide_eq_true_eq] at hd; omega)) g3, jZ_cg (fun k p j hd => hZ k p j (by simp only [djN, djL, djC, djZ, djH, djB, djF, djD, djW, djK, djI, djS, Bool.or_eq_true, Bool.and_eq_true, decide_eq_true_eq] at hd; omega)) g4, jH_cg (fun k p j hd => hZ k p j (by simp only [djN, djL, djC, djZ, djH, djB, djF, djD, djW, djK, djI, djS, Bool.or_eq_true, Bool.and_eq_true, decide_eq_true_eq] at hd; omega)) g5, jB_cg (fun k p j hd => hZ k p j (by simp only [djN, djL, djC, djZ, djH, djB, djF, djD, djW, djK, djI, djS, Bool.or_eq_true, Bool.and_eq_true, decide_eq_true_eq] at hd; omega)) g6, jF_cg (fun k p j hd => hZ k p j (by simp only [djN, djL, djC, djZ, djH, djB, djF, djD, djW, djK, djI, djS, Bool.or_eq_true, Bool.and_eq_true, decide_eq_true_eq] at hd; omega)) g7, ?_, ?_, ?_, jI_cg (fun k p j hd => hZ k p j (by simp only [djN, djL, djC, djZ, djH, djB, djF, djD, djW, djK, djI, djS, Bool.or_eq_true, Bool.and_eq_true, decide_eq_true_eq] at hd; omega)) g11, jS_cg (fun k p j hd => hZ k p j (by simp only [djN, djL, djC, djZ, djH, djB, djF, djD, djW, djK, djI, djS, Bool.or_eq_true, Bool.and_eq_true, decide_eq_true_eq] at hd; omega)) g12⟩
          · intro k i
            rw [List.mem_append, g1 k i]
            by_cases h26 : k = 26
            · subst h26
              simp only [List.mem_cons, List.not_mem_nil, or_false, Prod.mk.injEq, avl, true_and]
              omega
            · by_cases h27 : k = 27
              · subst h27
                simp only [List.mem_cons, List.not_mem_nil, or_false, Prod.mk.injEq, avl, true_and]
                omega
              · rw [avl_off (K := K) (W := W) (X := X) e45 e46 h26 h27]
                simp only [List.mem_cons, List.not_mem_nil, or_false, Prod.mk.injEq]
                constructor
                · rintro (q | q | q)
                  · exact q
                  · exact absurd q.1 h26
                  · exact absurd q.1 h27
                · exact Or.inl
          · refine ⟨by omega, z3, ?_, fun j hj => absurd hj (Nat.not_lt_zero j)⟩
            rw [hZ1 0 0 7 (by omega), ← hX1]; simp [mset_at]; rfl
          · refine ⟨by omega, z4, ?_, fun j => ?_, fun v hv => ?_⟩
            · rw [hZ1 0 0 9 (by omega), ← hX1]; simp [mset_at]
            · by_cases hjK : j = W
              · subst hjK
                rw [hZ1 25 0 j (by omega), ← hX1, if_pos (by omega)]; simp [mset_at]
              · rw [hZ 25 0 j (by omega), h25 j]
                by_cases hlt : j < W
                · rw [if_pos hlt, if_pos (by omega)]
                · rw [if_neg hlt, if_neg (by omega)]
            · by_cases hvK : v = W
              · subst hvK
                have r27 : ∀ j, Z 27 v j = tsl D (X 24 0) j := fun j => by
                  rw [hZ1 27 _ j (by omega), ← hX1]
                  simp only [mset_at]
                  rw [if_neg (by omega), if_neg (by omega), if_neg (by omega), tx8_27]
                  have : (msl X 89 v rz_89) 24 0 = X 24 0 := by funext j'; simp [msl_at]
                  rw [this]
                refine ⟨D, hD1, hD8, z5, ?_, ?_, fun k hk => ?_⟩
                · rw [hZ1 26 _ 1 (by omega), ← hX1]
                  simp only [mset_at]
                  rw [if_neg (by omega), if_neg (by omega), if_neg (by omega), tx8_26]
                · rw [r27]; unfold tsl; rw [if_neg (by omega), if_pos rfl]
                · obtain ⟨u, u1, u2, u3⟩ := hd k hk
                  refine ⟨u, u1, ?_, ?_⟩
                  · rw [z6 k hk]; simp [mset_at, x1, u2]
                  · rw [r27]; unfold tsl; rw [if_pos hk, u3]
              · obtain ⟨n, n1, n2, q1, q2, q3, q4⟩ := hw v (by omega)
                refine ⟨n, n1, n2, (hZ 59 0 v (by omega)).trans q1, (hZ 26 _ 1 (by omega)).trans q2, (hZ 27 _ 99 (by omega)).trans q3, fun k hk => ?_⟩
                obtain ⟨u, u1, u2, u3⟩ := q4 k hk
                exact ⟨u, u1, (hZ 60 0 _ (by omega)).trans u2, (hZ 27 _ k (by omega)).trans u3⟩
          · refine ⟨hK, (hZ 43 0 20 (by omega)).trans k1, (hZ 0 0 11 (by omega)).trans k2, fun j => (hZ 28 0 j (by omega)).trans (h28 j), fun v hv => ?_⟩
            obtain ⟨n, n1, n2, q1, q2, q3, q4⟩ := hk v hv
            refine ⟨n, n1, n2, (hZ 61 0 v (by omega)).trans q1, (hZ 26 _ 1 (by omega)).trans q2, (hZ 27 _ 99 (by omega)).trans q3, fun k hk => ?_⟩
            obtain ⟨u, u1, u2, u3⟩ := q4 k hk
            exact ⟨u, u1, (hZ 62 0 _ (by omega)).trans u2, (hZ 27 _ k (by omega)).trans u3⟩
