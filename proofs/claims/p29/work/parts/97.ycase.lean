/-! worth: the sheets -/
theorem worth_model {NL : List (Nat × Nat)} {al : Nat → Nat → Bool} {N L F D W K : Nat} {X : gM} {f : Nat → Nat} (hN : 1000000 ≤ N) (hJ : JJ NL L F D W K X) (hf : ∀ i, f i < 256 ∧ ∀ b sh, i < L → b < 2 → X 44 0 i = nI b → X 53 0 b = nI sh → sh ≤ 4 → ∀ v, v < 32 → (mb (nI (f i)) v = true ↔ nc (2 * sh) (fun a => fit X F (2 * sh) (lvs (X 44 0) b L) false 99 a ∧ a i = v) (lvs (X 44 0) b L) a00 ≠ 0)) (hVM : ∀ i, i < L → wV X f i ≤ 256) :
    ∃ Z, X10_worth al N X = some ((bst (wV X f) L).1, Z) ∧ JJ NL L F D W K Z := by
  have hL : L ≤ 10 := hJ.2.1.1
  have hb256 : ∀ n, n ≤ L → (bst (wV X f) n).2 ≤ 256 := fun n => by
    induction n with
    | zero => exact fun _ => Nat.zero_le _
    | succ n ih =>
      intro hn
      unfold bst
      split
      · exact ih (by omega)
      · exact hVM n (by omega)
  have hfW : ∀ W : gM, (∀ k j, 44 ≤ k → k ≤ 67 → W k 0 j = X k 0 j) → ∀ i b sh, i < L → b < 2 → W 44 0 i = nI b → W 53 0 b = nI sh → sh ≤ 4 → ∀ v, v < 32 → (mb (nI (f i)) v = true ↔ nc (2 * sh) (fun a => fit W F (2 * sh) (lvs (W 44 0) b L) false 99 a ∧ a i = v) (lvs (W 44 0) b L) a00 ≠ 0) := fun W hW i b sh h1 h2 h3 h4 h5 v hv => by
    have e44 : W 44 0 = X 44 0 := funext fun j => hW 44 j (by omega) (by omega)
    rw [(hf i).2 b sh h1 h2 (by rw [← hW 44 i (by omega) (by omega)]; exact h3) (by rw [← hW 53 b (by omega) (by omega)]; exact h4) h5 v hv, e44]
    have : nc (2 * sh) (fun a => fit W F (2 * sh) (lvs (X 44 0) b L) false 99 a ∧ a i = v) (lvs (X 44 0) b L) a00 = nc (2 * sh) (fun a => fit X F (2 * sh) (lvs (X 44 0) b L) false 99 a ∧ a i = v) (lvs (X 44 0) b L) a00 := nc_cgv _ _ fun a _ => and_congr (fit_e (fun k j k1 k2 => hW k j (by omega) (by omega)) a) Iff.rfl
    rw [this]
  unfold X10_worth
  rw [gl_eq]
  have hJG := JJ_sm (Sm.rfl.set (K := 43) (i := 0) (j := 46) (v := 0) rfl) hJ
  have eG : ∀ k p j, k ≠ 43 → (mset X 43 0 46 0) k p j = X k p j := fun k p j hk => by rw [mset_at, if_neg (fun z => hk z.1)]
  have eG0 : (mset X 43 0 46 0) 43 0 0 = nI L := hJG.2.1.2.1
  generalize mset X 43 0 46 0 = G at hJG eG eG0
  suffices hs : ∀ fu, 3 ≤ fu → ∃ Z, X10_worth_L11 al N (fun p1 p2 Y => X10_worth_J31 al N p1 p2 Y) fu (-1) 0 0 G = some ((bst (wV X f) L).1, Z) ∧ JJ NL L F D W K Z from hs N (by omega)
  intro fu hfu
  obtain ⟨fu, rfl⟩ : ∃ f3, fu = f3 + 1 + 1 + 1 := ⟨fu - 3, by omega⟩
  obtain ⟨sh0, Z0, a1, a2, a3, a4, af, a5, -, a6, -⟩ := arr_J (al := al) (wo := 99) (x := 0) (y := 0) (all := false) (p2 := 0) (p3 := -1) (p4 := -1) (p5 := -1) (b := 0) hN hJG (by omega) ⟨fun _ => rfl, fun _ => rfl⟩ wo99 (Or.inl rfl)
  have hJ0 := JJ_sm a5 hJG
  obtain ⟨sh1, Z1, c1, c2, c3, c4, cf, c5, -, c6, -⟩ := arr_J (al := al) (wo := 99) (x := 0) (y := 0) (all := false) (p2 := 0) (p3 := -1) (p4 := -1) (p5 := -1) (b := 1) hN hJ0 (by omega) ⟨fun _ => rfl, fun _ => rfl⟩ wo99 (Or.inl rfl)
  have hJ1 := JJ_sm c5 hJ0
  have a4' : X10_arranges al N 0 0 (-1) (-1) (-1) G = some (0, Z0) := a4
  have c4' : X10_arranges al N 1 0 (-1) (-1) (-1) Z0 = some (0, Z1) := c4
  have e0 : ∀ k j, 44 ≤ k → k ≤ 67 → Z0 k 0 j = X k 0 j := fun k j h1 h2 => by rw [af k 0 j (by omega) (by omega) (fun z => by omega) (by omega), eG k 0 j (by omega)]
  have e1 : ∀ k j, 44 ≤ k → k ≤ 67 → Z1 k 0 j = X k 0 j := fun k j h1 h2 => by rw [cf k 0 j (by omega) (by omega) (fun z => by omega) (by omega), e0 k j h1 h2]
  have masks : ∀ i, i < L → Z1 77 0 i = nI (f i) := fun i hi => by
    obtain ⟨b, ln, w, hb, -, -, -, -, h44, -⟩ := hJ.2.1.2.2.2.2 i hi
    have hb01 : b = 0 ∨ b = 1 := by omega
    rcases hb01 with rfl | rfl
    · have g44 : G 44 0 i = nI 0 := by rw [eG 44 0 i (by omega), h44]
      have hni : i ∉ lvs (Z0 44 0) 1 L := fun q => by
        have := (lvs_mem.mp q).2
        rw [e0 44 i (by omega) (by omega), h44] at this
        exact absurd this (by decide)
      rw [cf 77 0 i (by omega) (by omega) (fun z => hni z.2) (by omega)]
      exact masks_eq (a6 i (lvs_mem.mpr ⟨hi, g44⟩)) (hfW G (fun k j h1 h2 => eG k 0 j (by omega)) i 0 sh0 hi (by omega) g44 a3 a2)
    · have z44 : Z0 44 0 i = nI 1 := by rw [e0 44 i (by omega) (by omega), h44]
      exact masks_eq (c6 i (lvs_mem.mpr ⟨hi, z44⟩)) (hfW Z0 e0 i 1 sh1 hi (by omega) z44 c3 c2)
  unfold X10_worth_L11
  rw [if_neg (by decide), a4', bind2_some, gl_eq, show (0 : Int32) + 1 = 1 from rfl]
  unfold X10_worth_L11
  rw [if_neg (by decide), c4', bind2_some, gl_eq, show (1 : Int32) + 1 = 2 from rfl]
  unfold X10_worth_L11
  rw [if_pos (by decide)]
  show ∃ Z, X10_worth_J31 al N (-1) 0 Z1 = some ((bst (wV X f) L).1, Z) ∧ JJ NL L F D W K Z
  unfold X10_worth_J31
  refine m_up0 L (fun fu i (s : (Int32 × Int32) × gM) => X10_worth_L33 al N (fun p1 Y => X10_worth_J168 al N p1 Y) fu s.1.1 s.1.2 i s.2)
    (fun i s => s.1.1 = (bst (wV X f) i).1 ∧ s.1.2 = nI (bst (wV X f) i).2 ∧ ∀ k p j, ¬ (k = 43 ∧ (j = 29 ∨ j = 30)) → s.2 k p j = Z1 k p j) (fun o => ∃ Z, o = some ((bst (wV X f) L).1, Z) ∧ JJ NL L F D W K Z) ((-1, 0), Z1) (by omega) ?_ ?_ ⟨rfl, rfl, fun _ _ _ _ => rfl⟩
  · rintro i fu ⟨⟨p1, p2⟩, y⟩ hi ⟨h1, h2, h3⟩ ih
    simp only at h1 h2 h3
    have e43 : y 43 0 0 = nI L := by rw [h3 43 0 0 (by omega)]; exact hJ1.2.1.2.1
    have nL : ¬ nI L ≤ nI i := fun q => by
      have := (zn_le (by omega) (by omega)).mp q
      omega
    obtain ⟨b, ln, w, hb, hln1, hln, hw1, hw, h44, h45, h46, -⟩ := hJ.2.1.2.2.2.2 i hi
    have emx : mxB Z1 = mxB X := by
      unfold mxB
      rw [show Z1 56 0 = X 56 0 from funext fun j => e1 56 j (by omega) (by omega), show Z1 54 0 = X 54 0 from funext fun j => e1 54 j (by omega) (by omega), show Z1 55 0 = X 55 0 from funext fun j => e1 55 j (by omega) (by omega)]
    have eV : wV X f i = cntP (mxB X i w) (ln * w) * fac (f i) := by
      unfold wV
      rw [h45, h46, zn_tN (by omega), zn_tN (by omega)]
    have hV := hVM i hi
    have hB := hb256 i (by omega)
    show ∃ Z, X10_worth_L33 al N (fun p1 Y => X10_worth_J168 al N p1 Y) (fu + 1) p1 p2 (nI i) y = some (_, Z) ∧ _
    unfold X10_worth_L33
    rw [e43, if_neg nL]
    refine mixed_model (al := al) (N := N) (G := Z1) (by omega) hln hw hw1 (by omega) (by rw [e1 45 i (by omega) (by omega), h45]) (by rw [e1 46 i (by omega) (by omega), h46]) _ (fun o => ∃ Z, o = some ((bst (wV X f) L).1, Z) ∧ JJ NL L F D W K Z) h3 fun Y hY => ?_
    rw [emx]
    have tail : ∀ Y', (∀ k p j, ¬ (k = 43 ∧ (j = 29 ∨ j = 30)) → Y' k p j = Z1 k p j) → ∃ Z, X10_worth_J134 al N (X10_worth_L33 al N (fun p1 Y => X10_worth_J168 al N p1 Y) fu) (fun p1 Y => X10_worth_J168 al N p1 Y) p1 p2 (nI i) (nI (cntP (mxB X i w) (ln * w))) (nI (fac (f i))) Y' = some ((bst (wV X f) L).1, Z) ∧ JJ NL L F D W K Z := fun Y' hY' => by
      unfold X10_worth_J134
      have eb : bst (wV X f) (i + 1) = if wV X f i ≤ (bst (wV X f) i).2 then bst (wV X f) i else (nI i, wV X f i) := rfl
      rw [gl_eq, zn_mul, ← eV, h2]
      by_cases c2 : wV X f i ≤ (bst (wV X f) i).2
      · have c2' := (zn_le (a := wV X f i) (b := (bst (wV X f) i).2) (by omega) (by omega)).mpr c2
        rw [if_pos c2']
        unfold X10_worth_J148
        rw [if_pos c2']
        show ∃ Z, X10_worth_L33 al N _ fu p1 _ (nI i + 1) Y' = some (_, Z) ∧ _
        rw [zn_a1]
        refine ih ((_, _), Y') ⟨?_, ?_, hY'⟩
        · show p1 = _
          rw [eb, if_pos c2, h1]
        · rw [eb, if_pos c2]
          rfl
      · have c2' : ¬ nI (wV X f i) ≤ nI (bst (wV X f) i).2 := fun q => c2 ((zn_le (by omega) (by omega)).mp q)
        rw [if_neg c2']
        unfold X10_worth_J148
        rw [if_neg c2']
        show ∃ Z, X10_worth_L33 al N _ fu (nI i) (nI (wV X f i)) (nI i + 1) Y' = some (_, Z) ∧ _
        rw [zn_a1]
        refine ih ((_, _), Y') ⟨?_, ?_, hY'⟩
        · rw [eb, if_neg c2]
          rfl
        · rw [eb, if_neg c2]
          rfl
    show ∃ Z, X10_worth_J110 al N (X10_worth_L33 al N (fun p1 Y => X10_worth_J168 al N p1 Y) fu) (fun p1 Y => X10_worth_J168 al N p1 Y) p1 p2 (nI i) (nI (cntP (mxB X i w) (ln * w))) Y = some (_, Z) ∧ _
    unfold X10_worth_J110
    have em : Y 77 0 i = nI (f i) := by rw [hY 77 0 i (by omega), masks i hi]
    rw [rd_nI (by omega) (by omega), Option.bind_some, em]
    by_cases c0 : f i = 0
    · have e2 : nI (fac (f i)) = 1 := by unfold fac; rw [if_pos c0]; rfl
      rw [if_pos (by rw [c0]; rfl), ← e2]
      exact tail Y hY
    · have e2 : nI (fac (f i)) = nI (popk 8 (f i)) := by unfold fac; rw [if_neg c0]
      have := (hf i).1
      rw [if_neg (fun q => c0 ((zn_eql (k := 0) (by omega) (by decide)).mp q)), Option.bind_some, em, X10_many_eq (by omega) (hf i).1, bind2_some, ← e2]
      exact tail Y hY
  · rintro fu ⟨⟨p1, p2⟩, y⟩ ⟨h1, h2, h3⟩
    simp only at h1 h2 h3
    have e43 : y 43 0 0 = nI L := by rw [h3 43 0 0 (by omega)]; exact hJ1.2.1.2.1
    show ∃ Z, X10_worth_L33 al N (fun p1 Y => X10_worth_J168 al N p1 Y) (fu + 1) p1 p2 (nI L) y = some (_, Z) ∧ _
    unfold X10_worth_L33
    rw [e43, if_pos (Int32.le_refl _)]
    refine ⟨y, ?_, JJ_sm (fun k i j hs => h3 k i j ?_) hJ1⟩
    · rw [← h1]; rfl
    · rintro ⟨rfl, rfl | rfl⟩
      · exact absurd hs (by simp [scr])
      · exact absurd hs (by simp [scr])
theorem case25 {NL : List (Nat × Nat)} {al : Nat → Nat → Bool} {N : Nat} {X : gM} (hN : 1000000 ≤ N) (a1 a2 a3 a4 a5 a6 : Int32) (h : gJ NL X) : ∃ (rr : Int32) (X' : gM), K25 (gal NL) al N [] a1 a2 a3 a4 a5 a6 X = some (rr, X') ∧ gJ NL X' := by
  unfold K25
  rw [eqn_nil, Option.bind_some]
  obtain ⟨L, F, D, W, K, hJ⟩ := h
  have hJ' : JJ NL L F D W K X := hJ
  obtain ⟨f, hf⟩ := wmask hN hJ'
  have hVM : ∀ i, i < L → wV X f i ≤ 256 := fun i hi => by
    obtain ⟨b, ln, w, hb, hln1, hln, hw1, hw, h44, h45, h46, -⟩ := hJ'.2.1.2.2.2.2 i hi
    have e32 : ln * w ≤ 4 * 8 := Nat.mul_le_mul hln hw
    unfold wV
    rw [h45, h46, zn_tN (by omega), zn_tN (by omega)]
    exact Nat.mul_le_mul (Nat.le_trans (cntW_le _ _) e32) (fac_le (hf i).1)
  obtain ⟨Y, y1, y2, y3⟩ := worth_class hN hJ' hf hVM
  have eV : wV Y f = wV X f := by
    funext i
    unfold wV mxB
    rw [show Y 56 0 = X 56 0 from funext fun j => y3 56 0 j (by omega), show Y 54 0 = X 54 0 from funext fun j => y3 54 0 j (by omega), show Y 55 0 = X 55 0 from funext fun j => y3 55 0 j (by omega), y3 45 0 i (by omega), y3 46 0 i (by omega)]
  have e44 : Y 44 0 = X 44 0 := funext fun j => y3 44 0 j (by omega)
  obtain ⟨Z, z1, z2⟩ := worth_model (al := gal NL) hN y2 (fun i => ⟨(hf i).1, fun b sh h1 h2 h3 h4 h5 v hv => by
    rw [(hf i).2 b sh h1 h2 (by rw [← y3 44 0 i (by omega)]; exact h3) (by rw [← y3 53 0 b (by omega)]; exact h4) h5 v hv, e44]
    have : nc (2 * sh) (fun a => fit Y F (2 * sh) (lvs (X 44 0) b L) false 99 a ∧ a i = v) (lvs (X 44 0) b L) a00 = nc (2 * sh) (fun a => fit X F (2 * sh) (lvs (X 44 0) b L) false 99 a ∧ a i = v) (lvs (X 44 0) b L) a00 := nc_cgv _ _ fun a _ => and_congr (fit_e (fun k j k1 k2 => y3 k 0 j (by omega)) a) Iff.rfl
    rw [this]⟩) (fun i hi => by rw [eV]; exact hVM i hi)
  rw [eV] at z1
  rw [y1, bind2_some, z1, bind2_some, if_pos rfl]
  exact ⟨_, _, rfl, JJ_gJ z2⟩
