/-! worth: the case -/
def fac (n : Nat) : Nat := if n = 0 then 1 else popk 8 n
def bst (V : Nat → Nat) : Nat → Int32 × Nat
  | 0 => (-1, 0)
  | n + 1 => if V n ≤ (bst V n).2 then bst V n else (nI n, V n)
theorem bst_le {V : Nat → Nat} {M : Nat} (h : ∀ i, V i ≤ M) (n : Nat) : (bst V n).2 ≤ M := by
  induction n with
  | zero => exact Nat.zero_le _
  | succ n ih =>
    unfold bst
    split
    · exact ih
    · exact h n
def wV (X : gM) (f : Nat → Nat) (i : Nat) : Nat := cntP (mxB X i (X 46 0 i).toNatClampNeg) ((X 45 0 i).toNatClampNeg * (X 46 0 i).toNatClampNeg) * fac (f i)
theorem fac_le {n : Nat} (h : n < 256) : fac n ≤ 8 := by
  unfold fac
  split
  · omega
  · exact pop_8 n h
theorem wmask {NL : List (Nat × Nat)} {N L F D W K : Nat} {X : gM} (hN : 1000000 ≤ N) (hJ : JJ NL L F D W K X) : ∃ f : Nat → Nat, ∀ i, f i < 256 ∧ ∀ b sh, i < L → b < 2 → X 44 0 i = nI b → X 53 0 b = nI sh → sh ≤ 4 → ∀ v, v < 32 → (mb (nI (f i)) v = true ↔ nc (2 * sh) (fun a => fit X F (2 * sh) (lvs (X 44 0) b L) false 99 a ∧ a i = v) (lvs (X 44 0) b L) a00 ≠ 0) := by
  have key : ∀ i, ∃ n, n < 256 ∧ ∀ b sh, i < L → b < 2 → X 44 0 i = nI b → X 53 0 b = nI sh → sh ≤ 4 → ∀ v, v < 32 → (mb (nI n) v = true ↔ nc (2 * sh) (fun a => fit X F (2 * sh) (lvs (X 44 0) b L) false 99 a ∧ a i = v) (lvs (X 44 0) b L) a00 ≠ 0) := fun i => by
    by_cases hi : i < L
    · obtain ⟨b0, ln, w, hb0, -, -, -, -, h44, -⟩ := hJ.2.1.2.2.2.2 i hi
      obtain ⟨sh0, Z, z1, z2, z3, -, -, -, -, z6, -⟩ := arr_J (al := gal NL) (wo := 99) (x := 0) (y := 0) (all := false) (p2 := 0) (p3 := -1) (p4 := -1) (p5 := -1) hN hJ hb0 ⟨fun _ => rfl, fun _ => rfl⟩ wo99 (Or.inl rfl)
      have him : i ∈ lvs (X 44 0) b0 L := lvs_mem.mpr ⟨hi, h44⟩
      obtain ⟨n, hn, hmn⟩ := mask_n (by omega) him (z6 i him)
      refine ⟨n, hn, fun b sh _ hb h44' h53 hsh => ?_⟩
      have : b = b0 := (zn_eq (by omega) (by omega)).mp (h44'.symm.trans h44)
      subst this
      have : sh = sh0 := (zn_eq (by omega) (by omega)).mp (h53.symm.trans z3)
      subst this
      rw [← hmn]
      exact z6 i him
    · exact ⟨0, by omega, fun b sh h => absurd h hi⟩
  obtain ⟨f, hf⟩ := Classical.axiomOfChoice key
  exact ⟨f, hf⟩
theorem worth_class {NL : List (Nat × Nat)} {N L F D W K : Nat} {X : gM} {f : Nat → Nat} (hN : 1000000 ≤ N) (hJ : JJ NL L F D W K X) (hf : ∀ i, f i < 256 ∧ ∀ b sh, i < L → b < 2 → X 44 0 i = nI b → X 53 0 b = nI sh → sh ≤ 4 → ∀ v, v < 32 → (mb (nI (f i)) v = true ↔ nc (2 * sh) (fun a => fit X F (2 * sh) (lvs (X 44 0) b L) false 99 a ∧ a i = v) (lvs (X 44 0) b L) a00 ≠ 0)) (hVM : ∀ i, i < L → wV X f i ≤ 256) :
    ∃ Y, X9_worth (gal NL) N X = some ((bst (wV X f) L).1, Y) ∧ JJ NL L F D W K Y ∧ ∀ k p j, ¬ (14 ≤ k ∧ k ≤ 20) → Y k p j = X k p j := by
  have hL : L ≤ 10 := hJ.2.1.1
  have hb256 : ∀ n, n ≤ L → (bst (wV X f) n).2 ≤ 256 := fun n => by
    induction n with
    | zero => exact fun _ => Nat.zero_le _
    | succ n ih =>
      intro hn
      unfold bst
      split
      · exact ih (by omega)
      · exact hVM n (by omega)
  unfold X9_worth
  refine m_up0 10 (fun fu i (s : (Int32 × Int32) × gM) => X9_worth_L16 (gal NL) N (fun p1 Y => X9_worth_J89 (gal NL) N p1 Y) fu s.1.1 s.1.2 10 i s.2)
    (fun i s => s.1.1 = (bst (wV X f) (if i < L then i else L)).1 ∧ s.1.2 = nI (bst (wV X f) (if i < L then i else L)).2 ∧ JJ NL L F D W K s.2 ∧ ∀ k p j, ¬ (14 ≤ k ∧ k ≤ 20) → s.2 k p j = X k p j) (fun o => ∃ Y, o = some ((bst (wV X f) L).1, Y) ∧ JJ NL L F D W K Y ∧ ∀ k p j, ¬ (14 ≤ k ∧ k ≤ 20) → Y k p j = X k p j) ((-1, 0), X) (by omega) ?_ ?_ ?_
  · rintro i fu ⟨⟨p1, p2⟩, y⟩ hi ⟨h1, h2, h3, h4⟩ ih
    simp only at h1 h2 h3 h4
    have n10 : ¬ (10 : Int32) ≤ nI i := fun q => by
      have := (zn_lle (k := 10) (by omega) (by decide)).mp q
      have e8 : (OfNat.ofNat 10 : Nat) = 10 := rfl
      omega
    obtain ⟨g1, g2, g3, -, -, g6, -⟩ := id h3
    obtain ⟨-, -, -, hy4, hlv⟩ := id g2
    show ∃ Y, X9_worth_L16 (gal NL) N (fun p1 Y => X9_worth_J89 (gal NL) N p1 Y) (fu + 1) p1 p2 10 (nI i) y = some (_, Y) ∧ _
    unfold X9_worth_L16
    rw [if_neg n10, rd_nI hi (by omega), Option.bind_some, hy4]
    by_cases c : i < L
    · rw [if_pos c] at h1 h2
      have ee : (if i + 1 < L then i + 1 else L) = i + 1 := by
        by_cases c2 : i + 1 < L
        · rw [if_pos c2]
        · rw [if_neg c2]; omega
      obtain ⟨b, ln, w, hb, hln1, hln, hw1, hw, h44, h45, h46, h50, h51, -⟩ := hlv i c
      have ha5 : gal NL 5 i = true := gal_al g1 c
      have ha : gal NL 12 b = true := gal_al g1 hb
      have hs : 3 * b < 6 := by omega
      have hsb : 3 * b / 3 = b := by omega
      have hall : decide (3 * b % 3 = 1) = false := decide_eq_false (by omega)
      have has : gal NL 14 (3 * b) = true := gal_al g1 hs
      have hsur : X5_surveyed (gal NL) N b 0 y = X5_surveyed_J15 (gal NL) N b (3 * b) y := by unfold X5_surveyed; rw [if_pos rfl]
      obtain ⟨Y, y1, y2, y3, hJY⟩ := surv_J (N := N) (by omega) h3 hs hsb
      have hYX : ∀ k p j, ¬ (14 ≤ k ∧ k ≤ 20) → Y k p j = X k p j := fun k p j hk => by rw [y2 k p j (by omega), h4 k p j hk]
      obtain ⟨-, gY2, gY3, -, -, ⟨-, hBY⟩, -⟩ := id hJY
      obtain ⟨-, -, -, -, hlvY⟩ := gY2
      obtain ⟨sh, sh1, sh4, h53, -⟩ := hBY b hb
      have eY44 : Y 44 0 = X 44 0 := funext fun j => hYX 44 0 j (by omega)
      have hsv := svOK_of hJY hs y3 sh _ sh4 (by rw [hsb]; exact h53) rfl
      have hmask : Y 15 (3 * b) i = nI (f i) := masks_eq (fun v hv => by
        have h1 := hsv.2.1 i (by rw [hsb, eY44]; exact lvs_mem.mpr ⟨c, by rw [← hYX 44 0 i (by omega), y2 44 0 i (by omega)]; exact h44⟩) v hv
        rw [hall, hsb, eY44] at h1
        have : nc (2 * sh) (fun a => fit Y F (2 * sh) (lvs (X 44 0) b L) false 99 a ∧ a i = v) (lvs (X 44 0) b L) a00 = nc (2 * sh) (fun a => fit X F (2 * sh) (lvs (X 44 0) b L) false 99 a ∧ a i = v) (lvs (X 44 0) b L) a00 := nc_cgv _ _ fun a _ => and_congr (fit_e (fun k j k1 k2 => hYX k 0 j (by omega)) a) Iff.rfl
        rw [this] at h1
        exact h1) (fun v hv => (hf i).2 b sh c hb (by rw [← h4 44 0 i (by omega)]; exact h44) (by rw [← hYX 53 0 b (by omega)]; exact h53) sh4 v hv)
      have eplaces : X9_placesOf (gal NL) N i 0 y = some (nI (f i), Y) := by
        unfold X9_placesOf
        rw [h51, dr_nI ha (by omega), Option.bind_some, hsur, y1, bind2_some, dr_nI has (by omega), Option.bind_some, y2 5 i 0 (by omega), h50, rd_nI (by omega) (by omega), Option.bind_some, hmask]
      obtain ⟨b', ln', w', -, -, hln', hw1', hw', -, h45', h46', -, -, -, -, h6', -⟩ := hlvY i c
      have emx : mxB Y = mxB X := by
        unfold mxB
        rw [show Y 56 0 = X 56 0 from funext fun j => hYX 56 0 j (by omega), show Y 54 0 = X 54 0 from funext fun j => hYX 54 0 j (by omega), show Y 55 0 = X 55 0 from funext fun j => hYX 55 0 j (by omega)]
      have emix := mixed_class (al := gal NL) (N := N) (by omega) hln' hw' hw1' (by omega) h6' (fun j hj => gal_al hJY.1 ⟨i, ln', w', j, c, h45', h46', hln', hw', hj, rfl⟩) (fun l cc hl hc => (gY3 i ln' w' c h45' h46' hln' hw' l cc hl hc).2.2.1)
      have eV : wV X f i = cntP (mxB X i w') (ln' * w') * fac (f i) := by
        unfold wV
        rw [← hYX 46 0 i (by omega), ← hYX 45 0 i (by omega), h45', h46', zn_tN (by omega), zn_tN (by omega)]
      have hV := hVM i c
      have hB := hb256 i (by omega)
      have tail : X9_worth_J65 (gal NL) N (X9_worth_L16 (gal NL) N (fun p1 Y => X9_worth_J89 (gal NL) N p1 Y) fu) (fun p1 Y => X9_worth_J89 (gal NL) N p1 Y) p1 p2 10 (nI i) (nI i) (nI (cntP (mxB X i w') (ln' * w'))) (nI (fac (f i))) Y = X9_worth_L16 (gal NL) N (fun p1 Y => X9_worth_J89 (gal NL) N p1 Y) fu (bst (wV X f) (i + 1)).1 (nI (bst (wV X f) (i + 1)).2) 10 (nI (i + 1)) Y := by
        unfold X9_worth_J65
        have eb : bst (wV X f) (i + 1) = if wV X f i ≤ (bst (wV X f) i).2 then bst (wV X f) i else (nI i, wV X f i) := rfl
        rw [gl_eq, zn_mul, ← eV, h2]
        by_cases c2 : wV X f i ≤ (bst (wV X f) i).2
        · rw [if_pos ((zn_le (by omega) (by omega)).mpr c2), eb, if_pos c2, ← h1]
          show X9_worth_L16 (gal NL) N _ fu p1 _ 10 (nI i + 1) Y = _
          rw [zn_a1]
        · have h5i : Y 5 i 0 = nI i := by rw [y2 5 i 0 (by omega), h50]
          rw [if_neg (fun q => c2 ((zn_le (by omega) (by omega)).mp q)), eb, if_neg c2, dr_nI ha5 (by omega), Option.bind_some, gl_eq, h5i]
          show X9_worth_L16 (gal NL) N _ fu (nI i) (nI (wV X f i)) 10 (nI i + 1) Y = _
          rw [zn_a1]
      rw [if_pos c, if_neg (zn_nn (by omega)), dr_nI ha5 (by omega), Option.bind_some, eplaces, bind2_some, emix, bind2_some, emx]
      have fin := ih ((_, _), Y) ⟨(by show _ = (bst (wV X f) (if i + 1 < L then i + 1 else L)).1; rw [ee]), (by show _ = nI (bst (wV X f) (if i + 1 < L then i + 1 else L)).2; rw [ee]), hJY, hYX⟩
      by_cases c0 : f i = 0
      · have e1 : nI (fac (f i)) = 1 := by unfold fac; rw [if_pos c0]; rfl
        rw [if_pos (by rw [c0]; rfl), ← e1, tail]
        exact fin
      · have e1 : nI (fac (f i)) = nI (popk 8 (f i)) := by unfold fac; rw [if_neg c0]
        have := (hf i).1
        rw [if_neg (fun q => c0 ((zn_eql (k := 0) (by omega) (by decide)).mp q)), bcE_eq, bind2_some, bcE_256 _ (hf i).1, ← e1, tail]
        exact fin
    · rw [if_neg c] at h1 h2
      rw [if_neg c, if_pos (by decide)]
      show ∃ Y, X9_worth_L16 (gal NL) N _ fu p1 p2 10 (nI i + 1) y = some (_, Y) ∧ _
      rw [zn_a1]
      refine ih ((p1, p2), y) ⟨?_, ?_, h3, h4⟩
      · show p1 = (bst (wV X f) (if i + 1 < L then i + 1 else L)).1
        rw [if_neg (by omega)]; exact h1
      · show p2 = nI (bst (wV X f) (if i + 1 < L then i + 1 else L)).2
        rw [if_neg (by omega)]; exact h2
  · rintro fu ⟨⟨p1, p2⟩, y⟩ ⟨h1, h2, h3, h4⟩
    have h1' : p1 = (bst (wV X f) (if 10 < L then 10 else L)).1 := h1
    rw [if_neg (by omega)] at h1'
    show ∃ Y, X9_worth_L16 (gal NL) N (fun p1 Y => X9_worth_J89 (gal NL) N p1 Y) (fu + 1) p1 p2 10 (nI 10) y = some (_, Y) ∧ _
    unfold X9_worth_L16
    rw [if_pos (by decide)]
    refine ⟨y, ?_, h3, h4⟩
    rw [← h1']
    rfl
  · have e : (if 0 < L then 0 else L) = 0 := by
      by_cases c : 0 < L
      · rw [if_pos c]
      · rw [if_neg c]; omega
    refine ⟨?_, ?_, hJ, fun _ _ _ _ => rfl⟩
    · show (-1 : Int32) = (bst (wV X f) (if 0 < L then 0 else L)).1
      rw [e]; rfl
    · show (0 : Int32) = nI (bst (wV X f) (if 0 < L then 0 else L)).2
      rw [e]; rfl
