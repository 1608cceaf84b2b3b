/-! edition, rests -/
theorem lvs_lt {x : Nat → Int32} {b n : Nat} : ∀ {i j u v : Nat}, (lvs x b n)[i]? = some u → (lvs x b n)[j]? = some v → i < j → u < v := by
  induction n with
  | zero => intro i j u v h; simp [lvs] at h
  | succ n ih =>
    intro i j u v hi hj hij
    by_cases c : x n = nI b
    · have el : lvs x b (n + 1) = lvs x b n ++ [n] := by
        show lvs x b n ++ (if x n = nI b then [n] else []) = _
        rw [if_pos c]
      rw [el] at hi hj
      have h2 := lt_some hj
      rw [List.length_append] at h2
      have e1 : [n].length = 1 := rfl
      rw [List.getElem?_append_left (by omega)] at hi
      by_cases cj : j < (lvs x b n).length
      · rw [List.getElem?_append_left cj] at hj
        exact ih hi hj hij
      · have : j = (lvs x b n).length := by omega
        subst this
        rw [List.getElem?_append_right (Nat.le_refl _), Nat.sub_self] at hj
        have : n = v := Option.some.inj hj
        subst this
        exact (lvs_mem.mp (List.mem_of_getElem? hi)).1
    · have el : lvs x b (n + 1) = lvs x b n := by
        show lvs x b n ++ (if x n = nI b then [n] else []) = _
        rw [if_neg c, List.append_nil]
      rw [el] at hi hj
      exact ih hi hj hij
/-- the lowest leaf with this mask -/
def edS (M : Nat → Int32) (m : Int32) (ls : List Nat) (r : Int32) : Prop := (∃ l, l ∈ ls ∧ M l = m ∧ r = nI l ∧ ∀ u ∈ ls, u < l → M u ≠ m) ∨ (r = -1 ∧ ∀ l ∈ ls, M l ≠ m)
theorem edS_u {M : Nat → Int32} {m : Int32} {ls : List Nat} {r r' : Int32} (h : edS M m ls r) (h' : edS M m ls r') : r = r' := by
  rcases h with ⟨l, h1, h2, h3, h4⟩ | ⟨h1, h2⟩
  · rcases h' with ⟨l', k1, k2, k3, k4⟩ | ⟨k1, k2⟩
    · have : l = l' := by
        apply Classical.byContradiction
        intro hne
        by_cases c : l < l'
        · exact k4 l h1 c h2
        · exact h4 l' k1 (by omega) k2
      rw [h3, k3, this]
    · exact absurd h2 (k2 l h1)
  · rcases h' with ⟨l', k1, k2, k3, k4⟩ | ⟨k1, k2⟩
    · exact absurd k2 (h2 l' k1)
    · rw [h1, k1]
theorem ed_class {al : Nat → Nat → Bool} {N s b L : Nat} {X : gM} {m p2 : Int32} (hN : 1000 ≤ N) (hm : m = (1 : Int32) <<< (p2 &&& 31)) (h6 : (lvs (X 44 0) b L).length ≤ 6) (hL : L ≤ 10) (h13 : ∀ j, X 13 b j = lvg (lvs (X 44 0) b L) j) (has : al 14 s = true) (hs : s < 6) (hal : ∀ l ∈ lvs (X 44 0) b L, al 5 l = true ∧ X 5 l 0 = nI l) :
    ∃ r, X9_edition_L51 al N (fun p8 Y => X9_edition_J87 al N p8 Y) (fun Y => X9_edition_J99 al N Y) N p2 (nI s) b 6 0 X = some (0, r, X) ∧ edS (X 15 s) m (lvs (X 44 0) b L) r := by
  refine m_up0 6 (fun fu i (_ : Unit) => X9_edition_L51 al N (fun p8 Y => X9_edition_J87 al N p8 Y) (fun Y => X9_edition_J99 al N Y) fu p2 (nI s) b 6 i X)
    (fun i _ => ∀ l ∈ (lvs (X 44 0) b L).take i, X 15 s l ≠ m) (fun o => ∃ r, o = some (0, r, X) ∧ edS (X 15 s) m (lvs (X 44 0) b L) r) () (by omega) ?_ ?_ (fun l hl => (by rw [List.take_zero] at hl; cases hl))
  · rintro i fu _ hi hI ih
    have n6 : ¬ (6 : Int32) ≤ nI i := fun q => by
      have := (zn_lle (k := 6) (by omega) (by decide)).mp q
      have e8 : (OfNat.ofNat 6 : Nat) = 6 := rfl
      omega
    show ∃ r, X9_edition_L51 al N (fun p8 Y => X9_edition_J87 al N p8 Y) (fun Y => X9_edition_J99 al N Y) (fu + 1) p2 (nI s) b 6 (nI i) X = some (0, r, X) ∧ _
    unfold X9_edition_L51
    rw [if_neg n6, rd_nI hi (by omega), Option.bind_some, h13]
    cases hg : (lvs (X 44 0) b L)[i]? with
    | none =>
      rw [lvg_none hg, if_pos (by decide)]
      show ∃ r, X9_edition_L51 al N _ _ fu p2 (nI s) b 6 (nI i + 1) X = some (0, r, X) ∧ _
      rw [zn_a1]
      exact ih () (by rw [take_none hg]; exact hI)
    | some l =>
      have hml : l ∈ lvs (X 44 0) b L := List.mem_of_getElem? hg
      have hl10 : l < L := (lvs_mem.mp hml).1
      obtain ⟨q1, q2⟩ := hal l hml
      rw [lvg_some hg, if_neg (zn_nn (by omega)), dr_nI has (by omega), Option.bind_some, dr_nI q1 (by omega), Option.bind_some, q2, rd_nI (by omega) (by omega), Option.bind_some]
      by_cases c : X 15 s l = m
      · rw [if_pos (by rw [c, hm])]
        refine ⟨nI l, ?_, Or.inl ⟨l, hml, c, rfl, fun u hu hul => ?_⟩⟩
        · show (dr al 5 (nI l)).bind _ = _
          rw [dr_nI q1 (by omega), Option.bind_some, q2]
        · obtain ⟨j, hj, hju⟩ := List.mem_iff_getElem.mp hu
          have hju' : (lvs (X 44 0) b L)[j]? = some u := by rw [List.getElem?_eq_getElem hj, hju]
          by_cases cij : j < i
          · exact hI u (take_of hju' cij)
          · by_cases eij : j = i
            · subst eij
              have : u = l := Option.some.inj (hju'.symm.trans hg)
              omega
            · have := lvs_lt hg hju' (by omega)
              omega
      · rw [if_neg (fun q => c (by rw [q, hm]))]
        show ∃ r, X9_edition_L51 al N _ _ fu p2 (nI s) b 6 (nI i + 1) X = some (0, r, X) ∧ _
        rw [zn_a1]
        refine ih () fun u hu => ?_
        rcases (take_mem hg).mp hu with z | z
        · exact hI u z
        · rw [z]; exact c
  · rintro fu _ hI
    show ∃ r, X9_edition_L51 al N (fun p8 Y => X9_edition_J87 al N p8 Y) (fun Y => X9_edition_J99 al N Y) (fu + 1) p2 (nI s) b 6 (nI 6) X = some (0, r, X) ∧ _
    unfold X9_edition_L51
    rw [if_pos (by decide)]
    refine ⟨-1, rfl, Or.inr ⟨rfl, fun l hl => hI l ?_⟩⟩
    rw [List.take_of_length_le h6]
    exact hl
theorem ed_model {al : Nat → Nat → Bool} {N b L : Nat} {X : gM} {m p2 : Int32} (hN : 1000 ≤ N) (hb : b < 2) (hm : m = (1 : Int32) <<< (p2 &&& 31)) (hL : L ≤ 10) (h0 : X 43 0 0 = nI L) :
    ∃ r, X10_edition_L72 al N (fun p3 Y => X10_edition_J102 al N p3 Y) (fun Y => X10_edition_J110 al N Y) N (nI b) p2 0 X = some (r, X) ∧ edS (X 77 0) m (lvs (X 44 0) b L) r := by
  refine m_up0 L (fun fu i (_ : Unit) => X10_edition_L72 al N (fun p3 Y => X10_edition_J102 al N p3 Y) (fun Y => X10_edition_J110 al N Y) fu (nI b) p2 i X)
    (fun i _ => ∀ l ∈ lvs (X 44 0) b L, l < i → X 77 0 l ≠ m) (fun o => ∃ r, o = some (r, X) ∧ edS (X 77 0) m (lvs (X 44 0) b L) r) () (by omega) ?_ ?_ (fun l _ hl => by omega)
  · rintro i fu _ hi hI ih
    have nL : ¬ nI L ≤ nI i := fun q => by
      have := (zn_le (by omega) (by omega)).mp q
      omega
    have skip : ¬ (i ∈ lvs (X 44 0) b L ∧ X 77 0 i = m) → ∃ r, X10_edition_L72 al N (fun p3 Y => X10_edition_J102 al N p3 Y) (fun Y => X10_edition_J110 al N Y) fu (nI b) p2 (nI i + 1) X = some (r, X) ∧ edS (X 77 0) m (lvs (X 44 0) b L) r := fun hc => by
      rw [zn_a1]
      refine ih () fun l hl hli => ?_
      have hli' : l < i + 1 := hli
      by_cases e : l = i
      · subst e
        exact fun q => hc ⟨hl, q⟩
      · exact hI l hl (by omega)
    show ∃ r, X10_edition_L72 al N (fun p3 Y => X10_edition_J102 al N p3 Y) (fun Y => X10_edition_J110 al N Y) (fu + 1) (nI b) p2 (nI i) X = some (r, X) ∧ _
    unfold X10_edition_L72
    rw [h0, if_neg nL, rd_nI (by omega) (by omega), Option.bind_some]
    by_cases c1 : X 44 0 i = nI b
    · rw [if_pos c1, Option.bind_some]
      by_cases c2 : X 77 0 i = m
      · rw [if_pos (by rw [c2, hm])]
        exact ⟨nI i, rfl, Or.inl ⟨i, lvs_mem.mpr ⟨hi, c1⟩, c2, rfl, fun u hu hui => hI u hu hui⟩⟩
      · rw [if_neg (fun q => c2 (by rw [q, hm]))]
        exact skip fun q => c2 q.2
    · rw [if_neg c1]
      exact skip fun q => c1 (lvs_mem.mp q.1).2
  · rintro fu _ hI
    show ∃ r, X10_edition_L72 al N (fun p3 Y => X10_edition_J102 al N p3 Y) (fun Y => X10_edition_J110 al N Y) (fu + 1) (nI b) p2 (nI L) X = some (r, X) ∧ _
    unfold X10_edition_L72
    rw [h0, if_pos (Int32.le_refl _)]
    exact ⟨-1, rfl, Or.inr ⟨rfl, fun l hl => hI l hl (lvs_mem.mp hl).1⟩⟩
theorem edS_cg {M M' : Nat → Int32} {m r : Int32} {ls : List Nat} (h : ∀ l ∈ ls, M l = M' l) (g : edS M m ls r) : edS M' m ls r := by
  rcases g with ⟨l, h1, h2, h3, h4⟩ | ⟨h1, h2⟩
  · exact Or.inl ⟨l, h1, by rw [← h l h1]; exact h2, h3, fun u hu hul => by rw [← h u hu]; exact h4 u hu hul⟩
  · exact Or.inr ⟨h1, fun l hl => by rw [← h l hl]; exact h2 l hl⟩
theorem case22 {NL : List (Nat × Nat)} {al : Nat → Nat → Bool} {N : Nat} {X : gM} (hN : 1000000 ≤ N) (a1 a2 a3 a4 a5 a6 : Int32) (h : gJ NL X) : ∃ (rr : Int32) (X' : gM), K22 (gal NL) al N [] a1 a2 a3 a4 a5 a6 X = some (rr, X') ∧ gJ NL X' := by
  unfold K22
  rw [eqn_nil, Option.bind_some]
  obtain ⟨L, F, D, W, K, hJ⟩ := id h
  have hJ' : JJ NL L F D W K X := hJ
  obtain ⟨g1, g2, g3, g4, g5, g6, g7, g8, g9, g10, g11, g12⟩ := id hJ
  obtain ⟨h11, hB⟩ := id g6
  obtain ⟨hL, h430, -, h4, hlv⟩ := id g2
  have mm : ∀ (Z : gM) (v w : Int32), mset (mset Z 43 0 46 v) 43 0 46 w = mset Z 43 0 46 w := fun Z v w => by
    funext k p j
    rw [mset_at, mset_at, mset_at]
    by_cases c : k = 43 ∧ p = 0 ∧ j = 46
    · rw [if_pos c, if_pos c]
    · rw [if_neg c, if_neg c, if_neg c]
  have bad : X9_edition (gal NL) N a1 a2 X = some (1, 0, X) → X10_edition al N a1 a2 X = some (0, mset X 43 0 46 1) → ∃ (rr : Int32) (X' : gM), (bind2 (L_edition (gal NL) N a1 a2 X) fun k1 X1 => bind2 (X10_edition al N a1 a2 X1) fun k2 X2 => bind2 (X10_thrown al N X2) fun k3 X3 => if k3 = k1 then (if k1 = (0 : Int32) then (if X3 81 0 0 = k2 then some ((0 : Int32), X3) else none) else some ((0 : Int32), X3)) else none) = some (rr, X') ∧ gJ NL X' := fun h1 h2 => by
    refine ⟨_, _, K_thrown (k := 1) (r := 0) (X1 := X) (X2 := mset X 43 0 46 1) ?_ h2 (mset_same ..) (by decide), gJ_th _ h⟩
    unfold L_edition
    rw [h1, bind3_some]
    rfl
  have th : ∀ Z : gM, X10_edition_J44 al N a1 a2 Z = some (0, mset Z 43 0 46 1) := fun Z => by
    unfold X10_edition_J44 X10_edition_J49
    rw [gl_eq, mset_same, if_neg (by decide)]
  rcases ir_or a1 (n := 2) (by omega) with ⟨b, hb, rfl⟩ | hb
  · obtain ⟨sh, sh1, sh4, h53, h120, h122, hm6, hms, h13⟩ := hB b hb
    have hir : (0 : Int32) ≤ nI b ∧ nI b ≤ 1 := (ir_2 _).mpr (ir_nI (by omega) hb)
    have ha : gal NL 12 b = true := gal_al g1 hb
    have hmod : ∀ Z : gM, Z 53 0 b = nI sh → X10_edition al N (nI b) a2 Z = if ir a2 (2 * sh) then X10_edition_J49 al N (nI b) a2 0 (mset Z 43 0 46 0) else X10_edition_J44 al N (nI b) a2 (mset Z 43 0 46 0) := fun Z hZ => by
      unfold X10_edition
      rw [X10_in_eq, bind2_some, if_pos hir, if_neg (by decide)]
      unfold X10_edition_J15
      have e : (0 ≤ a2 ∧ a2 ≤ 2 * nI sh - 1) ↔ ir a2 (2 * sh) := by
        rw [zn_lmul]
        show (0 ≤ a2 ∧ a2 ≤ nI (2 * sh) - 1) ↔ _
        rw [le_pred (by omega)]
      rw [gl_eq, mset_same, if_neg (by decide), rd_nI hb (by omega), Option.bind_some, mset_at, if_neg (by omega), hZ, X10_in_eq, bind2_some]
      by_cases c : ir a2 (2 * sh)
      · rw [if_pos (e.mpr c), if_neg (by decide), if_pos c]
      · rw [if_neg (mt e.mp c), if_pos rfl, if_neg c]
    by_cases hp : ir a2 (2 * sh)
    · have hs : 3 * b < 6 := by omega
      have hsb : 3 * b / 3 = b := by omega
      have hall : decide (3 * b % 3 = 1) = false := decide_eq_false (by omega)
      have hsur : X5_surveyed (gal NL) N b 0 X = X5_surveyed_J15 (gal NL) N b (3 * b) X := by unfold X5_surveyed; rw [if_pos rfl]
      obtain ⟨Y, y1, y2, y3, hJY⟩ := surv_J (N := N) (by omega) hJ' hs hsb
      have has : gal NL 14 (3 * b) = true := gal_al g1 hs
      obtain ⟨-, gY2, -, -, -, ⟨-, hBY⟩, -⟩ := id hJY
      obtain ⟨-, -, -, -, hlvY⟩ := gY2
      obtain ⟨shY, -, -, h53Y, -, -, hm6Y, -, h13Y⟩ := hBY b hb
      obtain ⟨r, r1, r2⟩ := ed_class (al := gal NL) (N := N) (p2 := a2) (by omega) rfl hm6Y hL h13Y has hs (fun l hl => by
        have hlL := (lvs_mem.mp hl).1
        obtain ⟨b', ln, w, -, -, -, -, -, -, -, -, h50, -⟩ := hlvY l hlL
        exact ⟨gal_al g1 hlL, h50⟩)
      have hSm := (Sm_out (X := Y) r 0).set (K := 43) (i := 0) (j := 46) (v := 0) rfl
      have hJZ := JJ_sm hSm hJY
      generalize hG : mset (mset (mset Y 81 0 0 r) 43 0 46 0) 43 0 46 0 = G at hSm hJZ
      have eG : ∀ k p j, k ≠ 43 → k ≠ 81 → G k p j = Y k p j := fun k p j q1 q2 => by rw [← hG, mset_at, if_neg (fun z => q1 z.1), mset_at, if_neg (fun z => q1 z.1), mset_at, if_neg (fun z => q2 z.1)]
      have eG44 : G 44 0 = Y 44 0 := funext fun j => eG 44 0 j (by omega) (by omega)
      obtain ⟨sh', Z, z1, z2, z3, z4, zf, z5, -, z6, -⟩ := arr_J (al := al) (wo := 99) (x := 0) (y := 0) (all := false) (p2 := 0) (p3 := -1) (p4 := -1) (p5 := -1) hN hJZ hb ⟨fun _ => rfl, fun _ => rfl⟩ wo99 (Or.inl rfl)
      have hsv := svOK_of hJZ hs (by rw [eG 14 _ 2 (by omega) (by omega)]; exact y3) sh' _ z2 (by rw [hsb]; exact z3) rfl
      have eZ44 : Z 44 0 = Y 44 0 := funext fun j => by rw [zf 44 0 j (by omega) (by omega) (fun z => by omega) (by omega), eG44]
      obtain ⟨r', r3, r4⟩ := ed_model (al := al) (N := N) (X := Z) (p2 := a2) (L := L) (by omega) hb rfl hL (by rw [zf 43 0 0 (by omega) (by omega) (fun z => by omega) (by omega)]; exact hJZ.2.1.2.1)
      have hrr : r' = r := by
        rw [eZ44] at r4
        refine edS_u (edS_cg (fun l hl => ?_) r4) r2
        have hlG : l ∈ lvs (G 44 0) b L := by rw [eG44]; exact hl
        refine masks_eq (z6 l hlG) (fun v hv => ?_)
        have h1 := hsv.2.1 l (by rw [hsb]; exact hlG) v hv
        rw [hall, hsb, eG 15 _ _ (by omega) (by omega)] at h1
        exact h1
      refine ⟨_, _, K_ans (r := r) (X1 := mset Y 81 0 0 r) (X2 := Z) ?_ ?_ ?_ ?_, JJ_gJ (JJ_sm z5 hJZ)⟩
      · unfold L_edition X9_edition
        rw [X9_quireOf_yes h11 hb, bind2_some, if_neg (zn_nn (by omega)), dr_nI ha (by omega), Option.bind_some, X5_hasPlace_eq h120 sh4, bind2_some, if_pos hp, if_neg (by decide), hsur, y1, bind2_some, r1, bind3_some, if_pos rfl]
      · rw [hmod _ (by rw [mset_at, if_neg (by omega), y2 53 0 b (by omega), h53]), if_pos hp]
        unfold X10_edition_J49
        rw [gl_eq, mset_same, if_pos (by decide), hG, z4, bind2_some, r3, hrr]
      · rw [zf 43 0 46 (by omega) (by omega) (fun z => by omega) (by omega), ← hG, mset_same]
      · rw [zf 81 0 0 (by omega) (by omega) (fun z => by omega) (by omega), ← hG, mset_at, if_neg (by omega), mset_at, if_neg (by omega), mset_same]
    · refine bad ?_ ?_
      · unfold X9_edition
        rw [X9_quireOf_yes h11 hb, bind2_some, if_neg (zn_nn (by omega)), dr_nI ha (by omega), Option.bind_some, X5_hasPlace_eq h120 sh4, bind2_some, if_neg hp, if_pos rfl]
        rfl
      · rw [hmod X h53, if_neg hp, th, mm]
  · refine bad ?_ ?_
    · unfold X9_edition
      rw [X9_quireOf_no hb, bind2_some, if_pos m1_neg]
      rfl
    · unfold X10_edition
      rw [X10_in_eq, bind2_some, if_neg (fun q => hb ((ir_2 _).mp q)), if_pos rfl]
      unfold X10_edition_J15
      rw [gl_eq, mset_same, if_pos (by decide), th, mm]
