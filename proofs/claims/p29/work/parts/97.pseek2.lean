/-! arrangements: may a leaf stand there; what is kept -/
theorem canStand_eq {al : Nat → Nat → Bool} {N s b F P l p1 : Nat} {X : gM} {ls fl : List Nat} {all sp : Bool} {S : Nat → Bool} {a : Nat → Nat} {p4 : Int32} (hB : sB al X s b F P ls fl all sp) (hS : sS X s p1 ls S a) (hl : l ∈ ls) (hp1 : p1 < 8) :
    ∃ r : Int32, X7_canStand al N s l (nI p1) p4 X = some (r, X) ∧ (r = 0 ∨ r = 1) ∧ (r = 0 ↔ (S l = true ∨ ¬ (X 48 0 l &&& p4 = 0) ∨ ∃ u, S u = true ∧ a u + 1 = p1 ∧ X 47 0 l ≠ -1 ∧ X 47 0 u ≠ -1 ∧ X 47 0 l = X 47 0 u)) := by
  obtain ⟨⟨b1, b2, b3, b4, b5⟩, ⟨b6, b7⟩, -, -, -⟩ := id hB
  obtain ⟨s1, s2, s3, s4, s5⟩ := hS
  obtain ⟨w1, w2, w3, w4, v, w5, w6⟩ := b7 l hl
  have hl10 := b2 l hl
  have u : ¬ ((1 : Int32) = 0) := by decide
  unfold X7_canStand
  rw [w2, rd_nI hl10 (by omega), Option.bind_some, s1 l hl, w4]
  cases hSl : S l with
  | true =>
    have := (s3 l hSl).2
    rw [if_pos rfl, if_neg (zn_ne1 (by omega))]
    exact ⟨0, rfl, Or.inl rfl, fun _ => Or.inl rfl, fun _ => rfl⟩
  | false =>
    rw [show (if (false = true) then nI (a l) else (-1 : Int32)) = -1 from if_neg (by decide), if_pos rfl]
    by_cases c1 : X 48 0 l &&& p4 = 0
    · rw [if_pos c1]
      by_cases c2 : p1 = 0
      · subst c2
        rw [if_pos (by decide)]
        refine ⟨1, ?_, Or.inr rfl, fun q => absurd q u, ?_⟩
        · unfold X7_canStand_J40
          rw [if_pos (by decide)]
          rfl
        · rintro (q | q | ⟨z, q1, q2, -⟩)
          · cases q
          · exact absurd c1 q
          · omega
      · have n1 : ¬ nI p1 ≤ (0 : Int32) := fun q => by
          have := (zn_lel (k := 0) (by omega) (by decide)).mp q
          have e0 : (OfNat.ofNat 0 : Nat) = 0 := rfl
          omega
        rw [if_neg n1, zn_s1 (a := p1) (by omega)]
        show ∃ r : Int32, (rd (nI (p1 - 1)) 8).bind _ = _ ∧ _
        rw [rd_nI (by omega) (by omega), Option.bind_some]
        unfold X7_canStand_J40
        rcases s2 (p1 - 1) (by omega) with ⟨z, z1, z2, z3⟩ | ⟨z1, z2⟩
        · have hz10 := b2 z (s3 z z1).1
          obtain ⟨y1, y2, y3, y4, y5⟩ := b7 z (s3 z z1).1
          rw [z3, if_neg (zn_nn (by omega)), dr_nI y1 (by omega), Option.bind_some]
          obtain ⟨r, r1, r2, r3⟩ := unlike_eq (al := al) (N := N) (i := l) (j := z) (X := X)
          rw [r1, bind2_some]
          rw [w3, y3] at r3
          have key : r = 0 ↔ (false = true ∨ ¬ (X 48 0 l &&& p4 = 0) ∨ ∃ u, S u = true ∧ a u + 1 = p1 ∧ X 47 0 l ≠ -1 ∧ X 47 0 u ≠ -1 ∧ X 47 0 l = X 47 0 u) := by
            rw [r3]
            constructor
            · intro q
              exact Or.inr (Or.inr ⟨z, z1, by omega, q⟩)
            · rintro (q | q | ⟨z', q1, q2, q3⟩)
              · cases q
              · exact absurd c1 q
              · have : z' = z := s4 z' z q1 z1 (by omega)
                subst this
                exact q3
          by_cases c3 : r = 0
          · rw [if_pos c3]
            exact ⟨0, rfl, Or.inl rfl, fun _ => key.mp c3, fun _ => rfl⟩
          · rw [if_neg c3]
            exact ⟨1, rfl, Or.inr rfl, fun q => absurd q u, fun q => absurd (key.mpr q) c3⟩
        · rw [z1, if_pos (by decide)]
          refine ⟨1, rfl, Or.inr rfl, fun q => absurd q u, ?_⟩
          rintro (q | q | ⟨z, q1, q2, -⟩)
          · cases q
          · exact absurd c1 q
          · exact absurd (by omega) (z2 z q1)
    · rw [if_neg c1]
      exact ⟨0, rfl, Or.inl rfl, fun _ => Or.inr (Or.inl c1), fun _ => rfl⟩
theorem lvg_some {ls : List Nat} {i l : Nat} (h : ls[i]? = some l) : lvg ls i = nI l := by unfold lvg; rw [h]
theorem lvg_none {ls : List Nat} {i : Nat} (h : ls[i]? = none) : lvg ls i = -1 := by unfold lvg; rw [h]
theorem take_none {ls : List Nat} {i : Nat} (h : ls[i]? = none) : ls.take (i + 1) = ls.take i := by rw [List.take_succ, h]; simp
theorem keep_L20 {al : Nat → Nat → Bool} {N s b F P : Nat} {X : gM} {ls fl : List Nat} {all sp : Bool} {a : Nat → Nat} (hN : 1000 ≤ N) (hB : sB al X s b F P ls fl all sp) (h20 : ∀ l ∈ ls, X 20 s l = nI (a l)) (k : Nat → gM → Option (Int32 × gM)) (Q : Option (Int32 × gM) → Prop)
    (hQ : ∀ Y, (∀ k p j, ¬ (k = 15 ∧ p = s) → Y k p j = X k p j) → (∀ l ∈ ls, Y 15 s l = X 15 s l ||| ((1 : Int32) <<< (nI (a l) &&& 31))) → Q (k s Y)) : Q (X7_keepFit_L20 al N k N s b 6 0 X) := by
  obtain ⟨⟨b1, b2, b3, b4, b5⟩, ⟨b6, b7⟩, -, -, -⟩ := id hB
  refine m_up0 6 (fun fu i (y : gM) => X7_keepFit_L20 al N k fu s b 6 i y)
    (fun i y => (∀ k p j, ¬ (k = 15 ∧ p = s) → y k p j = X k p j) ∧ (∀ l ∈ ls, y 15 s l = if l ∈ ls.take i then X 15 s l ||| ((1 : Int32) <<< (nI (a l) &&& 31)) else X 15 s l)) Q X (by omega) ?_ ?_ ⟨fun _ _ _ _ => rfl, fun l hl => by rw [List.take_zero, if_neg (by simp)]⟩
  · rintro i fu y hi ⟨y1, y2⟩ ih
    have e13 : y 13 b i = lvg ls i := by rw [y1 13 b i (by omega), b6]
    have n6 : ¬ (6 : Int32) ≤ nI i := fun q => by
      have := (zn_lle (k := 6) (by omega) (by decide)).mp q
      have e8 : (OfNat.ofNat 6 : Nat) = 6 := rfl
      omega
    show Q (X7_keepFit_L20 al N k (fu + 1) s b 6 (nI i) y)
    unfold X7_keepFit_L20
    rw [if_neg n6, rd_nI hi (by omega), Option.bind_some, e13]
    cases hg : ls[i]? with
    | none =>
      rw [lvg_none hg, if_pos (by decide)]
      show Q (X7_keepFit_L20 al N k fu s b 6 (nI i + 1) y)
      rw [zn_a1]
      refine ih y ⟨y1, ?_⟩
      rw [take_none hg]
      exact y2
    | some l =>
      have hm : l ∈ ls := List.mem_of_getElem? hg
      have hl10 := b2 l hm
      obtain ⟨w1, w2, -⟩ := b7 l hm
      have e5 : y 5 l 0 = nI l := by rw [y1 5 l 0 (by omega), w2]
      have e20 : y 20 s l = nI (a l) := by rw [y1 20 s l (by omega), h20 l hm]
      rw [lvg_some hg, if_neg (zn_nn (by omega)), dr_nI w1 (by omega), Option.bind_some, e5, rd_nI hl10 (by omega), Option.bind_some, Option.bind_some, Option.bind_some, gl_eq, e20]
      show Q (X7_keepFit_L20 al N k fu s b 6 (nI i + 1) _)
      rw [zn_a1]
      refine ih _ ⟨fun k p j hk => ?_, fun u hu => ?_⟩
      · rw [mset_at, if_neg (fun z => hk ⟨z.1, z.2.1⟩), y1 k p j hk]
      · rw [mset_at]
        by_cases c : u = l
        · subst c
          rw [if_pos ⟨rfl, rfl, rfl⟩, if_pos ((take_mem hg).mpr (Or.inr rfl)), y2 u hu, if_neg (nd_take b3 hg)]
        · rw [if_neg (fun z => c z.2.2), y2 u hu]
          by_cases c2 : u ∈ ls.take i
          · rw [if_pos c2, if_pos ((take_mem hg).mpr (Or.inl c2))]
          · rw [if_neg c2, if_neg (fun z => (take_mem hg).mp z |>.elim c2 c)]
  · rintro fu y ⟨y1, y2⟩
    show Q (X7_keepFit_L20 al N k (fu + 1) s b 6 (nI 6) y)
    unfold X7_keepFit_L20
    rw [if_pos (by decide)]
    refine hQ y y1 fun l hl => ?_
    rw [y2 l hl, if_pos (by rw [List.take_of_length_le b1]; exact hl)]
theorem keep_L11 {al : Nat → Nat → Bool} {N s b F P g : Nat} {X : gM} {ls fl : List Nat} {all sp : Bool} {a : Nat → Nat} (hN : 1000 ≤ N) (hg12 : g < 12) (hB : sB al X s b F P ls fl all sp) (h20 : ∀ l ∈ ls, X 20 s l = nI (a l)) (k : gM → Option (Int32 × gM)) (Q : Option (Int32 × gM) → Prop)
    (hQ : ∀ Y, (∀ k p j, ¬ (k = 17 ∧ p = s) → Y k p j = X k p j) → (∀ q, q < 12 → ∀ l ∈ ls, Y 17 s (10 * q + l) = if q = g then X 17 s (10 * q + l) ||| ((1 : Int32) <<< (nI (a l) &&& 31)) else X 17 s (10 * q + l)) → Q (k Y)) : Q (X7_keepSpared_L11 al N k N s (nI g) b 6 0 X) := by
  obtain ⟨⟨b1, b2, b3, b4, b5⟩, ⟨b6, b7⟩, -, -, -⟩ := id hB
  refine m_up0 6 (fun fu i (y : gM) => X7_keepSpared_L11 al N k fu s (nI g) b 6 i y)
    (fun i y => (∀ k p j, ¬ (k = 17 ∧ p = s) → y k p j = X k p j) ∧ (∀ q, q < 12 → ∀ l ∈ ls, y 17 s (10 * q + l) = if q = g ∧ l ∈ ls.take i then X 17 s (10 * q + l) ||| ((1 : Int32) <<< (nI (a l) &&& 31)) else X 17 s (10 * q + l))) Q X (by omega) ?_ ?_ ⟨fun _ _ _ _ => rfl, fun q _ l hl => by rw [List.take_zero, if_neg (by simp)]⟩
  · rintro i fu y hi ⟨y1, y2⟩ ih
    have e13 : y 13 b i = lvg ls i := by rw [y1 13 b i (by omega), b6]
    have n6 : ¬ (6 : Int32) ≤ nI i := fun q => by
      have := (zn_lle (k := 6) (by omega) (by decide)).mp q
      have e8 : (OfNat.ofNat 6 : Nat) = 6 := rfl
      omega
    show Q (X7_keepSpared_L11 al N k (fu + 1) s (nI g) b 6 (nI i) y)
    unfold X7_keepSpared_L11
    rw [if_neg n6, rd_nI hi (by omega), Option.bind_some, e13]
    cases hg : ls[i]? with
    | none =>
      rw [lvg_none hg, if_pos (by decide)]
      show Q (X7_keepSpared_L11 al N k fu s (nI g) b 6 (nI i + 1) y)
      rw [zn_a1]
      refine ih y ⟨y1, ?_⟩
      rw [take_none hg]
      exact y2
    | some l =>
      have hm : l ∈ ls := List.mem_of_getElem? hg
      have hl10 := b2 l hm
      obtain ⟨w1, w2, -⟩ := b7 l hm
      have e5 : y 5 l 0 = nI l := by rw [y1 5 l 0 (by omega), w2]
      have e20 : y 20 s l = nI (a l) := by rw [y1 20 s l (by omega), h20 l hm]
      have ei : nI g * (10 : Int32) + nI l = nI (10 * g + l) := by
        rw [zn_mull, zn_add]
        show nI (g * 10 + l) = _
        congr 1
        omega
      rw [lvg_some hg, if_neg (zn_nn (by omega)), dr_nI w1 (by omega), Option.bind_some, e5, ei, rd_nI (by omega : 10 * g + l < 120) (by omega), Option.bind_some, rd_nI hl10 (by omega), Option.bind_some, Option.bind_some, gl_eq, e20]
      show Q (X7_keepSpared_L11 al N k fu s (nI g) b 6 (nI i + 1) _)
      rw [zn_a1]
      refine ih _ ⟨fun k p j hk => ?_, fun q hq u hu => ?_⟩
      · rw [mset_at, if_neg (fun z => hk ⟨z.1, z.2.1⟩), y1 k p j hk]
      · have hu10 := b2 u hu
        rw [mset_at]
        by_cases c : q = g ∧ u = l
        · obtain ⟨rfl, rfl⟩ := c
          rw [if_pos ⟨rfl, rfl, rfl⟩, if_pos ⟨rfl, (take_mem hg).mpr (Or.inr rfl)⟩, y2 q hq u hu, if_neg (fun z => nd_take b3 hg z.2)]
        · rw [if_neg (fun z => c (by omega)), y2 q hq u hu]
          by_cases c2 : q = g ∧ u ∈ ls.take i
          · rw [if_pos c2, if_pos ⟨c2.1, (take_mem hg).mpr (Or.inl c2.2)⟩]
          · rw [if_neg c2, if_neg (fun z => (take_mem hg).mp z.2 |>.elim (fun w => c2 ⟨z.1, w⟩) (fun w => c ⟨z.1, w⟩))]
  · rintro fu y ⟨y1, y2⟩
    show Q (X7_keepSpared_L11 al N k (fu + 1) s (nI g) b 6 (nI 6) y)
    unfold X7_keepSpared_L11
    rw [if_pos (by decide)]
    refine hQ y y1 fun q hq l hl => ?_
    rw [y2 q hq l hl, List.take_of_length_le b1]
    by_cases c : q = g
    · rw [if_pos ⟨c, hl⟩, if_pos c]
    · rw [if_neg (fun z => c z.1), if_neg c]
theorem keep_L68 {al : Nat → Nat → Bool} {N s b F P p1 : Nat} {X : gM} {ls fl : List Nat} {all sp : Bool} {S : Nat → Bool} {a : Nat → Nat} (hN : 1000 ≤ N) (hB : sB al X s b F P ls fl all sp) (hS : sS X s p1 ls S a) (hSl : ∀ l ∈ ls, S l = true) (k : gM → Option (Int32 × gM)) (Q : Option (Int32 × gM) → Prop)
    (haP : ∀ l ∈ ls, a l < P)
    (hQ : ∀ Y, (∀ k p j, ¬ (k = 16 ∧ p = s) → Y k p j = X k p j) → (∀ i ∈ ls, ∀ j ∈ ls, Y 16 s (10 * i + j) = X 16 s (10 * i + j) + if a i + a j + 1 = P then 1 else 0) → Q (k Y)) : Q (X7_keepFit_L68 al N k N s 0 X) := by
  obtain ⟨⟨b1, b2, b3, b4, b5⟩, ⟨b6, b7⟩, ⟨b8, b9, b10, b11, b12, b13⟩, -, -⟩ := id hB
  obtain ⟨s1, s2, s3, s4, s5⟩ := hS
  refine m_up0 P (fun fu i (y : gM) => X7_keepFit_L68 al N k fu s i y)
    (fun p y => (∀ k p j, ¬ (k = 16 ∧ p = s) → y k p j = X k p j) ∧ (∀ i ∈ ls, ∀ j ∈ ls, y 16 s (10 * i + j) = X 16 s (10 * i + j) + if a i + a j + 1 = P ∧ a i < p then 1 else 0)) Q X (by omega) ?_ ?_ ⟨fun _ _ _ _ => rfl, fun i _ j _ => by rw [if_neg (by omega)]; exact (Int32.add_zero _).symm⟩
  · rintro p fu y hp ⟨y1, y2⟩ ih
    have e10 : y 14 s 10 = nI P := by rw [y1 14 s 10 (by omega), b11]
    have nP : ¬ nI P ≤ nI p := fun q => by
      have := (zn_le (by omega) (by omega)).mp q
      omega
    have ei : nI P - (1 : Int32) - nI p = nI (P - 1 - p) := by
      rw [zn_s1 (a := P) b5]
      exact zn_sub (by show p ≤ P - 1; omega)
    have e21 : ∀ j, y 21 s j = X 21 s j := fun j => y1 21 s j (by omega)
    have skip : (∀ i ∈ ls, ∀ j ∈ ls, ¬ (a i + a j + 1 = P ∧ a i = p)) → Q (X7_keepFit_L68 al N k fu s (nI (p + 1)) y) := fun hc => by
      refine ih y ⟨y1, fun i hi j hj => ?_⟩
      rw [y2 i hi j hj]
      by_cases c : a i + a j + 1 = P ∧ a i < p
      · rw [if_pos c, if_pos ⟨c.1, by omega⟩]
      · rw [if_neg c, if_neg (fun z => hc i hi j hj ⟨z.1, by omega⟩)]
    show Q (X7_keepFit_L68 al N k (fu + 1) s (nI p) y)
    unfold X7_keepFit_L68
    rw [e10, if_neg nP, rd_nI (by omega : p < 8) (by omega), Option.bind_some, ei, rd_nI (by omega : P - 1 - p < 8) (by omega), Option.bind_some, e21, e21]
    rcases s2 p (by omega) with ⟨l, z1, z2, z3⟩ | ⟨z1, z2⟩
    · have hlm := (s3 l z1).1
      have hl10 := b2 l hlm
      rw [z3, if_neg (zn_nn (by omega))]
      rcases s2 (P - 1 - p) (by omega) with ⟨l', v1, v2, v3⟩ | ⟨v1, v2⟩
      · have hlm' := (s3 l' v1).1
        have hl10' := b2 l' hlm'
        obtain ⟨w1, w2, -⟩ := b7 l hlm
        obtain ⟨w1', w2', -⟩ := b7 l' hlm'
        have e5 : y 5 l 0 = nI l := by rw [y1 5 l 0 (by omega), w2]
        have e5' : y 5 l' 0 = nI l' := by rw [y1 5 l' 0 (by omega), w2']
        have ex : nI l * (10 : Int32) + nI l' = nI (10 * l + l') := by
          rw [zn_mull, zn_add]
          show nI (l * 10 + l') = _
          congr 1
          omega
        rw [v3, if_neg (zn_nn (by omega)), dr_nI w1 (by omega), Option.bind_some, dr_nI w1' (by omega), Option.bind_some, e5, e5', ex, rd_nI (by omega : 10 * l + l' < 100) (by omega), Option.bind_some, Option.bind_some, gl_eq]
        show Q (X7_keepFit_L68 al N k fu s (nI p + 1) _)
        rw [zn_a1]
        refine ih _ ⟨fun k q j hk => ?_, fun i hi j hj => ?_⟩
        · rw [mset_at, if_neg (fun z => hk ⟨z.1, z.2.1⟩), y1 k q j hk]
        · have hi10 := b2 i hi
          have hj10 := b2 j hj
          rw [mset_at]
          by_cases c : i = l ∧ j = l'
          · obtain ⟨rfl, rfl⟩ := c
            rw [if_pos ⟨rfl, rfl, rfl⟩, y2 i hi j hj, if_neg (by omega), if_pos (by show _ ∧ a i < p + 1; omega)]
            show X 16 s (10 * i + j) + 0 + 1 = _
            rw [Int32.add_zero]
          · rw [if_neg (fun z => c (by omega)), y2 i hi j hj]
            congr 1
            by_cases c2 : a i + a j + 1 = P ∧ a i < p
            · rw [if_pos c2, if_pos (by show _ ∧ a i < p + 1; omega)]
            · rw [if_neg c2, if_neg (fun z => ?_)]
              have hz2 : a i < p + 1 := z.2
              have i1 : i = l := s4 i l (hSl i hi) z1 (by omega)
              have i2 : j = l' := s4 j l' (hSl j hj) v1 (by omega)
              exact c ⟨i1, i2⟩
      · rw [v1, if_pos (by decide)]
        show Q (X7_keepFit_L68 al N k fu s (nI p + 1) y)
        rw [zn_a1]
        exact skip fun i hi j hj z => v2 j (hSl j hj) (by omega)
    · rw [z1, if_pos (by decide)]
      show Q (X7_keepFit_L68 al N k fu s (nI p + 1) y)
      rw [zn_a1]
      exact skip fun i hi j hj z => z2 i (hSl i hi) z.2
  · rintro fu y ⟨y1, y2⟩
    have e10 : y 14 s 10 = nI P := by rw [y1 14 s 10 (by omega), b11]
    show Q (X7_keepFit_L68 al N k (fu + 1) s (nI P) y)
    unfold X7_keepFit_L68
    rw [e10, if_pos (Int32.le_refl _)]
    refine hQ y y1 fun i hi j hj => ?_
    rw [y2 i hi j hj]
    congr 1
    by_cases c : a i + a j + 1 = P
    · rw [if_pos c, if_pos ⟨c, haP i hi⟩]
    · rw [if_neg c, if_neg (fun z => c z.1)]
