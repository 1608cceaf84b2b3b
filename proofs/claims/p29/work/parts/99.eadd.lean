/-! what is added: leaf, fact -/
def fa {α : Type} (Φ : α → Prop) (o : Option α) : Prop := ∀ a, o = some a → Φ a
theorem fa_none {α : Type} {Φ : α → Prop} : fa Φ none := fun _ h => by cases h
theorem fa_some {α : Type} {Φ : α → Prop} {a : α} (h : Φ a) : fa Φ (some a) := fun _ e => by cases e; exact h
theorem fa_b2 {α : Type} {Φ : α → Prop} {o : Option (Int32 × gM)} {f : Int32 → gM → Option α} (k : ∀ r Y, o = some (r, Y) → fa Φ (f r Y)) : fa Φ (bind2 o f) := fun a e => by
  obtain ⟨r, Y, h1, h2⟩ := b2_in e
  exact k r Y h1 a h2
theorem fa_bd {α β : Type} {Φ : α → Prop} {o : Option β} {f : β → Option α} (k : ∀ b, o = some b → fa Φ (f b)) : fa Φ (o.bind f) := fun a e => by
  obtain ⟨b, h1, h2⟩ := bd_in e
  exact k b h1 a h2
theorem fa_gl {α β : Type} {Φ : α → Prop} {v : β} {f : β → Option α} (k : ∀ x, fa Φ (f x)) : fa Φ (gl v f) := k v
theorem fa_ite {α : Type} {Φ : α → Prop} {c : Prop} {i : Decidable c} {a b : Option α} (h1 : c → fa Φ a) (h2 : ¬ c → fa Φ b) : fa Φ (@ite _ c i a b) := by
  by_cases h : c
  · rw [if_pos h]; exact h1 h
  · rw [if_neg h]; exact h2 h
theorem frm_all {X Y : gM} (h : frm (fun _ => false) X Y) : Y = X := funext fun k => h k rfl
theorem rd_is {n m j : Nat} (hn : n < 2147483648) (h : rd (nI n) m = some j) : j = n := by
  have h2 : (rd (nI n) m).bind (fun j => some j) = some j := by rw [h]; rfl
  obtain ⟨i, ⟨-, hi⟩, e⟩ := rd_in h2
  rw [nI_clamp hn] at hi
  cases e
  exact hi.symm
theorem eqn_is {a b : List (Nat × Nat)} {u : Unit} (h : eqn a b = some u) : a = b := by
  unfold eqn at h
  by_cases c : a = b
  · exact c
  · rw [if_neg c] at h; cases h
theorem v_fact {NL nw : List (Nat × Nat)} {N L F D W K k : Nat} {p1 p2 p3 p4 r : Int32} {X X1 : gM} (hJ : JJ NL L F D W K X) (h : X9_fact (gal NL) N nw p1 p2 p3 p4 X = some (k, r, X1)) : k = 0 → nw = [(23, F)] := by
  obtain ⟨g1, g2, g3, g4, g5, g6, g7, g8, g9, g10, g11, g12⟩ := id hJ
  obtain ⟨hF, -, e2, -, -⟩ := id g7
  have key : ∀ p5, fa (fun q : Nat × Int32 × gM => q.1 = 0 → nw = [(23, F)]) (X9_fact_J110 (gal NL) N nw p1 p2 p3 p4 p5 X) := by
    intro p5
    unfold X9_fact_J110
    rw [e2]
    refine fa_ite (fun c => ?_) (fun c => fa_some (fun q => by cases q))
    refine fa_bd (fun j hj => fa_bd (fun u hu => ?_))
    have hj2 := rd_is (by omega) hj
    subst hj2
    have hnw := eqn_is hu
    exact fun a _ _ => hnw
  have main : fa (fun q : Nat × Int32 × gM => q.1 = 0 → nw = [(23, F)]) (X9_fact (gal NL) N nw p1 p2 p3 p4 X) := by
    unfold X9_fact
    refine fa_b2 (fun r1 X2 h1 => ?_)
    have e : X2 = X := frm_all (fr_X9_leafOf frm_rfl _ h1)
    rw [e]
    refine fa_ite (fun c => fa_some (fun q => by cases q)) (fun c => ?_)
    refine fa_b2 (fun r5 X6 h5 => ?_)
    have e : X6 = X := frm_all (fr_X9_isWithin frm_rfl _ h5)
    rw [e]
    refine fa_ite (fun c => fa_some (fun q => by cases q)) (fun c => ?_)
    refine fa_ite (fun c => ?_) (fun c => ?_)
    · refine fa_bd (fun j24 _ => fa_bd (fun j26 _ => fa_b2 (fun r28 X29 h28 => ?_)))
      have e : X29 = X := frm_all (fr_X5_hasPlace frm_rfl _ h28)
      rw [e]
      exact fa_ite (fun c => fa_some (fun q => by cases q)) (fun c => key r1)
    · refine fa_b2 (fun r10 X11 h10 => ?_)
      have e : X11 = X := frm_all (fr_X9_leafOf frm_rfl _ h10)
      rw [e]
      refine fa_ite (fun c => fa_some (fun q => by cases q)) (fun c => ?_)
      refine fa_bd (fun j14 _ => fa_bd (fun j16 _ => ?_))
      refine fa_ite (fun c => ?_) (fun c => ?_)
      · unfold X9_fact_J102
        exact fa_some (fun q => by cases q)
      · refine fa_bd (fun j19 _ => fa_bd (fun j21 _ => ?_))
        refine fa_ite (fun c => key r1) (fun c => ?_)
        unfold X9_fact_J102
        exact fa_some (fun q => by cases q)
  exact main _ h
theorem gh_fact {al : Nat → Nat → Bool} {N : Nat} {p1 p2 p3 p4 r : Int32} {X Y : gM} (h : X10_fact al N p1 p2 p3 p4 X = some (r, Y)) : Y 43 0 46 = 0 → r = Y 43 0 23 - 1 := by
  have key : ∀ s Z, fa (fun q : Int32 × gM => q.2 43 0 46 = 0 → q.1 = q.2 43 0 23 - 1) (X10_fact_J134 al N p1 p2 p3 p4 s Z) := by
    intro s Z
    unfold X10_fact_J134
    refine fa_gl (fun X1 => fa_ite (fun c => ?_) (fun c => fa_some (fun q => absurd (show X1 43 0 46 ≤ 0 by rw [show X1 43 0 46 = 0 from q]; decide) c)))
    repeat' (first | with_reducible exact fa_some (fun _ => rfl) | with_reducible refine fa_bd (fun _ _ => ?_) | with_reducible refine fa_gl (fun _ => ?_))
  have main : fa (fun q : Int32 × gM => q.2 43 0 46 = 0 → q.1 = q.2 43 0 23 - 1) (X10_fact al N p1 p2 p3 p4 X) := by
    unfold X10_fact
    repeat' (first | with_reducible exact key _ _ | with_reducible refine fa_bd (fun _ _ => ?_) | with_reducible refine fa_gl (fun _ => ?_) | with_reducible refine fa_b2 (fun _ _ _ => ?_) | with_reducible refine fa_ite (fun _ => ?_) (fun _ => ?_) | unfold X10_fact_J116 | unfold X10_fact_J120 | unfold X10_fact_J78 | unfold X10_fact_J65 | unfold X10_fact_J64 | unfold X10_fact_J60)
  exact main _ h
theorem gh_leaf {al : Nat → Nat → Bool} {N : Nat} {p1 p2 p3 p4 p5 r : Int32} {X Y : gM} (h : X10_leaf al N p1 p2 p3 p4 p5 X = some (r, Y)) : Y 43 0 46 = 0 → r = Y 43 0 0 - 1 := by
  have key : ∀ s Z, fa (fun q : Int32 × gM => q.2 43 0 46 = 0 → q.1 = q.2 43 0 0 - 1) (X10_leaf_J114 al N p1 p2 p3 p4 p5 s Z) := by
    intro s Z
    unfold X10_leaf_J114
    refine fa_gl (fun X1 => fa_ite (fun c => ?_) (fun c => fa_some (fun q => absurd (show X1 43 0 46 ≤ 0 by rw [show X1 43 0 46 = 0 from q]; decide) c)))
    repeat' (first | with_reducible exact fa_some (fun _ => rfl) | with_reducible refine fa_bd (fun _ _ => ?_) | with_reducible refine fa_gl (fun _ => ?_))
  have key2 : ∀ s Z, fa (fun q : Int32 × gM => q.2 43 0 46 = 0 → q.1 = q.2 43 0 0 - 1) (X10_leaf_J60 al N p1 p2 p3 p4 p5 s Z) := by
    intro s Z
    unfold X10_leaf_J60 X10_leaf_J109
    refine fa_gl (fun X1 => fa_ite (fun c => ?_) (fun c => fa_some (fun q => absurd (show X1 43 0 46 ≤ 0 by rw [show X1 43 0 46 = 0 from q]; decide) c)))
    repeat' (first | with_reducible exact key _ _ | with_reducible refine fa_bd (fun _ _ => ?_) | with_reducible refine fa_gl (fun _ => ?_) | with_reducible refine fa_b2 (fun _ _ _ => ?_) | with_reducible refine fa_ite (fun _ => ?_) (fun _ => ?_))
  have main : fa (fun q : Int32 × gM => q.2 43 0 46 = 0 → q.1 = q.2 43 0 0 - 1) (X10_leaf al N p1 p2 p3 p4 p5 X) := by
    unfold X10_leaf X10_leaf_J55
    repeat' (first | with_reducible exact key2 _ _ | with_reducible refine fa_bd (fun _ _ => ?_) | with_reducible refine fa_gl (fun _ => ?_) | with_reducible refine fa_b2 (fun _ _ _ => ?_) | with_reducible refine fa_ite (fun _ => ?_) (fun _ => ?_))
  exact main _ h
theorem v_leaf {NL nw : List (Nat × Nat)} {N L F D W K k a ln w v : Nat} {p4 r : Int32} {X X1 : gM} (hJ : JJ NL L F D W K X) (ha : a < 2) (h1 : 1 ≤ ln) (h2 : ln ≤ 4) (h3 : 1 ≤ w) (h4' : w ≤ 8) (h5 : p4 = 0 ∨ p4 = 1 ∨ p4 = -1) (h6 : v ≤ 255) (h : X9_leaf (gal NL) N nw (nI a) (nI ln) (nI w) p4 (nI v) X = some (k, r, X1)) : (k = 0 ∧ ∃ n, nw = (5, L) :: (6, L) :: cls L n) ∨ k = 3 := by
  obtain ⟨g1, g2, g3, g4, g5, g6, g7, g8, g9, g10, g11, g12⟩ := id hJ
  obtain ⟨hL, h430, h002, h4, hlf⟩ := id g2
  obtain ⟨h11, hB⟩ := id g6
  have hal : gal NL 12 a = true := gal_al g1 ha
  have w2 : (1 : Int32) ≤ nI ln ∧ nI ln ≤ 4 := ⟨(zn_lle (k := 1) (by omega) (by decide)).mpr (show 1 ≤ ln by omega), (zn_lel (k := 4) (by omega) (by decide)).mpr (show ln ≤ 4 by omega)⟩
  have w3 : (1 : Int32) ≤ nI w ∧ nI w ≤ 8 := ⟨(zn_lle (k := 1) (by omega) (by decide)).mpr (show 1 ≤ w by omega), (zn_lel (k := 8) (by omega) (by decide)).mpr (show w ≤ 8 by omega)⟩
  have w5 : (0 : Int32) ≤ nI v ∧ nI v ≤ 255 := ⟨not_lt32.mp (zn_nn (by omega)), (zn_lel (k := 255) (by omega) (by decide)).mpr (show v ≤ 255 by omega)⟩
  have key : fa (fun q : Nat × Int32 × gM => (q.1 = 0 ∧ ∃ n, nw = (5, L) :: (6, L) :: cls L n) ∨ q.1 = 3) (X9_leaf_J72 (gal NL) N nw (nI ln) (nI w) p4 (nI v) (nI a) X) := by
    unfold X9_leaf_J72
    rw [X9_isWithin_eq, bind2_some, if_pos w5, if_neg (by decide)]
    refine fa_ite (fun c => ?_) (fun c => ?_)
    · unfold X9_leaf_J109
      exact fa_some (Or.inr rfl)
    · rw [dr_nI hal (by omega), Option.bind_some]
      refine fa_b2 (fun r8 X9 h8 => ?_)
      have e : X9 = X := frm_all (fr_X5_hasRoom frm_rfl _ h8)
      rw [e]
      refine fa_ite (fun c => ?_) (fun c => ?_)
      · unfold X9_leaf_J109
        exact fa_some (Or.inr rfl)
      · rw [h002]
        refine fa_bd (fun j hj => fa_bd (fun u hu => ?_))
        have hj2 := rd_is (by omega) hj
        subst hj2
        have hnw := eqn_is hu
        have fin : ∀ q : Nat × Int32 × gM, q.1 = 0 → ((q.1 = 0 ∧ ∃ n, nw = (5, j) :: (6, j) :: cls j n) ∨ q.1 = 3) := fun q q0 => Or.inl ⟨q0, _, hnw⟩
        repeat' (first | with_reducible exact fa_some (fin _ rfl) | with_reducible refine fa_bd (fun _ _ => ?_) | with_reducible refine fa_gl (fun _ => ?_) | with_reducible refine fa_b2 (fun _ _ _ => ?_))
  unfold X9_leaf at h
  rw [X9_quireOf_yes h11 ha, bind2_some, if_neg (zn_nn (by omega)), X9_isWithin_eq, bind2_some, if_pos w2, if_neg (by decide), X9_isWithin_eq, bind2_some, if_pos w3, if_neg (by decide)] at h
  rcases h5 with rfl | rfl | rfl
  · rw [if_pos rfl] at h
    exact key _ h
  · rw [if_neg (by decide), if_pos rfl] at h
    exact key _ h
  · rw [if_neg (by decide), if_neg (by decide), if_pos rfl] at h
    exact key _ h
/-- the new names of a leaf are a leaf's -/
theorem cls_kind {k n : Nat} : ∀ q ∈ cls k n, q.1 = 7 ∨ q.1 = 8 ∨ q.1 = 9 ∨ q.1 = 10 := by
  induction n with
  | zero => intro q hq; cases hq
  | succ n ih =>
    intro q hq
    rw [cls] at hq
    rcases List.mem_append.mp hq with h | h
    · exact ih q h
    · simp only [nw_X0_init, List.mem_append, List.mem_cons, List.not_mem_nil, or_false] at h
      rcases h with rfl | rfl | rfl | rfl <;> simp
theorem n_leaf {NL : List (Nat × Nat)} {L F W K L' F' W' K' n : Nat} {X Y : gM} (h : jN NL L F W K X) (g : jN (NL ++ ((5, L) :: (6, L) :: cls L n)) L' F' W' K' Y) (hW : W ≤ 12) (hW' : W' ≤ 12) : L' = L + 1 ∧ F' = F ∧ W' = W ∧ K' = K := by
  have hm : ∀ k i, k ≠ 7 → k ≠ 8 → k ≠ 9 → k ≠ 10 → (k, i) ∈ cls L n → False := fun k i h7 h8 h9 h10 hc => by
    rcases cls_kind _ hc with q | q | q | q <;> omega
  have e5 : ∀ i, i < L' ↔ (i < L ∨ i = L) := fun i => by
    have q1 := g 5 i
    have q2 := h 5 i
    simp only [List.mem_append, List.mem_cons, Prod.mk.injEq] at q1
    constructor
    · intro hi
      rcases q1.mpr hi with z | z | z | z
      · exact Or.inl (q2.mp z)
      · exact Or.inr z.2
      · omega
      · exact absurd z (fun z => hm 5 i (by omega) (by omega) (by omega) (by omega) z)
    · rintro (hi | hi)
      · exact q1.mp (Or.inl (q2.mpr hi))
      · exact q1.mp (Or.inr (Or.inl (And.intro True.intro hi)))
  have eo : ∀ k i, (k = 23 ∨ k = 26) → ((k, i) ∈ NL ++ ((5, L) :: (6, L) :: cls L n) ↔ (k, i) ∈ NL) := fun k i hk => by
    simp only [List.mem_append, List.mem_cons, Prod.mk.injEq]
    constructor
    · rintro (z | z | z | z)
      · exact z
      · omega
      · omega
      · exact absurd z (fun z => hm k i (by omega) (by omega) (by omega) (by omega) z)
    · exact Or.inl
  have e23 : ∀ i, i < F' ↔ i < F := fun i => ((g 23 i).symm.trans (eo 23 i (Or.inl rfl))).trans (h 23 i)
  have e26 : ∀ i, (i < W' ∨ (12 ≤ i ∧ i < 12 + K')) ↔ (i < W ∨ (12 ≤ i ∧ i < 12 + K)) := fun i => ((g 26 i).symm.trans (eo 26 i (Or.inr rfl))).trans (h 26 i)
  refine ⟨?_, ?_, ?_, ?_⟩
  · have a := e5 L; have b := e5 L'; have c := e5 (L + 1); omega
  · have a := e23 F; have b := e23 F'; omega
  · have a := e26 W; have b := e26 W'; omega
  · have a := e26 (12 + K); have b := e26 (12 + K'); omega
theorem n_fact {NL : List (Nat × Nat)} {L F W K L' F' W' K' : Nat} {X Y : gM} (h : jN NL L F W K X) (g : jN (NL ++ [(23, F)]) L' F' W' K' Y) (hW : W ≤ 12) (hW' : W' ≤ 12) : L' = L ∧ F' = F + 1 ∧ W' = W ∧ K' = K := by
  have e : ∀ k i, (k, i) ∈ NL ++ [(23, F)] ↔ ((k, i) ∈ NL ∨ (k = 23 ∧ i = F)) := fun k i => by
    simp only [List.mem_append, List.mem_singleton, Prod.mk.injEq]
  have e5 : ∀ i, i < L' ↔ (i < L ∨ (5 = 23 ∧ i = F)) := fun i => ((g 5 i).symm.trans (e 5 i)).trans (or_congr (h 5 i) Iff.rfl)
  have e23 : ∀ i, i < F' ↔ (i < F ∨ (23 = 23 ∧ i = F)) := fun i => ((g 23 i).symm.trans (e 23 i)).trans (or_congr (h 23 i) Iff.rfl)
  have e26 : ∀ i, (i < W' ∨ (12 ≤ i ∧ i < 12 + K')) ↔ ((i < W ∨ (12 ≤ i ∧ i < 12 + K)) ∨ (26 = 23 ∧ i = F)) := fun i => ((g 26 i).symm.trans (e 26 i)).trans (or_congr (h 26 i) Iff.rfl)
  refine ⟨?_, ?_, ?_, ?_⟩
  · have a := e5 L; have b := e5 L'; omega
  · have a := e23 F; have b := e23 F'; have c := e23 (F + 1); omega
  · have a := e26 W; have b := e26 W'; omega
  · have a := e26 (12 + K); have b := e26 (12 + K'); omega
theorem n_work {NL : List (Nat × Nat)} {L F W K L' F' W' K' : Nat} {X Y : gM} (h : jN NL L F W K X) (g : jN (NL ++ [(26, 12 + K), (27, 12 + K)]) L' F' W' K' Y) (hW : W ≤ 12) (hW' : W' ≤ 12) : L' = L ∧ F' = F ∧ W' = W ∧ K' = K + 1 := by
  have e : ∀ k i, (k, i) ∈ NL ++ [(26, 12 + K), (27, 12 + K)] ↔ ((k, i) ∈ NL ∨ (k = 26 ∧ i = 12 + K) ∨ (k = 27 ∧ i = 12 + K)) := fun k i => by
    simp only [List.mem_append, List.mem_cons, List.not_mem_nil, or_false, Prod.mk.injEq]
  have e5 : ∀ i, i < L' ↔ (i < L ∨ (5 = 26 ∧ i = 12 + K) ∨ (5 = 27 ∧ i = 12 + K)) := fun i => ((g 5 i).symm.trans (e 5 i)).trans (or_congr (h 5 i) Iff.rfl)
  have e23 : ∀ i, i < F' ↔ (i < F ∨ (23 = 26 ∧ i = 12 + K) ∨ (23 = 27 ∧ i = 12 + K)) := fun i => ((g 23 i).symm.trans (e 23 i)).trans (or_congr (h 23 i) Iff.rfl)
  have e26 : ∀ i, (i < W' ∨ (12 ≤ i ∧ i < 12 + K')) ↔ ((i < W ∨ (12 ≤ i ∧ i < 12 + K)) ∨ (26 = 26 ∧ i = 12 + K) ∨ (26 = 27 ∧ i = 12 + K)) := fun i => ((g 26 i).symm.trans (e 26 i)).trans (or_congr (h 26 i) Iff.rfl)
  refine ⟨?_, ?_, ?_, ?_⟩
  · have a := e5 L; have b := e5 L'; omega
  · have a := e23 F; have b := e23 F'; omega
  · have a := e26 W; have b := e26 W'; omega
  · have a := e26 (12 + K); have b := e26 (12 + K'); have c := e26 (12 + (K + 1)); omega
