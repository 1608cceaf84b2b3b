/-! arrangements: what the sheets ask of one -/
theorem exR {β : Type} {P S : β → Prop} (h : ∀ R : β → Prop, R = S → ∃ Y, P Y ∧ R Y) : ∃ Y, P Y ∧ S Y := h S rfl
theorem zn_a1 (a : Nat) : nI a + (1 : Int32) = nI (a + 1) := zn_addl a 1
theorem zn_s1 {a : Nat} (h : 1 ≤ a) : nI a - (1 : Int32) = nI (a - 1) := zn_subl (k := 1) h
/-- the leaves in slots 75, their places in 76 -/
def slt (X : gM) (ls : List Nat) (a : Nat → Nat) : Prop := ∀ i l, ls[i]? = some l → X 75 0 i = nI l ∧ X 76 0 i = nI (a l)
theorem slt_get {X : gM} {ls : List Nat} {a : Nat → Nat} (h : slt X ls a) {i : Nat} (hi : i < ls.length) : ∃ l, l ∈ ls ∧ ls[i]? = some l ∧ X 75 0 i = nI l ∧ X 76 0 i = nI (a l) := by
  have e : ls[i]? = some ls[i] := List.getElem?_eq_getElem hi
  exact ⟨ls[i], List.getElem_mem hi, e, h i _ e⟩
theorem take_mem {ls : List Nat} {i l x : Nat} (h : ls[i]? = some l) : x ∈ ls.take (i + 1) ↔ x ∈ ls.take i ∨ x = l := by
  have hi : i < ls.length := by
    apply Classical.byContradiction
    intro q
    rw [List.getElem?_eq_none (by omega)] at h
    cases h
  have e : ls[i] = l := by
    rw [List.getElem?_eq_getElem hi] at h
    exact Option.some.inj h
  rw [List.take_succ, h]
  simp
theorem X10_placeOf_eq {al : Nat → Nat → Bool} {N : Nat} {X : gM} {ls : List Nat} {a : Nat → Nat} {x : Nat} (hN : 1000 ≤ N) (hn : ls.length ≤ 6) (hl : ∀ l ∈ ls, l < 10) (hx : x < 10) (h : slt X ls a) : X10_placeOf al N (nI x) (nI ls.length) X = some (if x ∈ ls then nI (a x) else -1, X) := by
  unfold X10_placeOf
  refine m_up0 ls.length (fun fu i (s : Int32) => X10_placeOf_L5 al N (fun p3 Y => X10_placeOf_J40 al N p3 Y) fu (nI x) (nI ls.length) s i X)
    (fun i s => s = if x ∈ ls.take i then nI (a x) else -1) (fun o => o = some (if x ∈ ls then nI (a x) else -1, X)) (-1) (by omega) ?_ ?_ (by simp)
  · rintro i fu s hi rfl ih
    obtain ⟨l, hm, hg, q1, q2⟩ := slt_get h hi
    have hl10 := hl l hm
    have e1 : rd (nI i) 6 = some i := rd_nI (by omega) (by omega)
    by_cases hlx : l = x
    · subst hlx
      simp (disch := omega) only [X10_placeOf_L5, e1, q1, q2, X10_placeOf_J33, zn_add, zn_mul, zn_addl, zn_ladd, zn_mull, zn_lmul, zn_le, zn_lt, zn_eq, zn_lel, zn_ltl, zn_eql, zn_lle, zn_llt, zn_leq, zn_sub, zn_subl, zn_m1, gl_eq, bind2_some, bind3_some, Option.bind_some, bz_0, bz_1, ib_0, ib_1, ib_bz, rd_nI, rd_l, if_pos, if_neg, if_true, if_false, ite_true, ite_false, eq_self, j00, j10, j20, j30, k00, k01, k02, k03, i20, i30, km0, i10, i01, im0, im1, i0m, i1m]
      have e := ih (nI (a l)) (by rw [if_pos ((take_mem hg).mpr (Or.inr rfl))])
      first | exact e | (rw [if_pos hm] at e; exact e)
    · simp (disch := omega) only [X10_placeOf_L5, e1, q1, q2, X10_placeOf_J33, zn_add, zn_mul, zn_addl, zn_ladd, zn_mull, zn_lmul, zn_le, zn_lt, zn_eq, zn_lel, zn_ltl, zn_eql, zn_lle, zn_llt, zn_leq, zn_sub, zn_subl, zn_m1, gl_eq, bind2_some, bind3_some, Option.bind_some, bz_0, bz_1, ib_0, ib_1, ib_bz, rd_nI, rd_l, if_pos, if_neg, if_true, if_false, ite_true, ite_false, eq_self, j00, j10, j20, j30, k00, k01, k02, k03, i20, i30, km0, i10, i01, im0, im1, i0m, i1m]
      refine ih _ ?_
      by_cases c : x ∈ ls.take i
      · rw [if_pos c, if_pos ((take_mem hg).mpr (Or.inl c))]
      · rw [if_neg c, if_neg (fun z => (take_mem hg).mp z |>.elim c (fun q => hlx q.symm))]
  · rintro fu s rfl
    simp (disch := omega) only [X10_placeOf_L5, zn_add, zn_mul, zn_addl, zn_ladd, zn_mull, zn_lmul, zn_le, zn_lt, zn_eq, zn_lel, zn_ltl, zn_eql, zn_lle, zn_llt, zn_leq, zn_sub, zn_subl, zn_m1, gl_eq, bind2_some, bind3_some, Option.bind_some, bz_0, bz_1, ib_0, ib_1, ib_bz, rd_nI, rd_l, if_pos, if_neg, if_true, if_false, ite_true, ite_false, eq_self, j00, j10, j20, j30, k00, k01, k02, k03, i20, i30, km0, i10, i01, im0, im1, i0m, i1m, X10_placeOf_J40, List.take_length]
/-- one fact, asked of an arrangement -/
theorem ff_J160 {al : Nat → Nat → Bool} {N : Nat} {X : gM} {s : Int32} (h : s = 0 ∨ s = 1) : X10_fitsFact_J160 al N s X = some (s, X) := by
  unfold X10_fitsFact_J160
  rw [bz_01 h, Option.bind_some]
theorem ff_J73 {al : Nat → Nat → Bool} {N k A B : Nat} {X : gM} {s : Int32} (hs : s = 0 ∨ s = 1) (hk : k ≤ 4) (hA : A < 100) (hB : B < 100) :
    X10_fitsFact_J73 al N (nI A) (nI k) (nI B) s X = some (if k = 0 then s else if k = 1 then (if B = A + 1 then 1 else 0) else if k = 2 then (if B ≤ A then 0 else 1) else if k = 3 then (if A = B then 1 else 0) else if s = 0 then 1 else 0, X) := by
  unfold X10_fitsFact_J73
  have e0 : (nI k = (0 : Int32)) ↔ k = 0 := zn_eql (k := 0) (by omega) (by decide)
  have e1 : (nI k = (1 : Int32)) ↔ k = 1 := zn_eql (k := 1) (by omega) (by decide)
  have e2 : (nI k = (2 : Int32)) ↔ k = 2 := zn_eql (k := 2) (by omega) (by decide)
  have e3 : (nI k = (3 : Int32)) ↔ k = 3 := zn_eql (k := 3) (by omega) (by decide)
  by_cases c0 : k = 0
  · rw [if_pos (e0.mpr c0), if_pos c0, ff_J160 hs]
  · rw [if_neg (mt e0.mp c0), if_neg c0]
    by_cases c1 : k = 1
    · rw [if_pos (e1.mpr c1), if_pos c1]
      have e : (nI B = nI A + (1 : Int32)) ↔ B = A + 1 := by rw [zn_a1 A]; exact zn_eq (by omega) (by omega)
      by_cases c : B = A + 1
      · rw [if_pos (e.mpr c), if_pos c, ff_J160 (Or.inr rfl)]
      · rw [if_neg (mt e.mp c), if_neg c, ff_J160 (Or.inl rfl)]
    · rw [if_neg (mt e1.mp c1), if_neg c1]
      by_cases c2 : k = 2
      · rw [if_pos (e2.mpr c2), if_pos c2]
        have e : nI B ≤ nI A ↔ B ≤ A := zn_le (by omega) (by omega)
        by_cases c : B ≤ A
        · rw [if_pos (e.mpr c), if_pos c, ff_J160 (Or.inl rfl)]
        · rw [if_neg (mt e.mp c), if_neg c, ff_J160 (Or.inr rfl)]
      · rw [if_neg (mt e2.mp c2), if_neg c2]
        by_cases c3 : k = 3
        · rw [if_pos (e3.mpr c3), if_pos c3]
          have e : nI A = nI B ↔ A = B := zn_eq (by omega) (by omega)
          by_cases c : A = B
          · rw [if_pos (e.mpr c), if_pos c, ff_J160 (Or.inr rfl)]
          · rw [if_neg (mt e.mp c), if_neg c, ff_J160 (Or.inl rfl)]
        · rw [if_neg (mt e3.mp c3), if_neg c3]
          by_cases c : s = 0
          · rw [if_pos c, if_pos c, ff_J160 (Or.inr rfl)]
          · rw [if_neg c, if_neg c, ff_J160 (Or.inl rfl)]
theorem ff_J55 {al : Nat → Nat → Bool} {N k A B P : Nat} {X : gM} (hk : k ≤ 4) (hA : A < 100) (hB : B < 100) (hP : P < 100) (hP1 : 1 ≤ P) :
    ∃ r : Int32, X10_fitsFact_J55 al N (nI P) (nI A) (nI k) (nI B) X = some (r, X) ∧ (r = 0 ∨ r = 1) ∧ (r = 0 ↔ ((k = 0 ∧ A + B + 1 ≠ P) ∨ (k = 1 ∧ B ≠ A + 1) ∨ (k = 2 ∧ ¬ A < B) ∨ (k = 3 ∧ A ≠ B) ∨ (k = 4 ∧ A + B + 1 = P))) := by
  unfold X10_fitsFact_J55
  have e : (nI A + nI B = nI P - (1 : Int32)) ↔ A + B + 1 = P := by
    rw [zn_add, zn_s1 (a := P) hP1, zn_eq (by omega) (by omega)]
    show A + B = P - 1 ↔ _
    omega
  have k4 : k = 0 ∨ k = 1 ∨ k = 2 ∨ k = 3 ∨ k = 4 := by omega
  have u : ((0 : Int32) = 0) ∧ ¬ ((1 : Int32) = 0) := ⟨rfl, by decide⟩
  by_cases c : A + B + 1 = P
  · rw [if_pos (e.mpr c), ff_J73 (Or.inr rfl) hk hA hB]
    refine ⟨_, rfl, ?_, ?_⟩
    · repeat' split
      all_goals first | exact Or.inl rfl | exact Or.inr rfl
    · rcases k4 with h | h | h | h | h
      · rw [if_pos h]; exact ⟨fun q => absurd q u.2, fun q => by omega⟩
      · rw [if_neg (by omega), if_pos h]
        by_cases d : B = A + 1
        · rw [if_pos d]; exact ⟨fun q => absurd q u.2, fun q => by omega⟩
        · rw [if_neg d]; exact ⟨fun _ => by omega, fun _ => rfl⟩
      · rw [if_neg (by omega), if_neg (by omega), if_pos h]
        by_cases d : B ≤ A
        · rw [if_pos d]; exact ⟨fun _ => by omega, fun _ => rfl⟩
        · rw [if_neg d]; exact ⟨fun q => absurd q u.2, fun q => by omega⟩
      · rw [if_neg (by omega), if_neg (by omega), if_neg (by omega), if_pos h]
        by_cases d : A = B
        · rw [if_pos d]; exact ⟨fun q => absurd q u.2, fun q => by omega⟩
        · rw [if_neg d]; exact ⟨fun _ => by omega, fun _ => rfl⟩
      · rw [if_neg (by omega), if_neg (by omega), if_neg (by omega), if_neg (by omega), if_neg u.2]
        exact ⟨fun _ => by omega, fun _ => rfl⟩
  · rw [if_neg (mt e.mp c), ff_J73 (Or.inl rfl) hk hA hB]
    refine ⟨_, rfl, ?_, ?_⟩
    · repeat' split
      all_goals first | exact Or.inl rfl | exact Or.inr rfl
    · rcases k4 with h | h | h | h | h
      · rw [if_pos h]; exact ⟨fun _ => by omega, fun _ => rfl⟩
      · rw [if_neg (by omega), if_pos h]
        by_cases d : B = A + 1
        · rw [if_pos d]; exact ⟨fun q => absurd q u.2, fun q => by omega⟩
        · rw [if_neg d]; exact ⟨fun _ => by omega, fun _ => rfl⟩
      · rw [if_neg (by omega), if_neg (by omega), if_pos h]
        by_cases d : B ≤ A
        · rw [if_pos d]; exact ⟨fun _ => by omega, fun _ => rfl⟩
        · rw [if_neg d]; exact ⟨fun q => absurd q u.2, fun q => by omega⟩
      · rw [if_neg (by omega), if_neg (by omega), if_neg (by omega), if_pos h]
        by_cases d : A = B
        · rw [if_pos d]; exact ⟨fun q => absurd q u.2, fun q => by omega⟩
        · rw [if_neg d]; exact ⟨fun _ => by omega, fun _ => rfl⟩
      · rw [if_neg (by omega), if_neg (by omega), if_neg (by omega), if_neg (by omega), if_pos rfl]
        exact ⟨fun q => absurd q u.2, fun q => by omega⟩
theorem brk_iff {X : gM} {P f k x o : Nat} {a : Nat → Nat} (hk : k ≤ 4) (hx : x < 10) (ho : o < 10) (f63 : X 63 0 f = nI k) (f64 : X 64 0 f = nI x) (f65 : X 65 0 f = nI o) :
    brk X P f a ↔ ((k = 0 ∧ a x + a o + 1 ≠ P) ∨ (k = 1 ∧ a o ≠ a x + 1) ∨ (k = 2 ∧ ¬ a x < a o) ∨ (k = 3 ∧ a x ≠ o) ∨ (k = 4 ∧ a x + a o + 1 = P)) := by
  constructor
  · rintro ⟨k', x', o', q1, q2, q3, q4, q5, q6, q7⟩
    have ek : k' = k := (zn_eq (by omega) (by omega)).mp (q1.symm.trans f63)
    have ex : x' = x := (zn_eq (by omega) (by omega)).mp (q2.symm.trans f64)
    have eo : o' = o := (zn_eq (by omega) (by omega)).mp (q3.symm.trans f65)
    subst ek ex eo
    exact q7
  · intro q
    exact ⟨k, x, o, f63, f64, f65, hk, hx, ho, q⟩
theorem X10_fitsFact_eq {al : Nat → Nat → Bool} {N P : Nat} {X : gM} {ls : List Nat} {a : Nat → Nat} {f k x o : Nat} (hN : 1000 ≤ N) (hn : ls.length ≤ 6) (hl : ∀ l ∈ ls, l < 10) (hP : P ≤ 8) (hP1 : 1 ≤ P) (ha : ∀ l ∈ ls, a l < P) (h : slt X ls a) (hf : f < 12) (hk : k ≤ 4) (hx : x < 10) (ho : o < 10) (f63 : X 63 0 f = nI k) (f64 : X 64 0 f = nI x) (f65 : X 65 0 f = nI o) (hxo : x ∈ ls → k ≠ 3 → o ∈ ls) :
    ∃ r : Int32, X10_fitsFact al N (nI f) (nI ls.length) (nI P) X = some (r, X) ∧ (r = 0 ∨ r = 1) ∧ (r = 0 ↔ x ∈ ls ∧ brk X P f a) := by
  have hb := brk_iff (P := P) (a := a) hk hx ho f63 f64 f65
  have hpx := X10_placeOf_eq (al := al) (x := x) hN hn hl hx h
  have hpo := X10_placeOf_eq (al := al) (x := o) hN hn hl ho h
  have e3 : (nI k = (3 : Int32)) ↔ k = 3 := zn_eql (k := 3) (by omega) (by decide)
  unfold X10_fitsFact
  rw [rd_nI hf (by omega), Option.bind_some, f64, hpx, bind2_some, Option.bind_some, gl_eq, f63]
  by_cases hm : x ∈ ls
  · have hax := ha x hm
    rw [if_pos hm, if_neg (zn_ne1 (by omega))]
    by_cases hk3 : k = 3
    · rw [if_pos (e3.mpr hk3), Option.bind_some, f65]
      obtain ⟨r, r1, r2, r3⟩ := ff_J55 (al := al) (N := N) (X := X) (A := a x) (B := o) (P := P) hk (by omega) (by omega) (by omega) hP1
      refine ⟨r, r1, r2, r3.trans ?_⟩
      rw [hb]
      constructor
      · intro q; exact ⟨hm, by omega⟩
      · rintro ⟨-, q⟩; omega
    · have hmo := hxo hm hk3
      have hao := ha o hmo
      rw [if_neg (mt e3.mp hk3), Option.bind_some, f65, hpo, bind2_some, if_pos hmo]
      obtain ⟨r, r1, r2, r3⟩ := ff_J55 (al := al) (N := N) (X := X) (A := a x) (B := a o) (P := P) hk (by omega) (by omega) (by omega) hP1
      refine ⟨r, r1, r2, r3.trans ?_⟩
      rw [hb]
      constructor
      · intro q; exact ⟨hm, by omega⟩
      · rintro ⟨-, q⟩; omega
  · rw [if_neg hm, if_pos rfl]
    exact ⟨1, rfl, Or.inr rfl, fun q => absurd q (by decide), fun q => absurd q.1 hm⟩
/-- what the facts look like -/
def fcs (X : gM) (F : Nat) (ls : List Nat) : Prop := F ≤ 12 ∧ X 43 0 23 = nI F ∧ ∀ f, f < F → ∃ k x o : Nat, k ≤ 4 ∧ x < 10 ∧ o < 10 ∧ X 63 0 f = nI k ∧ X 64 0 f = nI x ∧ X 65 0 f = nI o ∧ (x ∈ ls → k ≠ 3 → o ∈ ls)
theorem X10_fits_L6_eq {al : Nat → Nat → Bool} {N P F wo : Nat} {X : gM} {ls : List Nat} {a : Nat → Nat} {all : Bool} {p3 p4 : Int32} (hN : 1000 ≤ N) (hn : ls.length ≤ 6) (hl : ∀ l ∈ ls, l < 10) (hP : P ≤ 8) (hP1 : 1 ≤ P) (ha : ∀ l ∈ ls, a l < P) (h : slt X ls a) (hF : fcs X F ls) (hp3 : p3 = 0 ↔ all = false) (hp4 : ∀ f, f < 12 → (nI f = p4 ↔ f = wo)) (k75 : Int32 → Int32 → gM → Option (Int32 × gM)) (Q : Option (Int32 × gM) → Prop)
    (hQ : ∀ r : Int32, (r = 0 ∨ r = 1) → (r = 1 ↔ ∀ f, cts X F ls all f → f ≠ wo → ¬ brk X P f a) → Q (k75 (nI ls.length) r X)) : Q (X10_fits_L6 al N k75 N (nI ls.length) (nI P) p3 p4 1 0 X) := by
  obtain ⟨hF12, h43, hfc⟩ := hF
  refine m_up0 F (fun fu i (s : Int32) => X10_fits_L6 al N k75 fu (nI ls.length) (nI P) p3 p4 s i X)
    (fun i s => (s = 0 ∨ s = 1) ∧ (s = 1 ↔ ∀ f, f < i → cts X F ls all f → f ≠ wo → ¬ brk X P f a)) Q 1 (by omega) ?_ ?_ ⟨Or.inr rfl, fun _ f hf => absurd hf (Nat.not_lt_zero f), fun _ => rfl⟩
  · rintro i fu s hi ⟨hs, hs1⟩ ih
    rcases hs with rfl | rfl
    · have e0 : X10_fits_L6 al N k75 (fu + 1) (nI ls.length) (nI P) p3 p4 0 (nI i) X = k75 (nI ls.length) 0 X := by
        simp (disch := omega) only [X10_fits_L6, h43, zn_add, zn_mul, zn_addl, zn_ladd, zn_mull, zn_lmul, zn_le, zn_lt, zn_eq, zn_lel, zn_ltl, zn_eql, zn_lle, zn_llt, zn_leq, zn_sub, zn_subl, zn_m1, gl_eq, bind2_some, bind3_some, Option.bind_some, bz_0, bz_1, ib_0, ib_1, ib_bz, rd_nI, rd_l, if_pos, if_neg, if_true, if_false, ite_true, ite_false, eq_self, j00, j10, j20, j30, k00, k01, k02, k03, i20, i30, km0, i10, i01, im0, im1, i0m, i1m]
      show Q (X10_fits_L6 al N k75 (fu + 1) (nI ls.length) (nI P) p3 p4 0 (nI i) X)
      rw [e0]
      refine hQ 0 (Or.inl rfl) ⟨fun q => absurd q (by decide), fun q => ?_⟩
      exact absurd (hs1.mpr fun f _ => q f) (by decide)
    · have hall := hs1.mp rfl
      obtain ⟨k, x, o, hk, hx, ho, f63, f64, f65, hxo⟩ := hfc i hi
      have e1 : rd (nI i) 12 = some i := rd_nI (by omega) (by omega)
      have up1 : (¬ cts X F ls all i ∨ i = wo ∨ ¬ brk X P i a) → Q (X10_fits_L6 al N k75 fu (nI ls.length) (nI P) p3 p4 1 (nI (i + 1)) X) := fun hc => by
        refine ih 1 ⟨Or.inr rfl, fun _ f hf hct hfw => ?_, fun _ => rfl⟩
        by_cases hfi : f = i
        · subst hfi
          rcases hc with hc | hc | hc
          · exact absurd hct hc
          · exact absurd hc hfw
          · exact hc
        · exact hall f (by omega) hct hfw
      show Q (X10_fits_L6 al N k75 (fu + 1) (nI ls.length) (nI P) p3 p4 1 (nI i) X)
      have tail : cts X F ls all i ∨ (∀ y, y ∈ ls → y ≠ x) → Q (X10_fits_J44 al N (X10_fits_L6 al N k75 fu) k75 (nI ls.length) (nI P) p3 p4 (nI i) X) := by
        intro hct
        unfold X10_fits_J44
        by_cases hw : i = wo
        · rw [if_pos ((hp4 i (by omega)).mpr hw)]
          simp (disch := omega) only [X10_fits_J62, X10_fits_J67, zn_add, zn_mul, zn_addl, zn_ladd, zn_mull, zn_lmul, zn_le, zn_lt, zn_eq, zn_lel, zn_ltl, zn_eql, zn_lle, zn_llt, zn_leq, zn_sub, zn_subl, zn_m1, gl_eq, bind2_some, bind3_some, Option.bind_some, bz_0, bz_1, ib_0, ib_1, ib_bz, rd_nI, rd_l, if_pos, if_neg, if_true, if_false, ite_true, ite_false, eq_self, j00, j10, j20, j30, k00, k01, k02, k03, i20, i30, km0, i10, i01, im0, im1, i0m, i1m]
          exact up1 (Or.inr (Or.inl hw))
        · rw [if_neg (fun q => hw ((hp4 i (by omega)).mp q))]
          obtain ⟨r, r1, r2, r3⟩ := X10_fitsFact_eq (al := al) hN hn hl hP hP1 ha h (by omega : i < 12) hk hx ho f63 f64 f65 hxo
          rw [r1, bind2_some]
          rcases r2 with rfl | rfl
          · rw [if_pos rfl]
            simp (disch := omega) only [X10_fits_J67, zn_add, zn_mul, zn_addl, zn_ladd, zn_mull, zn_lmul, zn_le, zn_lt, zn_eq, zn_lel, zn_ltl, zn_eql, zn_lle, zn_llt, zn_leq, zn_sub, zn_subl, zn_m1, gl_eq, bind2_some, bind3_some, Option.bind_some, bz_0, bz_1, ib_0, ib_1, ib_bz, rd_nI, rd_l, if_pos, if_neg, if_true, if_false, ite_true, ite_false, eq_self, j00, j10, j20, j30, k00, k01, k02, k03, i20, i30, km0, i10, i01, im0, im1, i0m, i1m]
            obtain ⟨q1, q2⟩ := r3.mp rfl
            refine ih 0 ⟨Or.inl rfl, fun q => absurd q (by decide), fun q => ?_⟩
            rcases hct with hct | hct
            · exact absurd q2 (q i (by omega) hct hw)
            · exact absurd rfl (hct x q1)
          · rw [if_neg (by decide)]
            simp (disch := omega) only [X10_fits_J62, X10_fits_J67, zn_add, zn_mul, zn_addl, zn_ladd, zn_mull, zn_lmul, zn_le, zn_lt, zn_eq, zn_lel, zn_ltl, zn_eql, zn_lle, zn_llt, zn_leq, zn_sub, zn_subl, zn_m1, gl_eq, bind2_some, bind3_some, Option.bind_some, bz_0, bz_1, ib_0, ib_1, ib_bz, rd_nI, rd_l, if_pos, if_neg, if_true, if_false, ite_true, ite_false, eq_self, j00, j10, j20, j30, k00, k01, k02, k03, i20, i30, km0, i10, i01, im0, im1, i0m, i1m]
            have hnb : ¬ (x ∈ ls ∧ brk X P i a) := fun q => absurd (r3.mpr q) (by decide)
            by_cases hc : x ∈ ls
            · exact up1 (Or.inr (Or.inr fun q => hnb ⟨hc, q⟩))
            · refine up1 (Or.inl fun q => ?_)
              obtain ⟨-, -, -, y, hy, hy2⟩ := q
              have : y = x := (zn_eq (by have := hl y hy; omega) (by omega)).mp (hy2.symm.trans f64)
              subst this
              exact hc hy
      have inl : ∀ (h67 : X 67 0 i ≠ 0) (h66 : all = true ∨ X 66 0 i ≠ 0), cts X F ls all i ∨ (∀ y, y ∈ ls → y ≠ x) := fun h67 h66 => by
        by_cases hc : x ∈ ls
        · exact Or.inl ⟨hi, h67, h66, x, hc, f64⟩
        · exact Or.inr fun y hy hyx => hc (hyx ▸ hy)
      have e2 : ¬ nI F ≤ nI i := fun q => by
        have := (zn_le (by omega) (by omega)).mp q
        omega
      unfold X10_fits_L6
      rw [h43, if_neg e2, if_neg (by decide : ¬ (1 : Int32) = 0), e1, Option.bind_some]
      by_cases h67 : X 67 0 i = 0
      · rw [if_pos h67]
        simp (disch := omega) only [X10_fits_J62, X10_fits_J67, zn_add, zn_mul, zn_addl, zn_ladd, zn_mull, zn_lmul, zn_le, zn_lt, zn_eq, zn_lel, zn_ltl, zn_eql, zn_lle, zn_llt, zn_leq, zn_sub, zn_subl, zn_m1, gl_eq, bind2_some, bind3_some, Option.bind_some, bz_0, bz_1, ib_0, ib_1, ib_bz, rd_nI, rd_l, if_pos, if_neg, if_true, if_false, ite_true, ite_false, eq_self, j00, j10, j20, j30, k00, k01, k02, k03, i20, i30, km0, i10, i01, im0, im1, i0m, i1m]
        exact up1 (Or.inl fun q => q.2.1 h67)
      · rw [if_neg h67]
        by_cases h3 : p3 = 0
        · rw [if_pos h3, Option.bind_some]
          by_cases h66 : X 66 0 i = 0
          · rw [if_pos h66]
            simp (disch := omega) only [X10_fits_J62, X10_fits_J67, zn_add, zn_mul, zn_addl, zn_ladd, zn_mull, zn_lmul, zn_le, zn_lt, zn_eq, zn_lel, zn_ltl, zn_eql, zn_lle, zn_llt, zn_leq, zn_sub, zn_subl, zn_m1, gl_eq, bind2_some, bind3_some, Option.bind_some, bz_0, bz_1, ib_0, ib_1, ib_bz, rd_nI, rd_l, if_pos, if_neg, if_true, if_false, ite_true, ite_false, eq_self, j00, j10, j20, j30, k00, k01, k02, k03, i20, i30, km0, i10, i01, im0, im1, i0m, i1m]
            refine up1 (Or.inl fun q => ?_)
            rcases q.2.2.1 with z | z
            · rw [hp3.mp h3] at z; cases z
            · exact z h66
          · rw [if_neg h66]
            exact tail (inl h67 (Or.inr h66))
        · rw [if_neg h3]
          refine tail (inl h67 (Or.inl ?_))
          cases hall : all with
          | true => rfl
          | false => exact absurd (hp3.mpr hall) h3
  · rintro fu s ⟨hs, hs1⟩
    have e0 : X10_fits_L6 al N k75 (fu + 1) (nI ls.length) (nI P) p3 p4 s (nI F) X = k75 (nI ls.length) s X := by
      simp (disch := omega) only [X10_fits_L6, h43, zn_add, zn_mul, zn_addl, zn_ladd, zn_mull, zn_lmul, zn_le, zn_lt, zn_eq, zn_lel, zn_ltl, zn_eql, zn_lle, zn_llt, zn_leq, zn_sub, zn_subl, zn_m1, gl_eq, bind2_some, bind3_some, Option.bind_some, bz_0, bz_1, ib_0, ib_1, ib_bz, rd_nI, rd_l, if_pos, if_neg, if_true, if_false, ite_true, ite_false, eq_self, j00, j10, j20, j30, k00, k01, k02, k03, i20, i30, km0, i10, i01, im0, im1, i0m, i1m]
    show Q (X10_fits_L6 al N k75 (fu + 1) (nI ls.length) (nI P) p3 p4 s (nI F) X)
    rw [e0]
    refine hQ s hs (hs1.trans ⟨fun q f hct => q f hct.1 hct, fun q f _ => q f⟩)
