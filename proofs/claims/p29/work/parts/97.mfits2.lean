/-! arrangements: layers and fronts -/
theorem zi_lt {v : Nat} {p : Int32} (hv : v < 2147483648) : nI v < p ↔ (v : Int) < p.toInt := by rw [Int32.lt_iff_toInt_lt, zn_tI hv]
theorem zi_gt {v : Nat} {p : Int32} (hv : v < 2147483648) : p < nI v ↔ p.toInt < (v : Int) := by rw [Int32.lt_iff_toInt_lt, zn_tI hv]
theorem zi_le {v : Nat} {p : Int32} (hv : v < 2147483648) : p ≤ nI v ↔ p.toInt ≤ (v : Int) := by rw [Int32.le_iff_toInt_le, zn_tI hv]
theorem zi_ge {v : Nat} {p : Int32} (hv : v < 2147483648) : nI v ≤ p ↔ (v : Int) ≤ p.toInt := by rw [Int32.le_iff_toInt_le, zn_tI hv]
/-- the lowest and the highest place with a layer -/
def lyA (X : gM) (a : Nat → Nat) (S : List Nat) (hh : Nat) (lo hi : Int32) : Prop := ∀ v, v < 8 → (nI v < lo ↔ ∀ l ∈ S, mb (X 48 0 l) hh = true → v < a l) ∧ (hi < nI v ↔ ∀ l ∈ S, mb (X 48 0 l) hh = true → a l < v)
theorem lyA_0 {X : gM} {a : Nat → Nat} {hh : Nat} : lyA X a [] hh 100 (-1) := by
  intro v hv
  constructor
  · refine ⟨fun _ l hl => (by cases hl), fun _ => (zi_lt (by omega)).mpr ?_⟩
    have : (100 : Int32).toInt = 100 := rfl
    omega
  · refine ⟨fun _ l hl => (by cases hl), fun _ => (zi_gt (by omega)).mpr ?_⟩
    have : (-1 : Int32).toInt = -1 := rfl
    omega
theorem take_all {ls : List Nat} {i l : Nat} {p : Nat → Prop} (h : ls[i]? = some l) : (∀ x ∈ ls.take (i + 1), p x) ↔ (∀ x ∈ ls.take i, p x) ∧ p l := by
  constructor
  · intro q
    exact ⟨fun x hx => q x ((take_mem h).mpr (Or.inl hx)), q l ((take_mem h).mpr (Or.inr rfl))⟩
  · rintro ⟨q1, q2⟩ x hx
    rcases (take_mem h).mp hx with z | z
    · exact q1 x z
    · subst z; exact q2
theorem lyA_no {X : gM} {a : Nat → Nat} {ls : List Nat} {i l hh : Nat} {lo hi : Int32} (g : lyA X a (ls.take i) hh lo hi) (h : ls[i]? = some l) (hb : ¬ mb (X 48 0 l) hh = true) : lyA X a (ls.take (i + 1)) hh lo hi := by
  intro v hv
  obtain ⟨g1, g2⟩ := g v hv
  rw [take_all h, take_all h, g1, g2]
  exact ⟨⟨fun q => ⟨q, fun z => absurd z hb⟩, fun q => q.1⟩, ⟨fun q => ⟨q, fun z => absurd z hb⟩, fun q => q.1⟩⟩
theorem lyA_up {X : gM} {a : Nat → Nat} {ls : List Nat} {i l hh : Nat} {lo hi : Int32} (g : lyA X a (ls.take i) hh lo hi) (h : ls[i]? = some l) (hb : mb (X 48 0 l) hh = true) (ha : a l < 8) : lyA X a (ls.take (i + 1)) hh (if lo ≤ nI (a l) then lo else nI (a l)) (if nI (a l) ≤ hi then hi else nI (a l)) := by
  intro v hv
  obtain ⟨g1, g2⟩ := g v hv
  rw [take_all h, take_all h, ← g1, ← g2]
  constructor
  · by_cases c : lo ≤ nI (a l)
    · rw [if_pos c]
      rw [zi_le (by omega)] at c
      rw [zi_lt (by omega)]
      constructor
      · intro q; exact ⟨q, fun _ => by omega⟩
      · intro q; exact q.1
    · rw [if_neg c]
      rw [zi_le (by omega)] at c
      rw [zn_lt (by omega) (by omega), zi_lt (by omega)]
      constructor
      · intro q; exact ⟨by omega, fun _ => q⟩
      · intro q; exact q.2 hb
  · by_cases c : nI (a l) ≤ hi
    · rw [if_pos c]
      rw [zi_ge (by omega)] at c
      rw [zi_gt (by omega)]
      constructor
      · intro q; exact ⟨q, fun _ => by omega⟩
      · intro q; exact q.1
    · rw [if_neg c]
      rw [zi_ge (by omega)] at c
      rw [zn_lt (by omega) (by omega), zi_gt (by omega)]
      constructor
      · intro q; exact ⟨by omega, fun _ => q⟩
      · intro q; exact q.2 hb
theorem X10_fits_L100_eq {al : Nat → Nat → Bool} {N hh : Nat} {X : gM} {ls : List Nat} {a : Nat → Nat} {p5 : Int32} (hN : 1000 ≤ N) (hn : ls.length ≤ 6) (hl : ∀ l ∈ ls, l < 10) (ha : ∀ l ∈ ls, a l < 8) (h : slt X ls a) (hhh : hh < 8) (k : Int32 → Int32 → Int32 → Int32 → Int32 → gM → Option (Int32 × gM)) (Q : Option (Int32 × gM) → Prop) (hQ : ∀ lo hi, lyA X a ls hh lo hi → Q (k (nI ls.length) p5 (nI hh) lo hi X)) : Q (X10_fits_L100 al N k N (nI ls.length) p5 (nI hh) 100 (-1) 0 X) := by
  refine m_up0 ls.length (fun fu i (s : Int32 × Int32) => X10_fits_L100 al N k fu (nI ls.length) p5 (nI hh) s.1 s.2 i X)
    (fun i s => lyA X a (ls.take i) hh s.1 s.2) Q (100, -1) (by omega) ?_ ?_ (by rw [List.take_zero]; exact lyA_0)
  · rintro i fu ⟨lo, hi⟩ hi' g ih
    obtain ⟨l, hm, hg, q1, q2⟩ := slt_get h hi'
    have hl10 := hl l hm
    have ha8 := ha l hm
    show Q (X10_fits_L100 al N k (fu + 1) (nI ls.length) p5 (nI hh) lo hi (nI i) X)
    by_cases hb : bt (X 48 0 l) hh = true
    · have hup := lyA_up g hg hb ha8
      have hbt := (b_tst1 (by omega : hh < 32) (X 48 0 l)).mpr hb
      by_cases c1 : lo ≤ nI (a l)
      · by_cases c2 : nI (a l) ≤ hi
        · rw [if_pos c1, if_pos c2] at hup
          simp (disch := omega) only [X10_fits_L100, q1, hbt, X10_fits_J132, q2, if_pos c1, X10_fits_J161, X10_fits_J163, if_pos c2, X10_fits_J192, X10_fits_J194, zn_add, zn_mul, zn_addl, zn_ladd, zn_mull, zn_lmul, zn_le, zn_lt, zn_eq, zn_lel, zn_ltl, zn_eql, zn_lle, zn_llt, zn_leq, zn_sub, zn_subl, zn_m1, gl_eq, bind2_some, bind3_some, Option.bind_some, bz_0, bz_1, ib_0, ib_1, ib_bz, rd_nI, rd_l, if_pos, if_neg, if_true, if_false, ite_true, ite_false, eq_self, j00, j10, j20, j30, k00, k01, k02, k03, i20, i30, km0, i10, i01, im0, im1, i0m, i1m]
          exact ih (lo, hi) hup
        · rw [if_pos c1, if_neg c2] at hup
          simp (disch := omega) only [X10_fits_L100, q1, hbt, X10_fits_J132, q2, if_pos c1, X10_fits_J161, X10_fits_J163, if_neg c2, X10_fits_J192, X10_fits_J194, zn_add, zn_mul, zn_addl, zn_ladd, zn_mull, zn_lmul, zn_le, zn_lt, zn_eq, zn_lel, zn_ltl, zn_eql, zn_lle, zn_llt, zn_leq, zn_sub, zn_subl, zn_m1, gl_eq, bind2_some, bind3_some, Option.bind_some, bz_0, bz_1, ib_0, ib_1, ib_bz, rd_nI, rd_l, if_pos, if_neg, if_true, if_false, ite_true, ite_false, eq_self, j00, j10, j20, j30, k00, k01, k02, k03, i20, i30, km0, i10, i01, im0, im1, i0m, i1m]
          exact ih (lo, nI (a l)) hup
      · by_cases c2 : nI (a l) ≤ hi
        · rw [if_neg c1, if_pos c2] at hup
          simp (disch := omega) only [X10_fits_L100, q1, hbt, X10_fits_J132, q2, if_neg c1, X10_fits_J161, X10_fits_J163, if_pos c2, X10_fits_J192, X10_fits_J194, zn_add, zn_mul, zn_addl, zn_ladd, zn_mull, zn_lmul, zn_le, zn_lt, zn_eq, zn_lel, zn_ltl, zn_eql, zn_lle, zn_llt, zn_leq, zn_sub, zn_subl, zn_m1, gl_eq, bind2_some, bind3_some, Option.bind_some, bz_0, bz_1, ib_0, ib_1, ib_bz, rd_nI, rd_l, if_pos, if_neg, if_true, if_false, ite_true, ite_false, eq_self, j00, j10, j20, j30, k00, k01, k02, k03, i20, i30, km0, i10, i01, im0, im1, i0m, i1m]
          exact ih (nI (a l), hi) hup
        · rw [if_neg c1, if_neg c2] at hup
          simp (disch := omega) only [X10_fits_L100, q1, hbt, X10_fits_J132, q2, if_neg c1, X10_fits_J161, X10_fits_J163, if_neg c2, X10_fits_J192, X10_fits_J194, zn_add, zn_mul, zn_addl, zn_ladd, zn_mull, zn_lmul, zn_le, zn_lt, zn_eq, zn_lel, zn_ltl, zn_eql, zn_lle, zn_llt, zn_leq, zn_sub, zn_subl, zn_m1, gl_eq, bind2_some, bind3_some, Option.bind_some, bz_0, bz_1, ib_0, ib_1, ib_bz, rd_nI, rd_l, if_pos, if_neg, if_true, if_false, ite_true, ite_false, eq_self, j00, j10, j20, j30, k00, k01, k02, k03, i20, i30, km0, i10, i01, im0, im1, i0m, i1m]
          exact ih (nI (a l), nI (a l)) hup
    · have hup := lyA_no g hg hb
      have hbt : ¬ (X 48 0 l >>> (nI hh &&& 31)) &&& 1 = 1 := fun q => hb ((b_tst1 (by omega : hh < 32) (X 48 0 l)).mp q)
      simp (disch := omega) only [X10_fits_L100, q1, if_neg hbt, X10_fits_J132, X10_fits_J161, X10_fits_J163, X10_fits_J192, X10_fits_J194, zn_add, zn_mul, zn_addl, zn_ladd, zn_mull, zn_lmul, zn_le, zn_lt, zn_eq, zn_lel, zn_ltl, zn_eql, zn_lle, zn_llt, zn_leq, zn_sub, zn_subl, zn_m1, gl_eq, bind2_some, bind3_some, Option.bind_some, bz_0, bz_1, ib_0, ib_1, ib_bz, rd_nI, rd_l, if_pos, if_neg, if_true, if_false, ite_true, ite_false, eq_self, j00, j10, j20, j30, k00, k01, k02, k03, i20, i30, km0, i10, i01, im0, im1, i0m, i1m]
      exact ih (lo, hi) hup
  · rintro fu ⟨lo, hi⟩ g
    rw [List.take_length] at g
    show Q (X10_fits_L100 al N k (fu + 1) (nI ls.length) p5 (nI hh) lo hi (nI ls.length) X)
    simp (disch := omega) only [X10_fits_L100, zn_add, zn_mul, zn_addl, zn_ladd, zn_mull, zn_lmul, zn_le, zn_lt, zn_eq, zn_lel, zn_ltl, zn_eql, zn_lle, zn_llt, zn_leq, zn_sub, zn_subl, zn_m1, gl_eq, bind2_some, bind3_some, Option.bind_some, bz_0, bz_1, ib_0, ib_1, ib_bz, rd_nI, rd_l, if_pos, if_neg, if_true, if_false, ite_true, ite_false, eq_self, j00, j10, j20, j30, k00, k01, k02, k03, i20, i30, km0, i10, i01, im0, im1, i0m, i1m]
    exact hQ lo hi g
def cvx (X : gM) (ls : List Nat) (a : Nat → Nat) (h : Nat) : Prop := ∀ i ∈ ls, ∀ j ∈ ls, ∀ k ∈ ls, mb (X 48 0 i) h = true → mb (X 48 0 k) h = true → a i < a j → a j < a k → mb (X 48 0 j) h = true
theorem cvx_ly {X : gM} {ls : List Nat} {a : Nat → Nat} {hh : Nat} {lo hi : Int32} (hd : ∀ i ∈ ls, ∀ j ∈ ls, a i = a j → i = j) (ha : ∀ l ∈ ls, a l < 8) (g : lyA X a ls hh lo hi) : (∀ l ∈ ls, mb (X 48 0 l) hh = true ∨ nI (a l) < lo ∨ hi < nI (a l)) ↔ cvx X ls a hh := by
  constructor
  · intro q i mi j mj k mk bi bk h1 h2
    rcases q j mj with c | c | c
    · exact c
    · have := (g (a j) (ha j mj)).1.mp c i mi bi
      omega
    · have := (g (a j) (ha j mj)).2.mp c k mk bk
      omega
  · intro q j mj
    by_cases bj : mb (X 48 0 j) hh = true
    · exact Or.inl bj
    · refine Or.inr ?_
      apply Classical.byContradiction
      intro z
      rw [not_or, (g (a j) (ha j mj)).1, (g (a j) (ha j mj)).2] at z
      obtain ⟨z1, z2⟩ := z
      apply z1
      intro i mi bi
      apply Classical.byContradiction
      intro w1
      apply z2
      intro k mk bk
      apply Classical.byContradiction
      intro w2
      have n1 : a i ≠ a j := fun e => bj (hd i mi j mj e ▸ bi)
      have n2 : a k ≠ a j := fun e => bj (hd k mk j mj e ▸ bk)
      exact bj (q i mi j mj k mk bi bk (by omega) (by omega))
theorem X10_fits_L205_eq {al : Nat → Nat → Bool} {N hh : Nat} {X : gM} {ls : List Nat} {a : Nat → Nat} {lo hi : Int32} (hN : 1000 ≤ N) (hn : ls.length ≤ 6) (hl : ∀ l ∈ ls, l < 10) (h : slt X ls a) (hhh : hh < 8) (k : Int32 → Int32 → Int32 → gM → Option (Int32 × gM)) (Q : Option (Int32 × gM) → Prop) (hQ : ∀ r, (r = 0 ∨ r = 1) → (r = 1 ↔ ∀ l ∈ ls, mb (X 48 0 l) hh = true ∨ nI (a l) < lo ∨ hi < nI (a l)) → Q (k (nI ls.length) r (nI hh) X)) : Q (X10_fits_L205 al N k N (nI ls.length) 1 (nI hh) lo hi 0 X) := by
  refine m_up0 ls.length (fun fu i (s : Int32) => X10_fits_L205 al N k fu (nI ls.length) s (nI hh) lo hi i X)
    (fun i s => (s = 0 ∨ s = 1) ∧ (s = 1 ↔ ∀ l ∈ ls.take i, mb (X 48 0 l) hh = true ∨ nI (a l) < lo ∨ hi < nI (a l))) Q 1 (by omega) ?_ ?_ ⟨Or.inr rfl, fun _ l hl => (by rw [List.take_zero] at hl; cases hl), fun _ => rfl⟩
  · rintro i fu s hi' ⟨hs, hs1⟩ ih
    obtain ⟨l, hm, hg, q1, q2⟩ := slt_get h hi'
    have hl10 := hl l hm
    have e2 : ¬ nI ls.length ≤ nI i := fun q => by
      have := (zn_le (by omega) (by omega)).mp q
      omega
    show Q (X10_fits_L205 al N k (fu + 1) (nI ls.length) s (nI hh) lo hi (nI i) X)
    have ok : s = 1 → (mb (X 48 0 l) hh = true ∨ nI (a l) < lo ∨ hi < nI (a l)) → Q (X10_fits_J261 al N (X10_fits_L205 al N k fu) k (nI ls.length) (nI hh) lo hi (nI i) X) := fun h1 h2 => by
      simp (disch := omega) only [X10_fits_J261, X10_fits_J266, zn_add, zn_mul, zn_addl, zn_ladd, zn_mull, zn_lmul, zn_le, zn_lt, zn_eq, zn_lel, zn_ltl, zn_eql, zn_lle, zn_llt, zn_leq, zn_sub, zn_subl, zn_m1, gl_eq, bind2_some, bind3_some, Option.bind_some, bz_0, bz_1, ib_0, ib_1, ib_bz, rd_nI, rd_l, if_pos, if_neg, if_true, if_false, ite_true, ite_false, eq_self, j00, j10, j20, j30, k00, k01, k02, k03, i20, i30, km0, i10, i01, im0, im1, i0m, i1m]
      refine ih 1 ⟨Or.inr rfl, fun _ => ?_, fun _ => rfl⟩
      rw [take_all hg]
      exact ⟨hs1.mp h1, h2⟩
    have no : ¬ (s = 1 ∧ (mb (X 48 0 l) hh = true ∨ nI (a l) < lo ∨ hi < nI (a l))) → Q (X10_fits_J265 al N (X10_fits_L205 al N k fu) k (nI ls.length) (nI hh) lo hi (nI i) X) := fun h1 => by
      simp (disch := omega) only [X10_fits_J265, X10_fits_J266, zn_add, zn_mul, zn_addl, zn_ladd, zn_mull, zn_lmul, zn_le, zn_lt, zn_eq, zn_lel, zn_ltl, zn_eql, zn_lle, zn_llt, zn_leq, zn_sub, zn_subl, zn_m1, gl_eq, bind2_some, bind3_some, Option.bind_some, bz_0, bz_1, ib_0, ib_1, ib_bz, rd_nI, rd_l, if_pos, if_neg, if_true, if_false, ite_true, ite_false, eq_self, j00, j10, j20, j30, k00, k01, k02, k03, i20, i30, km0, i10, i01, im0, im1, i0m, i1m]
      refine ih 0 ⟨Or.inl rfl, fun q => absurd q (by decide), fun q => ?_⟩
      rw [take_all hg] at q
      exact absurd ⟨hs1.mpr q.1, q.2⟩ h1
    unfold X10_fits_L205
    rw [if_neg e2]
    rcases hs with rfl | rfl
    · rw [if_pos rfl]
      exact no fun q => absurd q.1 (by decide)
    · rw [if_neg (by decide : ¬ (1 : Int32) = 0), rd_nI (by omega) (by omega), Option.bind_some, q1, rd_nI hl10 (by omega), Option.bind_some, Option.bind_some, Option.bind_some, q2]
      by_cases c1 : mb (X 48 0 l) hh = true
      · rw [if_pos ((b_tst1 (by omega : hh < 32) (X 48 0 l)).mpr c1)]
        exact ok rfl (Or.inl c1)
      · rw [if_neg (fun q => c1 ((b_tst1 (by omega : hh < 32) (X 48 0 l)).mp q))]
        by_cases c2 : nI (a l) < lo
        · rw [if_pos c2]
          exact ok rfl (Or.inr (Or.inl c2))
        · rw [if_neg c2]
          by_cases c3 : nI (a l) ≤ hi
          · rw [if_pos c3]
            refine no ?_
            rintro ⟨-, q | q | q⟩
            · exact c1 q
            · exact c2 q
            · exact Int32.not_lt.mpr c3 q
          · rw [if_neg c3]
            exact ok rfl (Or.inr (Or.inr (Int32.not_le.mp c3)))
  · rintro fu s ⟨hs, hs1⟩
    rw [List.take_length] at hs1
    show Q (X10_fits_L205 al N k (fu + 1) (nI ls.length) s (nI hh) lo hi (nI ls.length) X)
    simp (disch := omega) only [X10_fits_L205, zn_add, zn_mul, zn_addl, zn_ladd, zn_mull, zn_lmul, zn_le, zn_lt, zn_eq, zn_lel, zn_ltl, zn_eql, zn_lle, zn_llt, zn_leq, zn_sub, zn_subl, zn_m1, gl_eq, bind2_some, bind3_some, Option.bind_some, bz_0, bz_1, ib_0, ib_1, ib_bz, rd_nI, rd_l, if_pos, if_neg, if_true, if_false, ite_true, ite_false, eq_self, j00, j10, j20, j30, k00, k01, k02, k03, i20, i30, km0, i10, i01, im0, im1, i0m, i1m]
    exact hQ s hs hs1
theorem X10_fits_L78_eq {al : Nat → Nat → Bool} {N : Nat} {X : gM} {ls : List Nat} {a : Nat → Nat} {r0 : Int32} (hN : 1000 ≤ N) (hn : ls.length ≤ 6) (hl : ∀ l ∈ ls, l < 10) (ha : ∀ l ∈ ls, a l < 8) (h : slt X ls a) (hd : ∀ i ∈ ls, ∀ j ∈ ls, a i = a j → i = j) (hr : r0 = 0 ∨ r0 = 1) (k : Int32 → Int32 → gM → Option (Int32 × gM)) (Q : Option (Int32 × gM) → Prop) (hQ : ∀ r, (r = 0 ∨ r = 1) → (r = 1 ↔ r0 = 1 ∧ ∀ hh, hh < 8 → cvx X ls a hh) → Q (k (nI ls.length) r X)) : Q (X10_fits_L78 al N k N (nI ls.length) r0 0 X) := by
  refine m_up0 8 (fun fu i (s : Int32) => X10_fits_L78 al N k fu (nI ls.length) s i X)
    (fun i s => (s = 0 ∨ s = 1) ∧ (s = 1 ↔ r0 = 1 ∧ ∀ hh, hh < i → cvx X ls a hh)) Q r0 (by omega) ?_ ?_ ⟨hr, fun q => ⟨q, fun hh z => absurd z (Nat.not_lt_zero hh)⟩, fun q => q.1⟩
  · rintro i fu s hi' ⟨hs, hs1⟩ ih
    have e2 : ¬ (8 : Int32) ≤ nI i := fun q => by
      have := (zn_lle (k := 8) (by omega) (by decide)).mp q
      have e8 : (OfNat.ofNat 8 : Nat) = 8 := rfl
      omega
    show Q (X10_fits_L78 al N k (fu + 1) (nI ls.length) s (nI i) X)
    unfold X10_fits_L78
    rw [if_neg e2]
    rcases hs with rfl | rfl
    · rw [if_pos rfl]
      refine hQ 0 (Or.inl rfl) ⟨fun q => absurd q (by decide), fun q => ?_⟩
      exact absurd (hs1.mpr ⟨q.1, fun hh hz => q.2 hh (by omega)⟩) (by decide)
    · rw [if_neg (by decide : ¬ (1 : Int32) = 0)]
      refine X10_fits_L100_eq hN hn hl ha h hi' _ Q fun lo hi g => ?_
      show Q (X10_fits_J202 al N (X10_fits_L78 al N k fu) k (nI ls.length) 1 (nI i) lo hi X)
      unfold X10_fits_J202
      refine X10_fits_L205_eq hN hn hl h hi' _ Q fun r r1 r2 => ?_
      show Q (X10_fits_J274 al N (X10_fits_L78 al N k fu) k (nI ls.length) r (nI i) X)
      simp (disch := omega) only [X10_fits_J274, zn_add, zn_mul, zn_addl, zn_ladd, zn_mull, zn_lmul, zn_le, zn_lt, zn_eq, zn_lel, zn_ltl, zn_eql, zn_lle, zn_llt, zn_leq, zn_sub, zn_subl, zn_m1, gl_eq, bind2_some, bind3_some, Option.bind_some, bz_0, bz_1, ib_0, ib_1, ib_bz, rd_nI, rd_l, if_pos, if_neg, if_true, if_false, ite_true, ite_false, eq_self, j00, j10, j20, j30, k00, k01, k02, k03, i20, i30, km0, i10, i01, im0, im1, i0m, i1m]
      refine ih r ⟨r1, ?_⟩
      rw [r2, cvx_ly hd ha g]
      constructor
      · intro q
        refine ⟨(hs1.mp rfl).1, fun hh hz => ?_⟩
        by_cases c : hh = i
        · subst c; exact q
        · exact (hs1.mp rfl).2 hh (by omega)
      · intro q
        exact q.2 i (by omega)
  · rintro fu s ⟨hs, hs1⟩
    show Q (X10_fits_L78 al N k (fu + 1) (nI ls.length) s (nI 8) X)
    simp (disch := omega) only [X10_fits_L78, zn_add, zn_mul, zn_addl, zn_ladd, zn_mull, zn_lmul, zn_le, zn_lt, zn_eq, zn_lel, zn_ltl, zn_eql, zn_lle, zn_llt, zn_leq, zn_sub, zn_subl, zn_m1, gl_eq, bind2_some, bind3_some, Option.bind_some, bz_0, bz_1, ib_0, ib_1, ib_bz, rd_nI, rd_l, if_pos, if_neg, if_true, if_false, ite_true, ite_false, eq_self, j00, j10, j20, j30, k00, k01, k02, k03, i20, i30, km0, i10, i01, im0, im1, i0m, i1m]
    exact hQ s hs hs1
/-- fronts of two that stand side by side -/
def frn (X : gM) (a : Nat → Nat) (i j : Nat) : Prop := a j = a i + 1 → X 47 0 i ≠ -1 → X 47 0 j ≠ -1 → X 47 0 i ≠ X 47 0 j
theorem fr_411 {al : Nat → Nat → Bool} {N : Nat} {X : gM} {kk : Int32 → Int32 → Int32 → Int32 → gM → Option (Int32 × gM)} {k : Int32 → Int32 → Int32 → gM → Option (Int32 × gM)} {p1 p6 p7 u v : Int32} : X10_fits_J411 al N kk k p1 p6 p7 u v X = if u = v then X10_fits_J418 al N kk k p1 p6 p7 X else X10_fits_J414 al N kk k p1 p6 p7 X := rfl
theorem X10_fits_L297_eq {al : Nat → Nat → Bool} {N i li : Nat} {X : gM} {ls : List Nat} {a : Nat → Nat} (hN : 1000 ≤ N) (hn : ls.length ≤ 6) (hl : ∀ l ∈ ls, l < 10) (ha : ∀ l ∈ ls, a l < 8) (h : slt X ls a) (hf : ∀ l ∈ ls, X 47 0 l = -1 ∨ X 47 0 l = 0 ∨ X 47 0 l = 1) (hi : i < ls.length) (hgi : ls[i]? = some li) (k : Int32 → Int32 → Int32 → gM → Option (Int32 × gM)) (Q : Option (Int32 × gM) → Prop) (hQ : ∀ r, (r = 0 ∨ r = 1) → (r = 1 ↔ ∀ l ∈ ls, frn X a li l) → Q (k (nI ls.length) r (nI i) X)) : Q (X10_fits_L297 al N k N (nI ls.length) 1 (nI i) 0 X) := by
  refine m_up0 ls.length (fun fu j (s : Int32) => X10_fits_L297 al N k fu (nI ls.length) s (nI i) j X)
    (fun j s => (s = 0 ∨ s = 1) ∧ (s = 1 ↔ ∀ l ∈ ls.take j, frn X a li l)) Q 1 (by omega) ?_ ?_ ⟨Or.inr rfl, fun _ l hl => (by rw [List.take_zero] at hl; cases hl), fun _ => rfl⟩
  · rintro j fu s hj ⟨hs, hs1⟩ ih
    obtain ⟨l, hm, hg, q1, q2⟩ := slt_get h hj
    obtain ⟨w1, w2⟩ := h i li hgi
    have hmi : li ∈ ls := List.mem_of_getElem? hgi
    have hl10 := hl l hm
    have hli10 := hl li hmi
    have ha8 := ha l hm
    have hai8 := ha li hmi
    have e2 : ¬ nI ls.length ≤ nI j := fun q => by
      have := (zn_le (by omega) (by omega)).mp q
      omega
    show Q (X10_fits_L297 al N k (fu + 1) (nI ls.length) s (nI i) (nI j) X)
    have ok : s = 1 → frn X a li l → Q (X10_fits_J414 al N (X10_fits_L297 al N k fu) k (nI ls.length) (nI i) (nI j) X) := fun h1 h2 => by
      simp (disch := omega) only [X10_fits_J414, X10_fits_J419, zn_add, zn_mul, zn_addl, zn_ladd, zn_mull, zn_lmul, zn_le, zn_lt, zn_eq, zn_lel, zn_ltl, zn_eql, zn_lle, zn_llt, zn_leq, zn_sub, zn_subl, zn_m1, gl_eq, bind2_some, bind3_some, Option.bind_some, bz_0, bz_1, ib_0, ib_1, ib_bz, rd_nI, rd_l, if_pos, if_neg, if_true, if_false, ite_true, ite_false, eq_self, j00, j10, j20, j30, k00, k01, k02, k03, i20, i30, km0, i10, i01, im0, im1, i0m, i1m]
      refine ih 1 ⟨Or.inr rfl, fun _ => ?_, fun _ => rfl⟩
      rw [take_all hg]
      exact ⟨hs1.mp h1, h2⟩
    have no : ¬ (s = 1 ∧ frn X a li l) → Q (X10_fits_J418 al N (X10_fits_L297 al N k fu) k (nI ls.length) (nI i) (nI j) X) := fun h1 => by
      simp (disch := omega) only [X10_fits_J418, X10_fits_J419, zn_add, zn_mul, zn_addl, zn_ladd, zn_mull, zn_lmul, zn_le, zn_lt, zn_eq, zn_lel, zn_ltl, zn_eql, zn_lle, zn_llt, zn_leq, zn_sub, zn_subl, zn_m1, gl_eq, bind2_some, bind3_some, Option.bind_some, bz_0, bz_1, ib_0, ib_1, ib_bz, rd_nI, rd_l, if_pos, if_neg, if_true, if_false, ite_true, ite_false, eq_self, j00, j10, j20, j30, k00, k01, k02, k03, i20, i30, km0, i10, i01, im0, im1, i0m, i1m]
      refine ih 0 ⟨Or.inl rfl, fun q => absurd q (by decide), fun q => ?_⟩
      rw [take_all hg] at q
      exact absurd ⟨hs1.mpr q.1, q.2⟩ h1
    have un : frn X a li l → Q (X10_fits_J358 al N (X10_fits_L297 al N k fu) k (nI ls.length) s (nI i) (nI j) X) := fun h2 => by
      unfold X10_fits_J358 X10_fits_J359
      rcases hs with rfl | rfl
      · rw [if_pos rfl]
        exact no fun q => absurd q.1 (by decide)
      · rw [if_neg (by decide : ¬ (1 : Int32) = 0), if_pos rfl]
        exact ok rfl h2
    have r6 : ∀ z, z < ls.length → rd (nI z) 6 = some z := fun z hz => rd_nI (by omega) (by omega)
    unfold X10_fits_L297
    rw [if_neg e2, r6 j hj, Option.bind_some, r6 i hi, Option.bind_some, q2, w2]
    have ea : (nI (a l) = nI (a li) + (1 : Int32)) ↔ a l = a li + 1 := by rw [zn_a1 (a li)]; exact zn_eq (by omega) (by omega)
    by_cases c1 : a l = a li + 1
    · rw [if_pos (ea.mpr c1), Option.bind_some, w1, rd_nI hli10 (by omega), Option.bind_some]
      by_cases c2 : X 47 0 li = -1
      · rw [if_pos c2]
        exact un fun _ q => absurd c2 q
      · rw [if_neg c2, Option.bind_some, q1, rd_nI hl10 (by omega), Option.bind_some]
        by_cases c3 : X 47 0 l = -1
        · rw [if_pos c3]
          exact un fun _ _ q => absurd c3 q
        · rw [if_neg c3]
          unfold X10_fits_J359
          rcases hs with rfl | rfl
          · rw [if_pos rfl]
            exact no fun q => absurd q.1 (by decide)
          · rw [if_neg (by decide : ¬ (1 : Int32) = 0), if_neg (by decide : ¬ (1 : Int32) = 0), r6 i hi, Option.bind_some, w1, rd_nI hli10 (by omega), Option.bind_some]
            have g1 : X 47 0 li = 0 ∨ X 47 0 li = 1 := (hf li hmi).resolve_left c2
            have g2 : X 47 0 l = 0 ∨ X 47 0 l = 1 := (hf l hm).resolve_left c3
            have i1 : ¬ (1 : Int32) = 0 := by decide
            have i0 : ¬ (0 : Int32) = 1 := by decide
            rcases g1 with g1 | g1 <;> rcases g2 with g2 | g2
            · rw [if_pos g1]
              unfold X10_fits_J391
              rw [r6 j hj, Option.bind_some, q1, rd_nI hl10 (by omega), Option.bind_some, if_pos g2, fr_411, if_pos rfl]
              exact no fun q => absurd (g1.trans g2.symm) (q.2 c1 c2 c3)
            · rw [if_pos g1]
              unfold X10_fits_J391
              rw [r6 j hj, Option.bind_some, q1, rd_nI hl10 (by omega), Option.bind_some, if_neg (by rw [g2]; exact i1), fr_411, if_neg i1]
              exact ok rfl fun _ _ _ => by rw [g1, g2]; exact i0
            · rw [if_neg (by rw [g1]; exact i1)]
              unfold X10_fits_J391
              rw [r6 j hj, Option.bind_some, q1, rd_nI hl10 (by omega), Option.bind_some, if_pos g2, fr_411, if_neg i0]
              exact ok rfl fun _ _ _ => by rw [g1, g2]; exact i1
            · rw [if_neg (by rw [g1]; exact i1)]
              unfold X10_fits_J391
              rw [r6 j hj, Option.bind_some, q1, rd_nI hl10 (by omega), Option.bind_some, if_neg (by rw [g2]; exact i1), fr_411, if_pos rfl]
              exact no fun q => absurd (g1.trans g2.symm) (q.2 c1 c2 c3)
    · rw [if_neg (mt ea.mp c1)]
      exact un fun q => absurd q c1
  · rintro fu s ⟨hs, hs1⟩
    rw [List.take_length] at hs1
    show Q (X10_fits_L297 al N k (fu + 1) (nI ls.length) s (nI i) (nI ls.length) X)
    simp (disch := omega) only [X10_fits_L297, zn_add, zn_mul, zn_addl, zn_ladd, zn_mull, zn_lmul, zn_le, zn_lt, zn_eq, zn_lel, zn_ltl, zn_eql, zn_lle, zn_llt, zn_leq, zn_sub, zn_subl, zn_m1, gl_eq, bind2_some, bind3_some, Option.bind_some, bz_0, bz_1, ib_0, ib_1, ib_bz, rd_nI, rd_l, if_pos, if_neg, if_true, if_false, ite_true, ite_false, eq_self, j00, j10, j20, j30, k00, k01, k02, k03, i20, i30, km0, i10, i01, im0, im1, i0m, i1m]
    exact hQ s hs hs1
theorem X10_fits_L283_eq {al : Nat → Nat → Bool} {N : Nat} {X : gM} {ls : List Nat} {a : Nat → Nat} {r0 : Int32} (hN : 1000 ≤ N) (hn : ls.length ≤ 6) (hl : ∀ l ∈ ls, l < 10) (ha : ∀ l ∈ ls, a l < 8) (h : slt X ls a) (hf : ∀ l ∈ ls, X 47 0 l = -1 ∨ X 47 0 l = 0 ∨ X 47 0 l = 1) (hr : r0 = 0 ∨ r0 = 1) (k : Int32 → gM → Option (Int32 × gM)) (Q : Option (Int32 × gM) → Prop) (hQ : ∀ r, (r = 0 ∨ r = 1) → (r = 1 ↔ r0 = 1 ∧ ∀ i ∈ ls, ∀ j ∈ ls, frn X a i j) → Q (k r X)) : Q (X10_fits_L283 al N k N (nI ls.length) r0 0 X) := by
  refine m_up0 ls.length (fun fu i (s : Int32) => X10_fits_L283 al N k fu (nI ls.length) s i X)
    (fun i s => (s = 0 ∨ s = 1) ∧ (s = 1 ↔ r0 = 1 ∧ ∀ x ∈ ls.take i, ∀ j ∈ ls, frn X a x j)) Q r0 (by omega) ?_ ?_ ⟨hr, fun q => ⟨q, fun x hx => (by rw [List.take_zero] at hx; cases hx)⟩, fun q => q.1⟩
  · rintro i fu s hi ⟨hs, hs1⟩ ih
    obtain ⟨l, hm, hg, q1, q2⟩ := slt_get h hi
    have e2 : ¬ nI ls.length ≤ nI i := fun q => by
      have := (zn_le (by omega) (by omega)).mp q
      omega
    show Q (X10_fits_L283 al N k (fu + 1) (nI ls.length) s (nI i) X)
    unfold X10_fits_L283
    rw [if_neg e2]
    rcases hs with rfl | rfl
    · rw [if_pos rfl]
      refine hQ 0 (Or.inl rfl) ⟨fun q => absurd q (by decide), fun q => ?_⟩
      exact absurd (hs1.mpr ⟨q.1, fun x hx => q.2 x (List.mem_of_mem_take hx)⟩) (by decide)
    · rw [if_neg (by decide : ¬ (1 : Int32) = 0)]
      refine X10_fits_L297_eq hN hn hl ha h hf hi hg _ Q fun r r1 r2 => ?_
      show Q (X10_fits_J427 al N (X10_fits_L283 al N k fu) k (nI ls.length) r (nI i) X)
      simp (disch := omega) only [X10_fits_J427, zn_add, zn_mul, zn_addl, zn_ladd, zn_mull, zn_lmul, zn_le, zn_lt, zn_eq, zn_lel, zn_ltl, zn_eql, zn_lle, zn_llt, zn_leq, zn_sub, zn_subl, zn_m1, gl_eq, bind2_some, bind3_some, Option.bind_some, bz_0, bz_1, ib_0, ib_1, ib_bz, rd_nI, rd_l, if_pos, if_neg, if_true, if_false, ite_true, ite_false, eq_self, j00, j10, j20, j30, k00, k01, k02, k03, i20, i30, km0, i10, i01, im0, im1, i0m, i1m]
      refine ih r ⟨r1, ?_⟩
      rw [r2, take_all hg]
      constructor
      · intro q
        exact ⟨(hs1.mp rfl).1, (hs1.mp rfl).2, q⟩
      · intro q
        exact q.2.2
  · rintro fu s ⟨hs, hs1⟩
    rw [List.take_length] at hs1
    show Q (X10_fits_L283 al N k (fu + 1) (nI ls.length) s (nI ls.length) X)
    simp (disch := omega) only [X10_fits_L283, zn_add, zn_mul, zn_addl, zn_ladd, zn_mull, zn_lmul, zn_le, zn_lt, zn_eq, zn_lel, zn_ltl, zn_eql, zn_lle, zn_llt, zn_leq, zn_sub, zn_subl, zn_m1, gl_eq, bind2_some, bind3_some, Option.bind_some, bz_0, bz_1, ib_0, ib_1, ib_bz, rd_nI, rd_l, if_pos, if_neg, if_true, if_false, ite_true, ite_false, eq_self, j00, j10, j20, j30, k00, k01, k02, k03, i20, i30, km0, i10, i01, im0, im1, i0m, i1m]
    exact hQ s hs hs1
/-- an arrangement of leaves at different places: the sheets' test -/
theorem X10_fits_eq {al : Nat → Nat → Bool} {N P F wo : Nat} {X : gM} {ls : List Nat} {a : Nat → Nat} {all : Bool} {p3 p4 : Int32} (hN : 1000 ≤ N) (hn : ls.length ≤ 6) (hl : ∀ l ∈ ls, l < 10) (hP : P ≤ 8) (hP1 : 1 ≤ P) (ha : ∀ l ∈ ls, a l < P) (h : slt X ls a) (hd : ∀ i ∈ ls, ∀ j ∈ ls, a i = a j → i = j) (hF : fcs X F ls) (hp3 : p3 = 0 ↔ all = false) (hp4 : ∀ f, f < 12 → (nI f = p4 ↔ f = wo)) (hf : ∀ l ∈ ls, X 47 0 l = -1 ∨ X 47 0 l = 0 ∨ X 47 0 l = 1) :
    ∃ r : Int32, X10_fits al N (nI ls.length) (nI P) p3 p4 X = some (r, X) ∧ (r = 0 ∨ r = 1) ∧ (r = 1 ↔ fit X F P ls all wo a) := by
  have ha8 : ∀ l ∈ ls, a l < 8 := fun l hm => by have := ha l hm; omega
  unfold X10_fits
  refine X10_fits_L6_eq hN hn hl hP hP1 ha h hF hp3 hp4 _ (fun o => ∃ r : Int32, o = some (r, X) ∧ (r = 0 ∨ r = 1) ∧ (r = 1 ↔ fit X F P ls all wo a)) fun r1 g1 g2 => ?_
  show ∃ r : Int32, X10_fits_J75 al N (nI ls.length) r1 X = some (r, X) ∧ (r = 0 ∨ r = 1) ∧ (r = 1 ↔ fit X F P ls all wo a)
  unfold X10_fits_J75
  refine X10_fits_L78_eq hN hn hl ha8 h hd g1 _ (fun o => ∃ r : Int32, o = some (r, X) ∧ (r = 0 ∨ r = 1) ∧ (r = 1 ↔ fit X F P ls all wo a)) fun r2 g3 g4 => ?_
  show ∃ r : Int32, X10_fits_J280 al N (nI ls.length) r2 X = some (r, X) ∧ (r = 0 ∨ r = 1) ∧ (r = 1 ↔ fit X F P ls all wo a)
  unfold X10_fits_J280
  refine X10_fits_L283_eq hN hn hl ha8 h hf g3 _ (fun o => ∃ r : Int32, o = some (r, X) ∧ (r = 0 ∨ r = 1) ∧ (r = 1 ↔ fit X F P ls all wo a)) fun r3 g5 g6 => ?_
  refine ⟨r3, ?_, g5, ?_⟩
  · show X10_fits_J433 al N r3 X = some (r3, X)
    unfold X10_fits_J433
    rw [bz_01 g5, Option.bind_some]
  · rw [g6, g4, g2]
    unfold fit geo
    constructor
    · rintro ⟨⟨q1, q2⟩, q3⟩
      exact ⟨⟨hd, q2, q3⟩, q1⟩
    · rintro ⟨⟨q1, q2, q3⟩, q4⟩
      exact ⟨⟨q4, q2⟩, q3⟩
