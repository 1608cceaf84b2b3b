/-! arrangements: layers and fronts -/
theorem zi_lt {v : Nat} {p : Int32} (hv : v < 2147483648) : nI v < p ↔ (v : Int) < p.toInt := by rw [Int32.lt_iff_toInt_lt, zn_tI hv]
theorem zi_gt {v : Nat} {p : Int32} (hv : v < 2147483648) : p < nI v ↔ p.toInt < (v : Int) := by rw [Int32.lt_iff_toInt_lt, zn_tI hv]
theorem zi_le {v : Nat} {p : Int32} (hv : v < 2147483648) : p ≤ nI v ↔ p.toInt ≤ (v : Int) := by rw [Int32.le_iff_toInt_le, zn_tI hv]
theorem zi_ge {v : Nat} {p : Int32} (hv : v < 2147483648) : nI v ≤ p ↔ (v : Int) ≤ p.toInt := by rw [Int32.le_iff_toInt_le, zn_tI hv]
/-- the lowest and the highest place with a layer -/
def lyA (X : gM) (a : Nat → Nat) (S : List Nat) (hh : Nat) (lo hi : Int32) : Prop := ∀ v, v < 8 → (nI v < lo ↔ ∀ l ∈ S, mb (X 48 0 l) hh = true → v < a l) ∧ (hi < nI v ↔ ∀ l ∈ S, mb (X 48 0 l) hh = true → a l < v)
theorem lyA_0 {X : gM} {a : Nat → Nat} {hh : Nat} : lyA X a [] hh 100 (-1) := by
  intro v hv
  constructor
  · refine ⟨fun _ l hl => (by cases hl), fun _ => (zi_lt (by omega)).mpr ?_⟩
    have : (100 : Int32).toInt = 100 := rfl
    omega
  · refine ⟨fun _ l hl => (by cases hl), fun _ => (zi_gt (by omega)).mpr ?_⟩
    have : (-1 : Int32).toInt = -1 := rfl
    omega
theorem take_all {ls : List Nat} {i l : Nat} {p : Nat → Prop} (h : ls[i]? = some l) : (∀ x ∈ ls.take (i + 1), p x) ↔ (∀ x ∈ ls.take i, p x) ∧ p l := by
  constructor
  · intro q
    exact ⟨fun x hx => q x ((take_mem h).mpr (Or.inl hx)), q l ((take_mem h).mpr (Or.inr rfl))⟩
  · rintro ⟨q1, q2⟩ x hx
    rcases (take_mem h).mp hx with z | z
    · exact q1 x z
    · subst z; exact q2
theorem lyA_no {X : gM} {a : Nat → Nat} {ls : List Nat} {i l hh : Nat} {lo hi : Int32} (g : lyA X a (ls.take i) hh lo hi) (h : ls[i]? = some l) (hb : ¬ mb (X 48 0 l) hh = true) : lyA X a (ls.take (i + 1)) hh lo hi := by
  intro v hv
  obtain ⟨g1, g2⟩ := g v hv
  rw [take_all h, take_all h, g1, g2]
  exact ⟨⟨fun q => ⟨q, fun z => absurd z hb⟩, fun q => q.1⟩, ⟨fun q => ⟨q, fun z => absurd z hb⟩, fun q => q.1⟩⟩
theorem lyA_up {X : gM} {a : Nat → Nat} {ls : List Nat} {i l hh : Nat} {lo hi : Int32} (g : lyA X a (ls.take i) hh lo hi) (h : ls[i]? = some l) (hb : mb (X 48 0 l) hh = true) (ha : a l < 8) : lyA X a (ls.take (i + 1)) hh (if lo ≤ nI (a l) then lo else nI (a l)) (if nI (a l) ≤ hi then hi else nI (a l)) := by
  intro v hv
  obtain ⟨g1, g2⟩ := g v hv
  rw [take_all h, take_all h, ← g1, ← g2]
  constructor
  · by_cases c : lo ≤ nI (a l)
    · rw [if_pos c]
      rw [zi_le (by omega)] at c
      rw [zi_lt (by omega)]
      constructor
      · intro q; exact ⟨q, fun _ => by omega⟩
      · intro q; exact q.1
    · rw [if_neg c]
      rw [zi_le (by omega)] at c
      rw [zn_lt (by omega) (by omega), zi_lt (by omega)]
      constructor
      · intro q; exact ⟨by omega, fun _ => q⟩
      · intro q; exact q.2 hb
  · by_cases c : nI (a l) ≤ hi
    · rw [if_pos c]
      rw [zi_ge (by omega)] at c
      rw [zi_gt (by omega)]
      constructor
      · intro q; exact ⟨q, fun _ => by omega⟩
      · intro q; exact q.1
    · rw [if_neg c]
      rw [zi_ge (by omega)] at c
      rw [zn_lt (by omega) (by omega), zi_gt (by omega)]
      constructor
      · intro q; exact ⟨by omega, fun _ => q⟩
      · intro q; exact q.2 hb
theorem X10_fits_L100_eq {al : Nat → Nat → Bool} {N hh : Nat} {X : gM} {ls : List Nat} {a : Nat → Nat} {p5 : Int32} (hN : 1000 ≤ N) (hn : ls.length ≤ 6) (hl : ∀ l ∈ ls, l < 10) (ha : ∀ l ∈ ls, a l < 8) (h : slt X ls a) (hhh : hh < 8) (k : Int32 → Int32 → Int32 → Int32 → Int32 → gM → Option (Int32 × gM)) (Q : Option (Int32 × gM) → Prop) (hQ : ∀ lo hi, lyA X a ls hh lo hi → Q (k (nI ls.length) p5 (nI hh) lo hi X)) : Q (X10_fits_L100 al N k N (nI ls.length) p5 (nI hh) 100 (-1) 0 X) := by
  refine m_up0 ls.length (fun fu i (s : Int32 × Int32) => X10_fits_L100 al N k fu (nI ls.length) p5 (nI hh) s.1 s.2 i X)
    (fun i s => lyA X a (ls.take i) hh s.1 s.2) Q (100, -1) (by omega) ?_ ?_ (by rw [List.take_zero]; exact lyA_0)
  · rintro i fu ⟨lo, hi⟩ hi' g ih
    obtain ⟨l, hm, hg, q1, q2⟩ := slt_get h hi'
    have hl10 := hl l hm
    have ha8 := ha l hm
    show Q (X10_fits_L100 al N k (fu + 1) (nI ls.length) p5 (nI hh) lo hi (nI i) X)
    by_cases hb : bt (X 48 0 l) hh = true
    · have hup := lyA_up g hg hb ha8
      have hbt := (b_tst1 (by omega : hh < 32) (X 48 0 l)).mpr hb
      by_cases c1 : lo ≤ nI (a l)
      · by_cases c2 : nI (a l) ≤ hi
        · rw [if_pos c1, if_pos c2] at hup
          simp (disch := omega) only [X10_fits_L100, q1, hbt, X10_fits_J132, q2, if_pos c1, X10_fits_J161, X10_fits_J163, if_pos c2, X10_fits_J192, X10_fits_J194, zn_add, zn_mul, zn_addl, zn_ladd, zn_mull, zn_lmul, zn_le, zn_lt, zn_eq, zn_lel, zn_ltl, zn_eql, zn_lle, zn_llt, zn_leq, zn_sub, zn_subl, zn_m1, gl_eq, bind2_some, bind3_some, Option.bind_some, bz_0, bz_1, ib_0, ib_1, ib_bz, rd_nI, rd_l, if_pos, if_neg, if_true, if_false, ite_true, ite_false, eq_self, j00, j10, j20, j30, k00, k01, k02, k03, i20, i30, km0, i10, i01, im0, im1, i0m, i1m]
          exact ih (lo, hi) hup
        · rw [if_pos c1, if_neg c2] at hup
          simp (disch := omega) only [X10_fits_L100, q1, hbt, X10_fits_J132, q2, if_pos c1, X10_fits_J161, X10_fits_J163, if_neg c2, X10_fits_J192, X10_fits_J194, zn_add, zn_mul, zn_addl, zn_ladd, zn_mull, zn_lmul, zn_le, zn_lt, zn_eq, zn_lel, zn_ltl, zn_eql, zn_lle, zn_llt, zn_leq, zn_sub, zn_subl, zn_m1, gl_eq, bind2_some, bind3_some, Option.bind_some, bz_0, bz_1, ib_0, ib_1, ib_bz, rd_nI, rd_l, if_pos, if_neg, if_true, if_false, ite_true, ite_false, eq_self, j00, j10, j20, j30, k00, k01, k02, k03, i20, i30, km0, i10, i01, im0, im1, i0m, i1m]
          exact ih (lo, nI (a l)) hup
      · by_cases c2 : nI (a l) ≤ hi
        · rw [if_neg c1, if_pos c2] at hup
          simp (disch := omega) only [X10_fits_L100, q1, hbt, X10_fits_J132, q2, if_neg c1, X10_fits_J161, X10_fits_J163, if_pos c2, X10_fits_J192, X10_fits_J194, zn_add, zn_mul, zn_addl, zn_ladd, zn_mull, zn_lmul, zn_le, zn_lt, zn_eq, zn_lel, zn_ltl, zn_eql, zn_lle, zn_llt, zn_leq, zn_sub, zn_subl, zn_m1, gl_eq, bind2_some, bind3_some, Option.bind_some, bz_0, bz_1, ib_0, ib_1, ib_bz, rd_nI, rd_l, if_pos, if_neg, if_true, if_false, ite_true, ite_false, eq_self, j00, j10, j20, j30, k00, k01, k02, k03, i20, i30, km0, i10, i01, im0, im1, i0m, i1m]
          exact ih (nI (a l), hi) hup
        · rw [if_neg c1, if_neg c2] at hup
          simp (disch := omega) only [X10_fits_L100, q1, hbt, X10_fits_J132, q2, if_neg c1, X10_fits_J161, X10_fits_J163, if_neg c2, X10_fits_J192, X10_fits_J194, zn_add, zn_mul, zn_addl, zn_ladd, zn_mull, zn_lmul, zn_le, zn_lt, zn_eq, zn_lel, zn_ltl, zn_eql, zn_lle, zn_llt, zn_leq, zn_sub, zn_subl, zn_m1, gl_eq, bind2_some, bind3_some, Option.bind_some, bz_0, bz_1, ib_0, ib_1, ib_bz, rd_nI, rd_l, if_pos, if_neg, if_true, if_false, ite_true, ite_false, eq_self, j00, j10, j20, j30, k00, k01, k02, k03, i20, i30, km0, i10, i01, im0, im1, i0m, i1m]
          exact ih (nI (a l), nI (a l)) hup
    · have hup := lyA_no g hg hb
      have hbt : ¬ (X 48 0 l >>> (nI hh &&& 31)) &&& 1 = 1 := fun q => hb ((b_tst1 (by omega : hh < 32) (X 48 0 l)).mp q)
      simp (disch := omega) only [X10_fits_L100, q1, if_neg hbt, X10_fits_J132, X10_fits_J161, X10_fits_J163, X10_fits_J192, X10_fits_J194, zn_add, zn_mul, zn_addl, zn_ladd, zn_mull, zn_lmul, zn_le, zn_lt, zn_eq, zn_lel, zn_ltl, zn_eql, zn_lle, zn_llt, zn_leq, zn_sub, zn_subl, zn_m1, gl_eq, bind2_some, bind3_some, Option.bind_some, bz_0, bz_1, ib_0, ib_1, ib_bz, rd_nI, rd_l, if_pos, if_neg, if_true, if_false, ite_true, ite_false, eq_self, j00, j10, j20, j30, k00, k01, k02, k03, i20, i30, km0, i10, i01, im0, im1, i0m, i1m]
      exact ih (lo, hi) hup
  · rintro fu ⟨lo, hi⟩ g
    rw [List.take_length] at g
    show Q (X10_fits_L100 al N k (fu + 1) (nI ls.length) p5 (nI hh) lo hi (nI ls.length) X)
    simp (disch := omega) only [X10_fits_L100, zn_add, zn_mul, zn_addl, zn_ladd, zn_mull, zn_lmul, zn_le, zn_lt, zn_eq, zn_lel, zn_ltl, zn_eql, zn_lle, zn_llt, zn_leq, zn_sub, zn_subl, zn_m1, gl_eq, bind2_some, bind3_some, Option.bind_some, bz_0, bz_1, ib_0, ib_1, ib_bz, rd_nI, rd_l, if_pos, if_neg, if_true, if_false, ite_true, ite_false, eq_self, j00, j10, j20, j30, k00, k01, k02, k03, i20, i30, km0, i10, i01, im0, im1, i0m, i1m]
    exact hQ lo hi g
