/-! dates: what is meant -/
def edg (X : gM) (f : Nat) : Bool := decide (¬ X 67 0 f = 0 ∧ ¬ X 66 0 f = 0 ∧ X 63 0 f = 0)
def prF (X : gM) (f : Nat) : Int32 := ((1 : Int32) <<< (X 64 0 f &&& 31)) ||| ((1 : Int32) <<< (X 65 0 f &&& 31))
def st1 (X : gM) (s : Int32) (f : Nat) : Int32 := if edg X f = true ∧ ¬ s &&& prF X f = 0 then s ||| prF X f else s
def psF (X : gM) (s : Int32) : Nat → Int32
  | 0 => s
  | n + 1 => st1 X (psF X s n) n
def itF (X : gM) (F : Nat) (s : Int32) : Nat → Int32
  | 0 => s
  | n + 1 => psF X (itF X F s n) F
def dtF (x : Nat → Int32) (s : Int32) : Nat → Int32
  | 0 => 4095
  | k + 1 => if bt s k = true then dtF x s k &&& x k else dtF x s k
/-- the edges join leaves -/
def edR (X : gM) (F : Nat) : Prop := ∀ f, f < F → edg X f = true → ∃ a b, a < 10 ∧ b < 10 ∧ X 64 0 f = nI a ∧ X 65 0 f = nI b
def low10 (s : Int32) : Prop := ∀ v, v < 32 → bt s v = true → v < 10
theorem prF_bt {X : gM} {f a b v : Nat} (ha : a < 10) (hb : b < 10) (h1 : X 64 0 f = nI a) (h2 : X 65 0 f = nI b) (hv : v < 32) : bt (prF X f) v = (decide (v = a) || decide (v = b)) := by
  unfold prF
  rw [b_or, h1, h2, b_one (by omega) hv, b_one (by omega) hv]
theorem st1_mono {X : gM} {s : Int32} {f v : Nat} (h : bt s v = true) : bt (st1 X s f) v = true := by
  unfold st1
  by_cases hc : edg X f = true ∧ ¬ s &&& prF X f = 0
  · rw [if_pos hc, b_or, h]; rfl
  · rw [if_neg hc]; exact h
theorem psF_mono {X : gM} {s : Int32} {v : Nat} (h : bt s v = true) (n : Nat) : bt (psF X s n) v = true := by
  induction n with
  | zero => exact h
  | succ n ih => exact st1_mono ih
theorem psF_low {X : gM} {F : Nat} (hE : edR X F) {s : Int32} (h : low10 s) (n : Nat) (hn : n ≤ F) : low10 (psF X s n) := by
  induction n with
  | zero => exact h
  | succ n ih =>
    have ih := ih (by omega)
    intro v hv hb
    have e : psF X s (n + 1) = st1 X (psF X s n) n := rfl
    rw [e] at hb
    unfold st1 at hb
    by_cases hc : edg X n = true ∧ ¬ psF X s n &&& prF X n = 0
    · rw [if_pos hc, b_or] at hb
      obtain ⟨a, b, ha, hb2, h1, h2⟩ := hE n (by omega) hc.1
      rw [prF_bt ha hb2 h1 h2 hv] at hb
      rcases Bool.or_eq_true_iff.mp hb with q | q
      · exact ih v hv q
      · rcases Bool.or_eq_true_iff.mp q with q | q
        · have := of_decide_eq_true q; omega
        · have := of_decide_eq_true q; omega
    · rw [if_neg hc] at hb; exact ih v hv hb
theorem itF_low {X : gM} {F : Nat} (hE : edR X F) {s : Int32} (h : low10 s) (n : Nat) : low10 (itF X F s n) := by
  induction n with
  | zero => exact h
  | succ n ih => exact psF_low hE ih F (Nat.le_refl F)
theorem itF_add (X : gM) (F : Nat) (s : Int32) (n : Nat) (h : itF X F s (n + 1) = itF X F s n) (k : Nat) : itF X F s (n + k) = itF X F s n := by
  induction k with
  | zero => rfl
  | succ k ih =>
    have e : itF X F s (n + (k + 1)) = psF X (itF X F s (n + k)) F := rfl
    rw [e, ih]
    exact h
theorem itF_cnt {X : gM} {F : Nat} (hE : edR X F) {s : Int32} (h : low10 s) (h1 : ∃ v, v < 10 ∧ bt s v = true) (n : Nat) (hn : ∀ m, m < n → itF X F s (m + 1) ≠ itF X F s m) : n + 1 ≤ cntP (bt (itF X F s n)) 10 := by
  induction n with
  | zero =>
    obtain ⟨v, hv, hb⟩ := h1
    exact cntP_pos hv hb
  | succ n ih =>
    have ih := ih (fun m hm => hn m (by omega))
    have hne := hn n (by omega)
    have hmono : ∀ v, bt (itF X F s n) v = true → bt (itF X F s (n + 1)) v = true := fun v hv => psF_mono hv F
    have hd : ∃ v, v < 32 ∧ bt (itF X F s (n + 1)) v = true ∧ ¬ bt (itF X F s n) v = true := by
      apply Classical.byContradiction
      intro hno
      apply hne
      apply b_ext
      intro v hv
      by_cases q : bt (itF X F s n) v = true
      · rw [q, hmono v q]
      · by_cases q2 : bt (itF X F s (n + 1)) v = true
        · exact absurd ⟨v, hv, q2, q⟩ hno
        · rw [Bool.eq_false_iff.mpr q, Bool.eq_false_iff.mpr q2]
    obtain ⟨v, hv, q1, q2⟩ := hd
    have hv10 := itF_low hE h (n + 1) v hv q1
    have := cntP_lt (P := bt (itF X F s n)) (Q := bt (itF X F s (n + 1))) (n := 10) (k := v) (fun i _ q => hmono i q) hv10 q1 q2
    omega
theorem itF_fix {X : gM} {F : Nat} (hE : edR X F) {s : Int32} (h : low10 s) (h1 : ∃ v, v < 10 ∧ bt s v = true) : itF X F s 11 = itF X F s 10 := by
  apply Classical.byContradiction
  intro hne
  have hall : ∀ m, m < 11 → itF X F s (m + 1) ≠ itF X F s m := by
    intro m hm he
    have a1 := itF_add X F s m he (11 - m)
    have a2 := itF_add X F s m he (10 - m)
    have e1 : m + (11 - m) = 11 := by omega
    have e2 : m + (10 - m) = 10 := by omega
    rw [e1] at a1
    rw [e2] at a2
    exact hne (a1.trans a2.symm)
  have := itF_cnt hE h h1 10 (fun m hm => hall m (by omega))
  have := itF_cnt hE h h1 11 hall
  have := cntP_le (bt (itF X F s 11)) 10
  omega
theorem itF_at {X : gM} {F : Nat} (hE : edR X F) {s : Int32} (h : low10 s) (h1 : ∃ v, v < 10 ∧ bt s v = true) (n : Nat) (he : itF X F s (n + 1) = itF X F s n) : itF X F s n = itF X F s 10 := by
  rcases Nat.le_total n 10 with q | q
  · have := itF_add X F s n he (10 - n)
    have e : n + (10 - n) = 10 := by omega
    rw [e] at this
    exact this.symm
  · have := itF_add X F s 10 (itF_fix hE h h1) (n - 10)
    have e : 10 + (n - 10) = n := by omega
    rw [e] at this
    exact this
theorem dtF_and (x : Nat → Int32) (s : Int32) (n : Nat) : dtF x s n &&& 4095 = dtF x s n := by
  induction n with
  | zero => exact (by decide : (4095 : Int32) &&& 4095 = 4095)
  | succ n ih =>
    unfold dtF
    by_cases h : bt s n = true
    · rw [if_pos h, Int32.and_assoc, Int32.and_comm (x n), ← Int32.and_assoc, ih]
    · rw [if_neg h]; exact ih
/-- what the test of the reference says -/
theorem st1_or {X : gM} {s : Int32} {f a b : Nat} (ha : a < 10) (hb : b < 10) (h1 : X 64 0 f = nI a) (h2 : X 65 0 f = nI b) : (((s >>> (nI a &&& 31)) &&& 1) ||| ((s >>> (nI b &&& 31)) &&& 1) = 1) ↔ ¬ s &&& prF X f = 0 := by
  rw [b_tst (by omega), b_tst (by omega)]
  have e : s &&& prF X f = 0 ↔ bt s a = false ∧ bt s b = false := by
    rw [b_eq0]
    constructor
    · intro h
      have q1 := h a (by omega)
      have q2 := h b (by omega)
      rw [b_and, prF_bt ha hb h1 h2 (by omega)] at q1 q2
      simp at q1 q2
      exact ⟨q1, q2⟩
    · rintro ⟨q1, q2⟩ v hv
      rw [b_and, prF_bt ha hb h1 h2 hv]
      by_cases hva : v = a
      · subst hva; rw [q1]; rfl
      · by_cases hvb : v = b
        · subst hvb; rw [q2]; rfl
        · rw [decide_eq_false hva, decide_eq_false hvb]; simp
  rw [e]
  cases ca : bt s a <;> cases cb : bt s b <;> simp <;> decide
/-! the class -/
theorem X9_sheetGroup_eq {al : Nat → Nat → Bool} {N F i : Nat} {X : gM} (hN : 1000 ≤ N) (hF : F ≤ 12) (h22 : ∀ j, X 22 0 j = if j < F then nI j else -1) (hal : ∀ f, f < F → al 23 f = true)
    (h23 : ∀ f, f < F → X 23 f 2 = X 63 0 f ∧ X 23 f 3 = X 64 0 f ∧ X 23 f 4 = X 65 0 f ∧ X 23 f 5 = X 66 0 f ∧ X 23 f 6 = X 67 0 f) : X9_sheetGroup al N (nI i) X = some (itF X F ((1 : Int32) <<< (nI i &&& 31)) 10, X) := by
  unfold X9_sheetGroup
  rw [gl_eq]
  refine m_up0 10 (fun fu r (s : Int32 × gM) => X9_sheetGroup_L6 al N (fun p2 Y => X9_sheetGroup_J113 al N p2 Y) fu s.1 r s.2) (fun r s => s = (itF X F ((1 : Int32) <<< (nI i &&& 31)) r, X)) (fun o => o = some (itF X F ((1 : Int32) <<< (nI i &&& 31)) 10, X)) ((1 : Int32) <<< (nI i &&& 31), X) (by omega) ?_ ?_ rfl
  · rintro r fu s hr rfl ih
    have ih := ih _ rfl
    dsimp only at ih ⊢
    simp (disch := omega) only [X9_sheetGroup_L6, zn_add, zn_mul, zn_addl, zn_ladd, zn_mull, zn_lmul, zn_le, zn_lt, zn_eq, zn_lel, zn_ltl, zn_eql, zn_lle, zn_llt, zn_leq, zn_sub, zn_subl, zn_m1, gl_eq, bind2_some, bind3_some, Option.bind_some, bz_0, bz_1, ib_0, ib_1, ib_bz, rd_nI, rd_l, if_pos, if_neg, if_true, if_false, ite_true, ite_false, eq_self, j00, j10, j20, j30, k00, k01, k02, k03, i20, i30, km0, i10, i01, im0, im1, i0m, i1m]
    refine m_up0 12 (fun fu' f (s : Int32 × gM) => X9_sheetGroup_L26 al N (fun p2 p3 Y => X9_sheetGroup_J107 al N (X9_sheetGroup_L6 al N (fun p2 Y => X9_sheetGroup_J113 al N p2 Y) fu) (fun p2 Y => X9_sheetGroup_J113 al N p2 Y) p2 p3 Y) fu' s.1 (nI r) 12 f s.2)
      (fun f s => s = (psF X (itF X F ((1 : Int32) <<< (nI i &&& 31)) r) (if f ≤ F then f else F), X)) (fun o => o = some (itF X F ((1 : Int32) <<< (nI i &&& 31)) 10, X)) (itF X F ((1 : Int32) <<< (nI i &&& 31)) r, X) (by omega) ?_ ?_ ?_
    · rintro f fu' s hf rfl ih'
      have ih' := ih' _ rfl
      dsimp only at ih' ⊢
      simp (disch := omega) only [X9_sheetGroup_L26, X9_sheetGroup_J101, h22, zn_add, zn_mul, zn_addl, zn_ladd, zn_mull, zn_lmul, zn_le, zn_lt, zn_eq, zn_lel, zn_ltl, zn_eql, zn_lle, zn_llt, zn_leq, zn_sub, zn_subl, zn_m1, gl_eq, bind2_some, bind3_some, Option.bind_some, bz_0, bz_1, ib_0, ib_1, ib_bz, rd_nI, rd_l, if_pos, if_neg, if_true, if_false, ite_true, ite_false, eq_self, j00, j10, j20, j30, k00, k01, k02, k03, i20, i30, km0, i10, i01, im0, im1, i0m, i1m]
      by_cases hfF : f < F
      · obtain ⟨q1, q2, q3, q4, q5⟩ := h23 f hfF
        simp (disch := omega) only [if_pos hfF, if_neg (zn_nn (a := f) (by omega)), dr_nI (hal f hfF) (by omega : f < 2147483648), q1, q2, q3, q4, q5, zn_add, zn_mul, zn_addl, zn_ladd, zn_mull, zn_lmul, zn_le, zn_lt, zn_eq, zn_lel, zn_ltl, zn_eql, zn_lle, zn_llt, zn_leq, zn_sub, zn_subl, zn_m1, gl_eq, bind2_some, bind3_some, Option.bind_some, bz_0, bz_1, ib_0, ib_1, ib_bz, rd_nI, rd_l, if_pos, if_neg, if_true, if_false, ite_true, ite_false, eq_self, j00, j10, j20, j30, k00, k01, k02, k03, i20, i30, km0, i10, i01, im0, im1, i0m, i1m]
        simp (disch := omega) only [if_pos] at ih'
        have e : psF X (itF X F ((1 : Int32) <<< (nI i &&& 31)) r) (f + 1) = st1 X (psF X (itF X F ((1 : Int32) <<< (nI i &&& 31)) r) f) f := rfl
        rw [e] at ih'
        generalize psF X (itF X F ((1 : Int32) <<< (nI i &&& 31)) r) f = S at ih' ⊢
        unfold st1 edg at ih'
        rw [show (1 : Int32) <<< (X 64 0 f &&& 31) ||| (1 : Int32) <<< (X 65 0 f &&& 31) = prF X f from rfl]
        by_cases c1 : X 63 0 f = 0
        · rw [if_pos c1]
          by_cases c2 : X 66 0 f = 0
          · rw [if_pos c2]
            rw [if_neg (fun q => (of_decide_eq_true q.1).2.1 c2)] at ih'
            exact ih'
          · rw [if_neg c2]
            by_cases c3 : X 67 0 f = 0
            · rw [if_pos c3]
              rw [if_neg (fun q => (of_decide_eq_true q.1).1 c3)] at ih'
              exact ih'
            · rw [if_neg c3]
              by_cases c4 : S &&& prF X f = 0
              · rw [if_pos c4]
                rw [if_neg (fun q => q.2 c4)] at ih'
                exact ih'
              · rw [if_neg c4]
                rw [if_pos ⟨decide_eq_true ⟨c3, c2, c1⟩, c4⟩] at ih'
                exact ih'
        · rw [if_neg c1]
          rw [if_neg (fun q => c1 (of_decide_eq_true q.1).2.2)] at ih'
          exact ih'
      · simp (disch := omega) only [if_neg hfF, zn_add, zn_mul, zn_addl, zn_ladd, zn_mull, zn_lmul, zn_le, zn_lt, zn_eq, zn_lel, zn_ltl, zn_eql, zn_lle, zn_llt, zn_leq, zn_sub, zn_subl, zn_m1, gl_eq, bind2_some, bind3_some, Option.bind_some, bz_0, bz_1, ib_0, ib_1, ib_bz, rd_nI, rd_l, if_pos, if_neg, if_true, if_false, ite_true, ite_false, eq_self, j00, j10, j20, j30, k00, k01, k02, k03, i20, i30, km0, i10, i01, im0, im1, i0m, i1m]
        simp (disch := omega) only [if_neg] at ih'
        by_cases hfe : f = F
        · subst hfe
          simp (disch := omega) only [if_pos]
          exact ih'
        · simp (disch := omega) only [if_neg]
          exact ih'
    · rintro fu' s rfl
      simp (disch := omega) only [X9_sheetGroup_L26, X9_sheetGroup_J107, zn_add, zn_mul, zn_addl, zn_ladd, zn_mull, zn_lmul, zn_le, zn_lt, zn_eq, zn_lel, zn_ltl, zn_eql, zn_lle, zn_llt, zn_leq, zn_sub, zn_subl, zn_m1, gl_eq, bind2_some, bind3_some, Option.bind_some, bz_0, bz_1, ib_0, ib_1, ib_bz, rd_nI, rd_l, if_pos, if_neg, if_true, if_false, ite_true, ite_false, eq_self, j00, j10, j20, j30, k00, k01, k02, k03, i20, i30, km0, i10, i01, im0, im1, i0m, i1m]
      by_cases h12 : 12 ≤ F
      · have : F = 12 := by omega
        subst this
        exact ih
      · simp (disch := omega) only [if_neg]
        exact ih
    · simp (disch := omega) only [if_pos]
      rfl
  · rintro fu s rfl
    simp (disch := omega) only [X9_sheetGroup_L6, X9_sheetGroup_J113, zn_add, zn_mul, zn_addl, zn_ladd, zn_mull, zn_lmul, zn_le, zn_lt, zn_eq, zn_lel, zn_ltl, zn_eql, zn_lle, zn_llt, zn_leq, zn_sub, zn_subl, zn_m1, gl_eq, bind2_some, bind3_some, Option.bind_some, bz_0, bz_1, ib_0, ib_1, ib_bz, rd_nI, rd_l, if_pos, if_neg, if_true, if_false, ite_true, ite_false, eq_self, j00, j10, j20, j30, k00, k01, k02, k03, i20, i30, km0, i10, i01, im0, im1, i0m, i1m]
theorem X9_spansOf_eq {al : Nat → Nat → Bool} {N F L i : Nat} {X : gM} (hN : 1000 ≤ N) (hF : F ≤ 12) (hL : L ≤ 10) (h22 : ∀ j, X 22 0 j = if j < F then nI j else -1) (hal : ∀ f, f < F → al 23 f = true)
    (h23 : ∀ f, f < F → X 23 f 2 = X 63 0 f ∧ X 23 f 3 = X 64 0 f ∧ X 23 f 4 = X 65 0 f ∧ X 23 f 5 = X 66 0 f ∧ X 23 f 6 = X 67 0 f)
    (h4 : ∀ j, X 4 0 j = if j < L then nI j else -1) (h5 : ∀ i, i < L → X 5 i 0 = nI i) (hal5 : ∀ i, i < L → al 5 i = true) (hi : i < L) :
    X9_spansOf al N i X = some (dtF (fun k => X 5 k 12) (itF X F ((1 : Int32) <<< (nI i &&& 31)) 10) L, X) := by
  unfold X9_spansOf
  rw [h5 i hi, X9_sheetGroup_eq hN hF h22 hal h23, bind2_some]
  generalize itF X F ((1 : Int32) <<< (nI i &&& 31)) 10 = S
  refine m_up0 10 (fun fu k (s : Int32 × gM) => X9_spansOf_L27 al N (fun p3 Y => X9_spansOf_J73 al N p3 Y) fu S s.1 10 k s.2) (fun k s => s = (dtF (fun k => X 5 k 12) S (if k ≤ L then k else L), X)) (fun o => o = some (dtF (fun k => X 5 k 12) S L, X)) (4095, X) (by omega) ?_ ?_ ?_
  · rintro k fu s hk rfl ih
    have ih := ih _ rfl
    dsimp only at ih ⊢
    simp (disch := omega) only [X9_spansOf_L27, X9_spansOf_J67, h4, zn_add, zn_mul, zn_addl, zn_ladd, zn_mull, zn_lmul, zn_le, zn_lt, zn_eq, zn_lel, zn_ltl, zn_eql, zn_lle, zn_llt, zn_leq, zn_sub, zn_subl, zn_m1, gl_eq, bind2_some, bind3_some, Option.bind_some, bz_0, bz_1, ib_0, ib_1, ib_bz, rd_nI, rd_l, if_pos, if_neg, if_true, if_false, ite_true, ite_false, eq_self, j00, j10, j20, j30, k00, k01, k02, k03, i20, i30, km0, i10, i01, im0, im1, i0m, i1m]
    by_cases hkL : k < L
    · simp (disch := omega) only [if_pos hkL, if_neg (zn_nn (a := k) (by omega)), dr_nI (hal5 k hkL) (by omega : k < 2147483648), h5 k hkL, b_tst1 (by omega : k < 32), zn_add, zn_mul, zn_addl, zn_ladd, zn_mull, zn_lmul, zn_le, zn_lt, zn_eq, zn_lel, zn_ltl, zn_eql, zn_lle, zn_llt, zn_leq, zn_sub, zn_subl, zn_m1, gl_eq, bind2_some, bind3_some, Option.bind_some, bz_0, bz_1, ib_0, ib_1, ib_bz, rd_nI, rd_l, if_pos, if_neg, if_true, if_false, ite_true, ite_false, eq_self, j00, j10, j20, j30, k00, k01, k02, k03, i20, i30, km0, i10, i01, im0, im1, i0m, i1m]
      simp (disch := omega) only [if_pos] at ih
      have e : dtF (fun k => X 5 k 12) S (k + 1) = if bt S k = true then dtF (fun k => X 5 k 12) S k &&& X 5 k 12 else dtF (fun k => X 5 k 12) S k := rfl
      rw [e] at ih
      by_cases hb : bt S k = true
      · rw [if_pos hb] at ih ⊢; exact ih
      · rw [if_neg hb] at ih ⊢; exact ih
    · simp (disch := omega) only [if_neg hkL, zn_add, zn_mul, zn_addl, zn_ladd, zn_mull, zn_lmul, zn_le, zn_lt, zn_eq, zn_lel, zn_ltl, zn_eql, zn_lle, zn_llt, zn_leq, zn_sub, zn_subl, zn_m1, gl_eq, bind2_some, bind3_some, Option.bind_some, bz_0, bz_1, ib_0, ib_1, ib_bz, rd_nI, rd_l, if_pos, if_neg, if_true, if_false, ite_true, ite_false, eq_self, j00, j10, j20, j30, k00, k01, k02, k03, i20, i30, km0, i10, i01, im0, im1, i0m, i1m]
      simp (disch := omega) only [if_neg] at ih
      by_cases hke : k = L
      · subst hke
        simp (disch := omega) only [if_pos]
        exact ih
      · simp (disch := omega) only [if_neg]
        exact ih
  · rintro fu s rfl
    simp (disch := omega) only [X9_spansOf_L27, X9_spansOf_J73, zn_add, zn_mul, zn_addl, zn_ladd, zn_mull, zn_lmul, zn_le, zn_lt, zn_eq, zn_lel, zn_ltl, zn_eql, zn_lle, zn_llt, zn_leq, zn_sub, zn_subl, zn_m1, gl_eq, bind2_some, bind3_some, Option.bind_some, bz_0, bz_1, ib_0, ib_1, ib_bz, rd_nI, rd_l, if_pos, if_neg, if_true, if_false, ite_true, ite_false, eq_self, j00, j10, j20, j30, k00, k01, k02, k03, i20, i30, km0, i10, i01, im0, im1, i0m, i1m]
    by_cases h10 : 10 ≤ L
    · have : L = 10 := by omega
      subst this; rfl
    · simp (disch := omega) only [if_neg]
  · simp (disch := omega) only [if_pos]
    rfl
/-! the reference -/
theorem X10_datesOf_eq {al : Nat → Nat → Bool} {N F L i : Nat} {X : gM} (hN : 1000 ≤ N) (hF : F ≤ 12) (hL : L ≤ 10) (h0 : X 43 0 0 = nI L) (h23 : X 43 0 23 = nI F) (hE : edR X F) (hi : i < L) :
    X10_datesOf al N (nI i) X = some (dtF (X 52 0) (itF X F ((1 : Int32) <<< (nI i &&& 31)) 10) L, X) := by
  have hlow : low10 ((1 : Int32) <<< (nI i &&& 31)) := fun v hv hb => by
    rw [b_one (by omega) hv] at hb
    have := of_decide_eq_true hb
    omega
  have hex : ∃ v, v < 10 ∧ bt ((1 : Int32) <<< (nI i &&& 31)) v = true := ⟨i, by omega, by rw [b_one (by omega) (by omega), decide_eq_true rfl]⟩
  unfold X10_datesOf
  rw [gl_eq]
  have hend : X10_datesOf_J129 al N (itF X F ((1 : Int32) <<< (nI i &&& 31)) 10) X = some (dtF (X 52 0) (itF X F ((1 : Int32) <<< (nI i &&& 31)) 10) L, X) := by
    unfold X10_datesOf_J129
    generalize itF X F ((1 : Int32) <<< (nI i &&& 31)) 10 = S
    refine m_up0 L (fun fu k (s : Int32 × gM) => X10_datesOf_L137 al N (fun p4 Y => X10_datesOf_J180 al N p4 Y) fu S s.1 k s.2) (fun k s => s = (dtF (X 52 0) S k, X)) (fun o => o = some (dtF (X 52 0) S L, X)) (4095, X) (by omega) ?_ ?_ rfl
    · rintro k fu s hk rfl ih
      have ih := ih _ rfl
      dsimp only at ih ⊢
      simp (disch := omega) only [X10_datesOf_L137, X10_datesOf_J171, h0, b_tst1 (by omega : k < 32), zn_add, zn_mul, zn_addl, zn_ladd, zn_mull, zn_lmul, zn_le, zn_lt, zn_eq, zn_lel, zn_ltl, zn_eql, zn_lle, zn_llt, zn_leq, zn_sub, zn_subl, zn_m1, gl_eq, bind2_some, bind3_some, Option.bind_some, bz_0, bz_1, ib_0, ib_1, ib_bz, rd_nI, rd_l, if_pos, if_neg, if_true, if_false, ite_true, ite_false, eq_self, j00, j10, j20, j30, k00, k01, k02, k03, i20, i30, km0, i10, i01, im0, im1, i0m, i1m]
      have e : dtF (X 52 0) S (k + 1) = if bt S k = true then dtF (X 52 0) S k &&& X 52 0 k else dtF (X 52 0) S k := rfl
      rw [e] at ih
      by_cases hb : bt S k = true
      · rw [if_pos hb] at ih ⊢; exact ih
      · rw [if_neg hb] at ih ⊢; rw [dtF_and]; exact ih
    · rintro fu s rfl
      simp (disch := omega) only [X10_datesOf_L137, X10_datesOf_J180, h0, zn_add, zn_mul, zn_addl, zn_ladd, zn_mull, zn_lmul, zn_le, zn_lt, zn_eq, zn_lel, zn_ltl, zn_eql, zn_lle, zn_llt, zn_leq, zn_sub, zn_subl, zn_m1, gl_eq, bind2_some, bind3_some, Option.bind_some, bz_0, bz_1, ib_0, ib_1, ib_bz, rd_nI, rd_l, if_pos, if_neg, if_true, if_false, ite_true, ite_false, eq_self, j00, j10, j20, j30, k00, k01, k02, k03, i20, i30, km0, i10, i01, im0, im1, i0m, i1m]
  refine m_wh (fun fu (t : Int32 × Int32) => X10_datesOf_L6 al N (fun p2 Y => X10_datesOf_J129 al N p2 Y) fu t.1 t.2 X)
    (fun d t => ∃ n, d + n = 12 ∧ n ≤ 11 ∧ t.1 = itF X F ((1 : Int32) <<< (nI i &&& 31)) n ∧ ((n = 0 ∧ t.2 = 0) ∨ (1 ≤ n ∧ t.2 = itF X F ((1 : Int32) <<< (nI i &&& 31)) (n - 1)))) (fun o => o = some (dtF (X 52 0) (itF X F ((1 : Int32) <<< (nI i &&& 31)) 10) L, X)) ?_ N 12 ((1 : Int32) <<< (nI i &&& 31), 0) (by omega) ⟨0, rfl, by omega, rfl, Or.inl ⟨rfl, rfl⟩⟩
  rintro d fu ⟨p2, p3⟩ ⟨n, hd, hn, e1, e2⟩ ih
  dsimp only at e1 e2 ih ⊢
  subst e1
  unfold X10_datesOf_L6
  by_cases hs : itF X F ((1 : Int32) <<< (nI i &&& 31)) n = p3
  · rw [if_pos hs]
    rcases e2 with ⟨rfl, q⟩ | ⟨h1, q⟩
    · exfalso
      obtain ⟨v, hv, hb⟩ := hex
      have : (1 : Int32) <<< (nI i &&& 31) = 0 := hs.trans q
      rw [this, b_0] at hb
      cases hb
    · have hfix : itF X F ((1 : Int32) <<< (nI i &&& 31)) (n - 1 + 1) = itF X F ((1 : Int32) <<< (nI i &&& 31)) (n - 1) := by
        rw [Nat.sub_add_cancel h1, hs, q]
      have := itF_at hE hlow hex (n - 1) hfix
      rw [hs, q, this]
      exact hend
  · rw [if_neg hs]
    have hn10 : n ≤ 10 := by
      apply Classical.byContradiction
      intro hno
      have : n = 11 := by omega
      subst this
      rcases e2 with ⟨q, -⟩ | ⟨-, q⟩
      · omega
      · exact hs ((itF_fix hE hlow hex).trans q.symm)
    have hpass : X10_datesOf_L16 al N (fun p2 p3 Y => X10_datesOf_J126 al N (X10_datesOf_L6 al N (fun p2 Y => X10_datesOf_J129 al N p2 Y) fu) (fun p2 Y => X10_datesOf_J129 al N p2 Y) p2 p3 Y) N (itF X F ((1 : Int32) <<< (nI i &&& 31)) n) (itF X F ((1 : Int32) <<< (nI i &&& 31)) n) 0 X =
        X10_datesOf_L6 al N (fun p2 Y => X10_datesOf_J129 al N p2 Y) fu (itF X F ((1 : Int32) <<< (nI i &&& 31)) (n + 1)) (itF X F ((1 : Int32) <<< (nI i &&& 31)) n) X := by
      generalize hI : itF X F ((1 : Int32) <<< (nI i &&& 31)) n = I
      have eI : itF X F ((1 : Int32) <<< (nI i &&& 31)) (n + 1) = psF X I F := by rw [← hI]; rfl
      rw [eI]
      refine m_up0 F (fun fu' f (s : Int32 × gM) => X10_datesOf_L16 al N (fun p2 p3 Y => X10_datesOf_J126 al N (X10_datesOf_L6 al N (fun p2 Y => X10_datesOf_J129 al N p2 Y) fu) (fun p2 Y => X10_datesOf_J129 al N p2 Y) p2 p3 Y) fu' s.1 I f s.2) (fun f s => s = (psF X I f, X)) (fun o => o = X10_datesOf_L6 al N (fun p2 Y => X10_datesOf_J129 al N p2 Y) fu (psF X I F) I X) (I, X) (by omega) ?_ ?_ rfl
      · rintro f fu' s hf rfl ih'
        have ih' := ih' _ rfl
        dsimp only at ih' ⊢
        simp (disch := omega) only [X10_datesOf_L16, X10_datesOf_J118, X10_datesOf_J87, X10_datesOf_J86, h23, zn_add, zn_mul, zn_addl, zn_ladd, zn_mull, zn_lmul, zn_le, zn_lt, zn_eq, zn_lel, zn_ltl, zn_eql, zn_lle, zn_llt, zn_leq, zn_sub, zn_subl, zn_m1, gl_eq, bind2_some, bind3_some, Option.bind_some, bz_0, bz_1, ib_0, ib_1, ib_bz, rd_nI, rd_l, if_pos, if_neg, if_true, if_false, ite_true, ite_false, eq_self, j00, j10, j20, j30, k00, k01, k02, k03, i20, i30, km0, i10, i01, im0, im1, i0m, i1m]
        have e : psF X I (f + 1) = st1 X (psF X I f) f := rfl
        rw [e] at ih'
        generalize psF X I f = S at ih' ⊢
        unfold st1 at ih'
        rw [show (1 : Int32) <<< (X 64 0 f &&& 31) ||| (1 : Int32) <<< (X 65 0 f &&& 31) = prF X f from rfl]
        by_cases c3 : X 67 0 f = 0
        · rw [if_pos c3]
          rw [if_neg (fun q => (of_decide_eq_true q.1).1 c3)] at ih'
          rw [Int32.or_zero]; exact ih'
        · rw [if_neg c3]
          by_cases c2 : X 66 0 f = 0
          · rw [if_pos c2]
            rw [if_neg (fun q => (of_decide_eq_true q.1).2.1 c2)] at ih'
            rw [Int32.or_zero]; exact ih'
          · rw [if_neg c2]
            by_cases c1 : X 63 0 f = 0
            · rw [if_pos c1]
              obtain ⟨a, b, ha, hb, r1, r2⟩ := hE f hf (decide_eq_true ⟨c3, c2, c1⟩)
              have hor := st1_or (s := S) ha hb r1 r2
              rw [← r1, ← r2] at hor
              by_cases c4 : S &&& prF X f = 0
              · rw [if_neg (fun q => hor.mp q c4)]
                rw [if_neg (fun q => q.2 c4)] at ih'
                rw [Int32.or_zero]; exact ih'
              · rw [if_pos (hor.mpr c4)]
                rw [if_pos ⟨decide_eq_true ⟨c3, c2, c1⟩, c4⟩] at ih'
                exact ih'
            · rw [if_neg c1]
              rw [if_neg (fun q => c1 (of_decide_eq_true q.1).2.2)] at ih'
              rw [Int32.or_zero]; exact ih'
      · rintro fu' s rfl
        simp (disch := omega) only [X10_datesOf_L16, X10_datesOf_J126, h23, zn_add, zn_mul, zn_addl, zn_ladd, zn_mull, zn_lmul, zn_le, zn_lt, zn_eq, zn_lel, zn_ltl, zn_eql, zn_lle, zn_llt, zn_leq, zn_sub, zn_subl, zn_m1, gl_eq, bind2_some, bind3_some, Option.bind_some, bz_0, bz_1, ib_0, ib_1, ib_bz, rd_nI, rd_l, if_pos, if_neg, if_true, if_false, ite_true, ite_false, eq_self, j00, j10, j20, j30, k00, k01, k02, k03, i20, i30, km0, i10, i01, im0, im1, i0m, i1m]
    rw [hpass]
    exact ih (d - 1) (itF X F ((1 : Int32) <<< (nI i &&& 31)) (n + 1), itF X F ((1 : Int32) <<< (nI i &&& 31)) n) (by omega) ⟨n + 1, by omega, by omega, rfl, Or.inr ⟨by omega, rfl⟩⟩
