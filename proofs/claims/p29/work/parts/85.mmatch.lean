/-! match -/
def nxF (old : Nat → Nat) (a : Int32) (wk : Nat → Int32) : Nat → Nat
  | 0 => old 0 + 2
  | j + 1 => min (old j + (if wk j = a then 0 else 1)) (min (old (j + 1)) (nxF old a wk j) + 2)
def csF (lt : Nat → Int32) (wk : Nat → Int32) : Nat → Nat → Nat
  | 0 => fun _ => 0
  | c + 1 => if lt c = -1 then csF lt wk c else nxF (csF lt wk c) (lt c) wk
def lsF (f : Nat → Nat) : Nat → Nat
  | 0 => 0
  | j + 1 => if f (j + 1) < f (lsF f j) then j + 1 else lsF f j
theorem nxF_le {old : Nat → Nat} {a : Int32} {wk : Nat → Int32} {b : Nat} (h : ∀ j, old j ≤ b) (j : Nat) : nxF old a wk j ≤ b + 2 := by
  cases j with
  | zero => have := h 0; unfold nxF; omega
  | succ j => have := h (j + 1); unfold nxF; omega
theorem csF_le (lt : Nat → Int32) (wk : Nat → Int32) (c : Nat) : ∀ j, csF lt wk c j ≤ 2 * c := by
  induction c with
  | zero => intro j; exact Nat.le_refl 0
  | succ c ih =>
    intro j
    unfold csF
    split
    · have := ih j; omega
    · have := nxF_le (a := lt c) (wk := wk) ih j; omega
theorem lsF_le (f : Nat → Nat) (n : Nat) : lsF f n ≤ n := by
  induction n with
  | zero => exact Nat.le_refl 0
  | succ n ih => unfold lsF; split <;> omega
theorem zn_min {a b : Nat} (ha : a < 1000) (hb : b < 1000) : (if nI a < nI b then nI a else nI b) = nI (min a b) := by
  by_cases h : a < b
  · rw [if_pos ((zn_lt (by omega) (by omega)).mpr h)]; congr 1; omega
  · rw [if_neg (fun z => h ((zn_lt (by omega) (by omega)).mp z))]; congr 1; omega
section
variable {al : Nat → Nat → Bool} {N : Nat}
theorem X4_addLetter_eq (hN : 1000 ≤ N) {t n : Nat} {a : Int32} {Y : gM} {wk : Nat → Int32} {old : Nat → Nat} (hn : n ≤ 40) (h26 : Y 26 t 1 = nI n) (h99 : Y 27 t 99 = nI n) (hwk : ∀ j, j < n → Y 27 t j = wk j) (hold : ∀ j, old j ≤ 100) (h41 : ∀ j, j ≤ n → Y 41 0 j = nI (old j)) :
    ∃ Z, X4_addLetter al N a t Y = some (0, Z) ∧ (∀ k p j, ¬ (k = 41) → Z k p j = Y k p j) ∧ ∀ j, j ≤ n → Z 41 0 j = nI (nxF old a wk j) := by
  unfold X4_addLetter
  have e0 := h41 0 (by omega)
  have b0 := hold 0
  simp (disch := omega) only [rd_l, Option.bind_some, gl_eq, e0, zn_addl]
  refine m_up (n + 1) (fun fu i (s : Int32 × gM) => X4_addLetter_L20 al N (fun Y => X4_addLetter_J108 al N Y) fu a t s.1 i s.2)
    (fun i s => 1 ≤ i ∧ s.1 = nI (old (i - 1)) ∧ (∀ k p j, ¬ (k = 41) → s.2 k p j = Y k p j) ∧ ∀ j, j ≤ n → s.2 41 0 j = nI (if j < i then nxF old a wk j else old j)) (fun o => ∃ Z, o = some (0, Z) ∧ (∀ k p j, ¬ (k = 41) → Z k p j = Y k p j) ∧ ∀ j, j ≤ n → Z 41 0 j = nI (nxF old a wk j)) ?_ ?_ n 1 N (nI (old 0), mset Y 41 0 0 (nI (old 0 + 2))) (by omega) (by omega) ⟨Nat.le_refl 1, rfl, fun k p j hk => ?_, fun j hj => ?_⟩
  · rintro i fu ⟨sl, Z⟩ hi ⟨h1, h2, h3, h4⟩ ih
    dsimp only at h2 h3 h4 ih ⊢
    subst h2
    have e26 : Z 26 t 1 = nI n := (h3 26 t 1 (by omega)).trans h26
    have e99 : Z 27 t 99 = nI n := (h3 27 t 99 (by omega)).trans h99
    have e27 : Z 27 t (i - 1) = wk (i - 1) := (h3 27 t _ (by omega)).trans (hwk (i - 1) (by omega))
    have ei := h4 i (by omega)
    have ei1 := h4 (i - 1) (by omega)
    rw [if_neg (by omega)] at ei
    rw [if_pos (by omega)] at ei1
    have bi := hold i
    have bi1 := hold (i - 1)
    have bn := nxF_le (a := a) (wk := wk) hold (i - 1)
    have hnx : nxF old a wk i = min (old (i - 1) + (if wk (i - 1) = a then 0 else 1)) (min (old i) (nxF old a wk (i - 1)) + 2) := by
      obtain ⟨q, rfl⟩ : ∃ q, i = q + 1 := ⟨i - 1, by omega⟩
      rfl
    have hstep : ∀ d : Nat, d ≤ 1 → nxF old a wk i = min (old (i - 1) + d) (min (old i) (nxF old a wk (i - 1)) + 2) → ∃ Z', X4_addLetter_J58 al N (X4_addLetter_L20 al N (fun Y => X4_addLetter_J108 al N Y) fu) (fun Y => X4_addLetter_J108 al N Y) a t (nI i) (nI (old (i - 1))) (nI d) Z = some (0, Z') ∧ (∀ k p j, ¬ (k = 41) → Z' k p j = Y k p j) ∧ ∀ j, j ≤ n → Z' 41 0 j = nI (nxF old a wk j) := by
      intro d hd hnx
      have m1 : min (nxF old a wk (i - 1)) (old i) = min (old i) (nxF old a wk (i - 1)) := Nat.min_comm _ _
      have m2 : min (min (old i) (nxF old a wk (i - 1)) + 2) (old (i - 1) + d) = nxF old a wk i := by rw [hnx]; exact Nat.min_comm _ _
      unfold X4_addLetter_J58
      simp (disch := omega) only [rd_nI, Option.bind_some, gl_eq, zn_add, zn_addl, zn_subl, ei, ei1, zn_min, m1, m2]
      refine ih (nI (old i), mset Z 41 0 i (nI (nxF old a wk i))) ⟨by omega, by rw [Nat.add_sub_cancel], fun k p j hk => ?_, fun j hj => ?_⟩
      · show (mset Z 41 0 i _) k p j = _
        rw [mset_at, if_neg (fun z => hk z.1), h3 k p j hk]
      · show (mset Z 41 0 i _) 41 0 j = _
        rw [mset_at]
        by_cases hji : j = i
        · subst hji
          rw [if_pos ⟨rfl, rfl, rfl⟩, if_pos (by omega)]
        · rw [if_neg (by omega), h4 j hj]
          by_cases hlt : j < i
          · rw [if_pos hlt, if_pos (by omega)]
          · rw [if_neg hlt, if_neg (by omega)]
    simp (disch := omega) only [X4_addLetter_L20, e26, e99, zn_tN, e27, zn_add, zn_mul, zn_addl, zn_ladd, zn_mull, zn_lmul, zn_le, zn_lt, zn_eq, zn_lel, zn_ltl, zn_eql, zn_lle, zn_llt, zn_leq, zn_sub, zn_subl, zn_m1, gl_eq, bind2_some, bind3_some, Option.bind_some, bz_0, bz_1, ib_0, ib_1, ib_bz, rd_nI, rd_l, if_pos, if_neg, if_true, if_false, ite_true, ite_false, eq_self, j00, j10, j20, j30, k00, k01, k02, k03, i20, i30, km0, i10, i01, im0, im1, i0m, i1m]
    by_cases hw : wk (i - 1) = a
    · rw [if_pos hw] at hnx ⊢
      exact hstep 0 (by omega) hnx
    · rw [if_neg hw] at hnx ⊢
      exact hstep 1 (by omega) hnx
  · rintro fu ⟨sl, Z⟩ ⟨h1, h2, h3, h4⟩
    dsimp only at h2 h3 h4 ⊢
    have e26 : Z 26 t 1 = nI n := (h3 26 t 1 (by omega)).trans h26
    simp (disch := omega) only [X4_addLetter_L20, X4_addLetter_J108, e26, zn_add, zn_mul, zn_addl, zn_ladd, zn_mull, zn_lmul, zn_le, zn_lt, zn_eq, zn_lel, zn_ltl, zn_eql, zn_lle, zn_llt, zn_leq, zn_sub, zn_subl, zn_m1, gl_eq, bind2_some, bind3_some, Option.bind_some, bz_0, bz_1, ib_0, ib_1, ib_bz, rd_nI, rd_l, if_pos, if_neg, if_true, if_false, ite_true, ite_false, eq_self, j00, j10, j20, j30, k00, k01, k02, k03, i20, i30, km0, i10, i01, im0, im1, i0m, i1m]
    refine ⟨Z, rfl, h3, fun j hj => ?_⟩
    rw [h4 j hj, if_pos (by omega)]
  · show (mset Y 41 0 0 (nI (old 0 + 2))) k p j = _
    rw [mset_at, if_neg (fun z => hk z.1)]
  · show (mset Y 41 0 0 (nI (old 0 + 2))) 41 0 j = _
    rw [mset_at]
    by_cases hj0 : j = 0
    · subst hj0; rw [if_pos ⟨rfl, rfl, rfl⟩, if_pos (by omega)]; rfl
    · rw [if_neg (by omega), if_neg (by omega), h41 j hj]
/-- the class aligns -/
theorem X4_align_eq (hN : 1000 ≤ N) {t n m : Nat} {Y : gM} {wk lt : Nat → Int32} (hn : n ≤ 40) (hm : m ≤ 8) (h29 : Y 29 0 0 = nI m) (h35 : ¬ Y 35 0 0 = -1) (h38 : ∀ c, c < m → Y 38 0 c = lt c) (h26 : Y 26 t 1 = nI n) (h99 : Y 27 t 99 = nI n) (hwk : ∀ j, j < n → Y 27 t j = wk j) :
    ∃ Z, X4_align al N t Y = some (0, Z) ∧ (∀ k p j, ¬ (k = 40 ∨ k = 41) → Z k p j = Y k p j) ∧ Z 40 0 0 = nI (csF lt wk m (lsF (csF lt wk m) n)) ∧ Z 40 0 1 = nI (lsF (csF lt wk m) n) := by
  have key : ∀ Q : Option (Int32 × gM) → Prop, (∀ Z, (∀ k p j, ¬ (k = 40 ∨ k = 41) → Z k p j = Y k p j) → Z 40 0 0 = nI (csF lt wk m (lsF (csF lt wk m) n)) → Z 40 0 1 = nI (lsF (csF lt wk m) n) → Q (some (0, Z))) → Q (X4_align al N t Y) := by
    intro Q hQ
    unfold X4_align
    rw [gl_eq]
    refine m_up0 m (fun fu i (Z : gM) => X4_align_L10 al N (fun p2 Y => X4_align_J44 al N p2 Y) fu t i Z)
      (fun i Z => (∀ k p j, ¬ (k = 41) → Z k p j = Y k p j) ∧ ∀ j, j ≤ n → Z 41 0 j = nI (csF lt wk i j)) Q (mfill Y 41 0 41 0) (by omega) ?_ ?_ ⟨fun k p j hk => ?_, fun j hj => ?_⟩
    · rintro c fu Z hc ⟨h1, h2⟩ ih
      have e29 : Z 29 0 0 = nI m := (h1 29 0 0 (by omega)).trans h29
      have e35 : ¬ Z 35 0 0 = -1 := by rw [h1 35 0 0 (by omega)]; exact h35
      have hfl : X6_firstLetter al N (nI c) Z = some (lt c, Z) := by
        simp (disch := omega) only [X6_firstLetter, e29, if_neg e35, zn_add, zn_mul, zn_addl, zn_ladd, zn_mull, zn_lmul, zn_le, zn_lt, zn_eq, zn_lel, zn_ltl, zn_eql, zn_lle, zn_llt, zn_leq, zn_sub, zn_subl, zn_m1, gl_eq, bind2_some, bind3_some, Option.bind_some, bz_0, bz_1, ib_0, ib_1, ib_bz, rd_nI, rd_l, if_pos, if_neg, if_true, if_false, ite_true, ite_false, eq_self, j00, j10, j20, j30, k00, k01, k02, k03, i20, i30, km0, i10, i01, im0, im1, i0m, i1m]
        rw [h1 38 0 c (by omega), h38 c hc]
      simp (disch := omega) only [X4_align_L10, e29, hfl, X4_align_J38, zn_add, zn_mul, zn_addl, zn_ladd, zn_mull, zn_lmul, zn_le, zn_lt, zn_eq, zn_lel, zn_ltl, zn_eql, zn_lle, zn_llt, zn_leq, zn_sub, zn_subl, zn_m1, gl_eq, bind2_some, bind3_some, Option.bind_some, bz_0, bz_1, ib_0, ib_1, ib_bz, rd_nI, rd_l, if_pos, if_neg, if_true, if_false, ite_true, ite_false, eq_self, j00, j10, j20, j30, k00, k01, k02, k03, i20, i30, km0, i10, i01, im0, im1, i0m, i1m]
      by_cases hl : lt c = -1
      · rw [if_pos hl]
        refine ih Z ⟨h1, fun j hj => ?_⟩
        unfold csF
        rw [if_pos hl]
        exact h2 j hj
      · rw [if_neg hl]
        have hb := csF_le lt wk c
        obtain ⟨Z2, z1, z2, z3⟩ := X4_addLetter_eq (al := al) hN (a := lt c) (wk := wk) (old := csF lt wk c) hn ((h1 26 t 1 (by omega)).trans h26) ((h1 27 t 99 (by omega)).trans h99) (fun j hj => (h1 27 t j (by omega)).trans (hwk j hj)) (fun j => by have := hb j; omega) h2
        rw [z1, bind2_some]
        refine ih Z2 ⟨fun k p j hk => (z2 k p j hk).trans (h1 k p j hk), fun j hj => ?_⟩
        unfold csF
        rw [if_neg hl]
        exact z3 j hj
    · rintro fu Z ⟨h1, h2⟩
      have e29 : Z 29 0 0 = nI m := (h1 29 0 0 (by omega)).trans h29
      have hb := csF_le lt wk m
      generalize hf : csF lt wk m = f at h2 hb hQ
      have e0 := h2 0 (by omega)
      simp (disch := omega) only [X4_align_L10, e29, X4_align_J44, e0, zn_add, zn_mul, zn_addl, zn_ladd, zn_mull, zn_lmul, zn_le, zn_lt, zn_eq, zn_lel, zn_ltl, zn_eql, zn_lle, zn_llt, zn_leq, zn_sub, zn_subl, zn_m1, gl_eq, bind2_some, bind3_some, Option.bind_some, bz_0, bz_1, ib_0, ib_1, ib_bz, rd_nI, rd_l, if_pos, if_neg, if_true, if_false, ite_true, ite_false, eq_self, j00, j10, j20, j30, k00, k01, k02, k03, i20, i30, km0, i10, i01, im0, im1, i0m, i1m]
      refine m_up (n + 1) (fun fu i (Z' : gM) => X4_align_L61 al N (fun Y => X4_align_J112 al N Y) fu t i Z')
        (fun i Z' => 1 ≤ i ∧ (∀ k p j, ¬ (k = 40) → Z' k p j = Z k p j) ∧ Z' 40 0 0 = nI (f (lsF f (i - 1))) ∧ Z' 40 0 1 = nI (lsF f (i - 1))) Q ?_ ?_ n 1 N _ (by omega) (by omega) ⟨Nat.le_refl 1, fun k p j hk => ?_, ?_, ?_⟩
      · rintro i fu' Z' hi ⟨t1, t2, t3, t4⟩ ih
        have e26 : Z' 26 t 1 = nI n := (t2 26 t 1 (by omega)).trans ((h1 26 t 1 (by omega)).trans h26)
        have ei : Z' 41 0 i = nI (f i) := (t2 41 0 i (by omega)).trans (h2 i (by omega))
        have b1 := hb i
        have b2 := hb (lsF f (i - 1))
        have hls : lsF f i = if f i < f (lsF f (i - 1)) then i else lsF f (i - 1) := by
          obtain ⟨q, rfl⟩ : ∃ q, i = q + 1 := ⟨i - 1, by omega⟩
          rfl
        simp (disch := omega) only [X4_align_L61, X4_align_J106, e26, ei, t3, zn_add, zn_mul, zn_addl, zn_ladd, zn_mull, zn_lmul, zn_le, zn_lt, zn_eq, zn_lel, zn_ltl, zn_eql, zn_lle, zn_llt, zn_leq, zn_sub, zn_subl, zn_m1, gl_eq, bind2_some, bind3_some, Option.bind_some, bz_0, bz_1, ib_0, ib_1, ib_bz, rd_nI, rd_l, if_pos, if_neg, if_true, if_false, ite_true, ite_false, eq_self, j00, j10, j20, j30, k00, k01, k02, k03, i20, i30, km0, i10, i01, im0, im1, i0m, i1m]
        by_cases hl : f i < f (lsF f (i - 1))
        · rw [if_pos hl] at hls
          rw [if_neg (by omega)]
          refine ih _ ⟨by omega, fun k p j hk => ?_, ?_, ?_⟩
          · simp only [mset_at]
            rw [if_neg (fun z => hk z.1), if_neg (fun z => hk z.1), t2 k p j hk]
          · rw [Nat.add_sub_cancel, hls, mset_at, if_neg (by omega), mset_same]
          · rw [Nat.add_sub_cancel, hls, mset_same]
        · rw [if_neg hl] at hls
          rw [if_pos (by omega)]
          refine ih Z' ⟨by omega, t2, ?_, ?_⟩
          · rw [Nat.add_sub_cancel, hls]; exact t3
          · rw [Nat.add_sub_cancel, hls]; exact t4
      · rintro fu' Z' ⟨t1, t2, t3, t4⟩
        have e26 : Z' 26 t 1 = nI n := (t2 26 t 1 (by omega)).trans ((h1 26 t 1 (by omega)).trans h26)
        simp (disch := omega) only [X4_align_L61, X4_align_J112, e26, zn_add, zn_mul, zn_addl, zn_ladd, zn_mull, zn_lmul, zn_le, zn_lt, zn_eq, zn_lel, zn_ltl, zn_eql, zn_lle, zn_llt, zn_leq, zn_sub, zn_subl, zn_m1, gl_eq, bind2_some, bind3_some, Option.bind_some, bz_0, bz_1, ib_0, ib_1, ib_bz, rd_nI, rd_l, if_pos, if_neg, if_true, if_false, ite_true, ite_false, eq_self, j00, j10, j20, j30, k00, k01, k02, k03, i20, i30, km0, i10, i01, im0, im1, i0m, i1m]
        rw [Nat.add_sub_cancel] at t3 t4
        exact hQ Z' (fun k p j hk => by rw [t2 k p j (by omega), h1 k p j (by omega)]) t3 t4
      · simp only [mset_at]
        rw [if_neg (fun z => hk z.1), if_neg (fun z => hk z.1)]
      · rw [mset_at, if_neg (by omega), mset_same]; rfl
      · rw [mset_same]; rfl
    · rw [mfill_at, if_neg (by omega)]
    · rw [mfill_at, if_pos ⟨rfl, rfl, by omega⟩]; rfl
  exact key (fun o => ∃ Z, o = some (0, Z) ∧ (∀ k p j, ¬ (k = 40 ∨ k = 41) → Z k p j = Y k p j) ∧ Z 40 0 0 = nI (csF lt wk m (lsF (csF lt wk m) n)) ∧ Z 40 0 1 = nI (lsF (csF lt wk m) n)) (fun Z h1 h2 h3 => ⟨Z, rfl, h1, h2, h3⟩)
/-- the reference aligns -/
theorem X10_match_eq (hN : 1000 ≤ N) {w i n m : Nat} {p5 : Int32} {Y : gM} {wk lt : Nat → Int32} (hw : w < 4) (hi : i < 10) (hn1 : 1 ≤ n) (hn : n ≤ 40) (hm : m ≤ 8) (h46 : Y 46 0 i = nI m) (h71 : ∀ c, c < m → Y 71 0 c = lt c) (hwk : ∀ j, j < n → Y 62 0 (40 * w + j) = wk j) :
    ∃ Z, X10_match_L66 al N (fun p1 p2 p5 p6 Y => X10_match_J87 al N p1 p2 p5 p6 Y) N (nI w) (nI i) p5 (nI n) 0 Y = some (if p5 = 0 then nI (csF lt wk m (lsF (csF lt wk m) n)) else nI (lsF (csF lt wk m) n), Z) ∧ ∀ k p j, ¬ (k = 79 ∨ k = 80) → Z k p j = Y k p j := by
  have key : ∀ Q : Option (Int32 × gM) → Prop, (∀ Z, (∀ k p j, ¬ (k = 79 ∨ k = 80) → Z k p j = Y k p j) → Q (some (if p5 = 0 then nI (csF lt wk m (lsF (csF lt wk m) n)) else nI (lsF (csF lt wk m) n), Z))) → Q (X10_match_L66 al N (fun p1 p2 p5 p6 Y => X10_match_J87 al N p1 p2 p5 p6 Y) N (nI w) (nI i) p5 (nI n) 0 Y) := by
    intro Q hQ
    refine m_up0 (n + 1) (fun fu j (Z : gM) => X10_match_L66 al N (fun p1 p2 p5 p6 Y => X10_match_J87 al N p1 p2 p5 p6 Y) fu (nI w) (nI i) p5 (nI n) j Z) (fun q Z => (∀ k p j, ¬ (k = 79 ∨ k = 80) → Z k p j = Y k p j) ∧ ∀ j, j < q → Z 79 0 j = nI 0) Q Y (by omega) ?_ ?_ ⟨fun _ _ _ _ => rfl, fun j hj => absurd hj (Nat.not_lt_zero j)⟩
    · rintro q fu Z hq ⟨h1, h2⟩ ih
      simp (disch := omega) only [X10_match_L66, zn_add, zn_mul, zn_addl, zn_ladd, zn_mull, zn_lmul, zn_le, zn_lt, zn_eq, zn_lel, zn_ltl, zn_eql, zn_lle, zn_llt, zn_leq, zn_sub, zn_subl, zn_m1, gl_eq, bind2_some, bind3_some, Option.bind_some, bz_0, bz_1, ib_0, ib_1, ib_bz, rd_nI, rd_l, if_pos, if_neg, if_true, if_false, ite_true, ite_false, eq_self, j00, j10, j20, j30, k00, k01, k02, k03, i20, i30, km0, i10, i01, im0, im1, i0m, i1m]
      refine ih _ ⟨fun k p j hk => ?_, fun j hj => ?_⟩
      · rw [mset_at, if_neg (by omega), h1 k p j hk]
      · rw [mset_at]
        by_cases hjq : j = q
        · rw [if_pos ⟨rfl, rfl, hjq⟩]; rfl
        · rw [if_neg (by omega)]; exact h2 j (by omega)
    · rintro fu Z ⟨h1, h2⟩
      simp (disch := omega) only [X10_match_L66, X10_match_J87, zn_add, zn_mul, zn_addl, zn_ladd, zn_mull, zn_lmul, zn_le, zn_lt, zn_eq, zn_lel, zn_ltl, zn_eql, zn_lle, zn_llt, zn_leq, zn_sub, zn_subl, zn_m1, gl_eq, bind2_some, bind3_some, Option.bind_some, bz_0, bz_1, ib_0, ib_1, ib_bz, rd_nI, rd_l, if_pos, if_neg, if_true, if_false, ite_true, ite_false, eq_self, j00, j10, j20, j30, k00, k01, k02, k03, i20, i30, km0, i10, i01, im0, im1, i0m, i1m]
      refine m_up0 m (fun fu c (Z' : gM) => X10_match_L90 al N (fun p5 p6 Y => X10_match_J285 al N p5 p6 Y) fu (nI w) (nI i) p5 (nI n) c Z') (fun c Z' => (∀ k p j, ¬ (k = 79 ∨ k = 80) → Z' k p j = Y k p j) ∧ ∀ j, j ≤ n → Z' 79 0 j = nI (csF lt wk c j)) Q Z (by omega) ?_ ?_ ⟨h1, fun j hj => h2 j (by omega)⟩
      · rintro c fu' Z' hc ⟨t1, t2⟩ ih
        have e46 : Z' 46 0 i = nI m := (t1 46 0 i (by omega)).trans h46
        have e71 : Z' 71 0 c = lt c := (t1 71 0 c (by omega)).trans (h71 c hc)
        simp (disch := omega) only [X10_match_L90, e46, e71, zn_add, zn_mul, zn_addl, zn_ladd, zn_mull, zn_lmul, zn_le, zn_lt, zn_eq, zn_lel, zn_ltl, zn_eql, zn_lle, zn_llt, zn_leq, zn_sub, zn_subl, zn_m1, gl_eq, bind2_some, bind3_some, Option.bind_some, bz_0, bz_1, ib_0, ib_1, ib_bz, rd_nI, rd_l, if_pos, if_neg, if_true, if_false, ite_true, ite_false, eq_self, j00, j10, j20, j30, k00, k01, k02, k03, i20, i30, km0, i10, i01, im0, im1, i0m, i1m]
        by_cases hl : lt c = -1
        · obtain ⟨q, rfl⟩ : ∃ q, N = q + 1 := ⟨N - 1, by omega⟩
          simp (disch := omega) only [X10_match_L113, hl, X10_match_J243, X10_match_L246, X10_match_J279, zn_add, zn_mul, zn_addl, zn_ladd, zn_mull, zn_lmul, zn_le, zn_lt, zn_eq, zn_lel, zn_ltl, zn_eql, zn_lle, zn_llt, zn_leq, zn_sub, zn_subl, zn_m1, gl_eq, bind2_some, bind3_some, Option.bind_some, bz_0, bz_1, ib_0, ib_1, ib_bz, rd_nI, rd_l, if_pos, if_neg, if_true, if_false, ite_true, ite_false, eq_self, j00, j10, j20, j30, k00, k01, k02, k03, i20, i30, km0, i10, i01, im0, im1, i0m, i1m]
          refine ih Z' ⟨t1, fun j hj => ?_⟩
          unfold csF
          rw [if_pos hl]
          exact t2 j hj
        · have hb := csF_le lt wk c
          have hold : ∀ j, csF lt wk c j ≤ 100 := fun j => by have := hb j; omega
          have hcs : ∀ j, csF lt wk (c + 1) j = nxF (csF lt wk c) (lt c) wk j := fun j => by
            show (if lt c = -1 then csF lt wk c else nxF (csF lt wk c) (lt c) wk) j = _
            rw [if_neg hl]
          generalize csF lt wk c = old at t2 hold hcs
          generalize ha : lt c = a at hl hcs
          refine m_up0 (n + 1) (fun fu'' j (V : gM) => X10_match_L113 al N (fun p1 p2 p5 p6 p7 p8 Y => X10_match_J243 al N (X10_match_L90 al N (fun p5 p6 Y => X10_match_J285 al N p5 p6 Y) fu') (fun p5 p6 Y => X10_match_J285 al N p5 p6 Y) p1 p2 p5 p6 p7 p8 Y) fu'' (nI w) (nI i) p5 (nI n) (nI c) a j V) (fun q V => (∀ k p j, ¬ (k = 80) → V k p j = Z' k p j) ∧ ∀ j, j < q → V 80 0 j = nI (nxF old a wk j)) Q Z' (by omega) ?_ ?_ ⟨fun _ _ _ _ => rfl, fun j hj => absurd hj (Nat.not_lt_zero j)⟩
          · rintro j fu'' V hj ⟨v1, v2⟩ ih'
            have ej : V 79 0 j = nI (old j) := (v1 79 0 j (by omega)).trans (t2 j (by omega))
            have bj := hold j
            have hset : ∀ x, x = nxF old a wk j → Q (X10_match_L113 al N (fun p1 p2 p5 p6 p7 p8 Y => X10_match_J243 al N (X10_match_L90 al N (fun p5 p6 Y => X10_match_J285 al N p5 p6 Y) fu') (fun p5 p6 Y => X10_match_J285 al N p5 p6 Y) p1 p2 p5 p6 p7 p8 Y) fu'' (nI w) (nI i) p5 (nI n) (nI c) a (nI (j + 1)) (mset V 80 0 j (nI x))) := fun x hx => by
              refine ih' _ ⟨fun k p j' hk => ?_, fun j' hj' => ?_⟩
              · rw [mset_at, if_neg (fun z => hk z.1), v1 k p j' hk]
              · rw [mset_at]
                by_cases hjj : j' = j
                · rw [if_pos ⟨rfl, rfl, hjj⟩, hx, hjj]
                · rw [if_neg (by omega)]; exact v2 j' (by omega)
            by_cases hj0 : j = 0
            · subst hj0
              simp (disch := omega) only [X10_match_L113, if_neg hl, ej, X10_match_J228, zn_add, zn_mul, zn_addl, zn_ladd, zn_mull, zn_lmul, zn_le, zn_lt, zn_eq, zn_lel, zn_ltl, zn_eql, zn_lle, zn_llt, zn_leq, zn_sub, zn_subl, zn_m1, gl_eq, bind2_some, bind3_some, Option.bind_some, bz_0, bz_1, ib_0, ib_1, ib_bz, rd_nI, rd_l, if_pos, if_neg, if_true, if_false, ite_true, ite_false, eq_self, j00, j10, j20, j30, k00, k01, k02, k03, i20, i30, km0, i10, i01, im0, im1, i0m, i1m]
              exact hset _ rfl
            · have ej1 : V 79 0 (j - 1) = nI (old (j - 1)) := (v1 79 0 _ (by omega)).trans (t2 (j - 1) (by omega))
              have e80 := v2 (j - 1) (by omega)
              have e62 : V 62 0 (40 * w + j - 1) = wk (j - 1) := by
                rw [v1 62 0 _ (by omega), t1 62 0 _ (by omega)]
                have := hwk (j - 1) (by omega)
                have e : 40 * w + j - 1 = 40 * w + (j - 1) := by omega
                rw [e]; exact this
              have bj1 := hold (j - 1)
              have bn := nxF_le (a := a) (wk := wk) hold (j - 1)
              have hnx : nxF old a wk j = min (old (j - 1) + (if wk (j - 1) = a then 0 else 1)) (min (old j) (nxF old a wk (j - 1)) + 2) := by
                obtain ⟨q, rfl⟩ : ∃ q, j = q + 1 := ⟨j - 1, by omega⟩
                rfl
              have hstep : ∀ d : Nat, d ≤ 1 → nxF old a wk j = min (old (j - 1) + d) (min (old j) (nxF old a wk (j - 1)) + 2) → Q (X10_match_J175 al N (X10_match_L113 al N (fun p1 p2 p5 p6 p7 p8 Y => X10_match_J243 al N (X10_match_L90 al N (fun p5 p6 Y => X10_match_J285 al N p5 p6 Y) fu') (fun p5 p6 Y => X10_match_J285 al N p5 p6 Y) p1 p2 p5 p6 p7 p8 Y) fu'') (fun p1 p2 p5 p6 p7 p8 Y => X10_match_J243 al N (X10_match_L90 al N (fun p5 p6 Y => X10_match_J285 al N p5 p6 Y) fu') (fun p5 p6 Y => X10_match_J285 al N p5 p6 Y) p1 p2 p5 p6 p7 p8 Y) (nI w) (nI i) p5 (nI n) (nI c) a (nI j) (nI (old j + 2)) (nI (old (j - 1))) (nI d) V) := by
                intro d hd hnx
                unfold X10_match_J175
                simp (disch := omega) only [gl_eq, zn_add, zn_le, X10_match_J192, X10_match_J226, X10_match_J228, zn_subl, rd_nI, Option.bind_some, e80, zn_addl]
                by_cases c1 : old j + 2 ≤ old (j - 1) + d
                · rw [if_pos c1]
                  by_cases c2 : old j + 2 ≤ nxF old a wk (j - 1) + 2
                  · rw [if_pos c2]; exact hset _ (by rw [hnx]; omega)
                  · rw [if_neg c2]; exact hset _ (by rw [hnx]; omega)
                · rw [if_neg c1]
                  by_cases c2 : old (j - 1) + d ≤ nxF old a wk (j - 1) + 2
                  · rw [if_pos c2]; exact hset _ (by rw [hnx]; omega)
                  · rw [if_neg c2]; exact hset _ (by rw [hnx]; omega)
              simp (disch := omega) only [X10_match_L113, if_neg hl, ej, ej1, e62, zn_add, zn_mul, zn_addl, zn_ladd, zn_mull, zn_lmul, zn_le, zn_lt, zn_eq, zn_lel, zn_ltl, zn_eql, zn_lle, zn_llt, zn_leq, zn_sub, zn_subl, zn_m1, gl_eq, bind2_some, bind3_some, Option.bind_some, bz_0, bz_1, ib_0, ib_1, ib_bz, rd_nI, rd_l, if_pos, if_neg, if_true, if_false, ite_true, ite_false, eq_self, j00, j10, j20, j30, k00, k01, k02, k03, i20, i30, km0, i10, i01, im0, im1, i0m, i1m]
              by_cases hwj : wk (j - 1) = a
              · rw [if_pos hwj] at hnx ⊢
                exact hstep 0 (by omega) hnx
              · rw [if_neg hwj] at hnx ⊢
                exact hstep 1 (by omega) hnx
          · rintro fu'' V ⟨v1, v2⟩
            simp (disch := omega) only [X10_match_L113, X10_match_J243, zn_add, zn_mul, zn_addl, zn_ladd, zn_mull, zn_lmul, zn_le, zn_lt, zn_eq, zn_lel, zn_ltl, zn_eql, zn_lle, zn_llt, zn_leq, zn_sub, zn_subl, zn_m1, gl_eq, bind2_some, bind3_some, Option.bind_some, bz_0, bz_1, ib_0, ib_1, ib_bz, rd_nI, rd_l, if_pos, if_neg, if_true, if_false, ite_true, ite_false, eq_self, j00, j10, j20, j30, k00, k01, k02, k03, i20, i30, km0, i10, i01, im0, im1, i0m, i1m]
            refine m_up0 (n + 1) (fun fu3 j (U : gM) => X10_match_L246 al N (fun p1 p2 p5 p6 p7 Y => X10_match_J279 al N (X10_match_L90 al N (fun p5 p6 Y => X10_match_J285 al N p5 p6 Y) fu') (fun p5 p6 Y => X10_match_J285 al N p5 p6 Y) p1 p2 p5 p6 p7 Y) fu3 (nI w) (nI i) p5 (nI n) (nI c) a j U) (fun q U => (∀ k p j, ¬ (k = 79) → U k p j = V k p j) ∧ ∀ j, j < q → U 79 0 j = nI (nxF old a wk j)) Q V (by omega) ?_ ?_ ⟨fun _ _ _ _ => rfl, fun j hj => absurd hj (Nat.not_lt_zero j)⟩
            · rintro j fu3 U hj ⟨u1, u2⟩ ih3
              have e80 : U 80 0 j = nI (nxF old a wk j) := (u1 80 0 j (by omega)).trans (v2 j hj)
              simp (disch := omega) only [X10_match_L246, if_neg hl, e80, zn_add, zn_mul, zn_addl, zn_ladd, zn_mull, zn_lmul, zn_le, zn_lt, zn_eq, zn_lel, zn_ltl, zn_eql, zn_lle, zn_llt, zn_leq, zn_sub, zn_subl, zn_m1, gl_eq, bind2_some, bind3_some, Option.bind_some, bz_0, bz_1, ib_0, ib_1, ib_bz, rd_nI, rd_l, if_pos, if_neg, if_true, if_false, ite_true, ite_false, eq_self, j00, j10, j20, j30, k00, k01, k02, k03, i20, i30, km0, i10, i01, im0, im1, i0m, i1m]
              refine ih3 _ ⟨fun k p j' hk => ?_, fun j' hj' => ?_⟩
              · rw [mset_at, if_neg (fun z => hk z.1), u1 k p j' hk]
              · rw [mset_at]
                by_cases hjj : j' = j
                · rw [if_pos ⟨rfl, rfl, hjj⟩, hjj]
                · rw [if_neg (by omega)]; exact u2 j' (by omega)
            · rintro fu3 U ⟨u1, u2⟩
              simp (disch := omega) only [X10_match_L246, X10_match_J279, zn_add, zn_mul, zn_addl, zn_ladd, zn_mull, zn_lmul, zn_le, zn_lt, zn_eq, zn_lel, zn_ltl, zn_eql, zn_lle, zn_llt, zn_leq, zn_sub, zn_subl, zn_m1, gl_eq, bind2_some, bind3_some, Option.bind_some, bz_0, bz_1, ib_0, ib_1, ib_bz, rd_nI, rd_l, if_pos, if_neg, if_true, if_false, ite_true, ite_false, eq_self, j00, j10, j20, j30, k00, k01, k02, k03, i20, i30, km0, i10, i01, im0, im1, i0m, i1m]
              refine ih U ⟨fun k p j hk => by rw [u1 k p j (by omega), v1 k p j (by omega), t1 k p j hk], fun j hj => ?_⟩
              rw [hcs j]
              exact u2 j (by omega)
      · rintro fu' Z' ⟨t1, t2⟩
        have e46 : Z' 46 0 i = nI m := (t1 46 0 i (by omega)).trans h46
        have hb := csF_le lt wk m
        generalize csF lt wk m = f at t2 hb hQ
        simp (disch := omega) only [X10_match_L90, e46, X10_match_J285, zn_add, zn_mul, zn_addl, zn_ladd, zn_mull, zn_lmul, zn_le, zn_lt, zn_eq, zn_lel, zn_ltl, zn_eql, zn_lle, zn_llt, zn_leq, zn_sub, zn_subl, zn_m1, gl_eq, bind2_some, bind3_some, Option.bind_some, bz_0, bz_1, ib_0, ib_1, ib_bz, rd_nI, rd_l, if_pos, if_neg, if_true, if_false, ite_true, ite_false, eq_self, j00, j10, j20, j30, k00, k01, k02, k03, i20, i30, km0, i10, i01, im0, im1, i0m, i1m]
        refine m_up (n + 1) (fun fu3 j (s : Int32) => X10_match_L291 al N (fun p5 p7 Y => X10_match_J330 al N p5 p7 Y) fu3 p5 (nI n) s j Z') (fun j s => 1 ≤ j ∧ s = nI (lsF f (j - 1))) Q ?_ ?_ n 1 N (nI 0) (by omega) (by omega) ⟨Nat.le_refl 1, rfl⟩
        · rintro j fu3 s hj ⟨s1, rfl⟩ ih3
          have ej := t2 j (by omega)
          have hlj := lsF_le f (j - 1)
          have el := t2 (lsF f (j - 1)) (by omega)
          have b1 := hb j
          have b2 := hb (lsF f (j - 1))
          have hls : lsF f j = if f j < f (lsF f (j - 1)) then j else lsF f (j - 1) := by
            obtain ⟨q, rfl⟩ : ∃ q, j = q + 1 := ⟨j - 1, by omega⟩
            rfl
          simp (disch := omega) only [X10_match_L291, X10_match_J322, ej, el, zn_add, zn_mul, zn_addl, zn_ladd, zn_mull, zn_lmul, zn_le, zn_lt, zn_eq, zn_lel, zn_ltl, zn_eql, zn_lle, zn_llt, zn_leq, zn_sub, zn_subl, zn_m1, gl_eq, bind2_some, bind3_some, Option.bind_some, bz_0, bz_1, ib_0, ib_1, ib_bz, rd_nI, rd_l, if_pos, if_neg, if_true, if_false, ite_true, ite_false, eq_self, j00, j10, j20, j30, k00, k01, k02, k03, i20, i30, km0, i10, i01, im0, im1, i0m, i1m]
          by_cases hl : f j < f (lsF f (j - 1))
          · rw [if_pos hl] at hls
            rw [if_neg (by omega)]
            exact ih3 _ ⟨by omega, by rw [Nat.add_sub_cancel, hls]⟩
          · rw [if_neg hl] at hls
            rw [if_pos (by omega)]
            exact ih3 _ ⟨by omega, by rw [Nat.add_sub_cancel, hls]⟩
        · rintro fu3 s ⟨s1, rfl⟩
          rw [Nat.add_sub_cancel]
          have hlj := lsF_le f n
          have el := t2 (lsF f n) hlj
          simp (disch := omega) only [X10_match_L291, X10_match_J330, X10_match_J347, el, zn_add, zn_mul, zn_addl, zn_ladd, zn_mull, zn_lmul, zn_le, zn_lt, zn_eq, zn_lel, zn_ltl, zn_eql, zn_lle, zn_llt, zn_leq, zn_sub, zn_subl, zn_m1, gl_eq, bind2_some, bind3_some, Option.bind_some, bz_0, bz_1, ib_0, ib_1, ib_bz, rd_nI, rd_l, if_pos, if_neg, if_true, if_false, ite_true, ite_false, eq_self, j00, j10, j20, j30, k00, k01, k02, k03, i20, i30, km0, i10, i01, im0, im1, i0m, i1m]
          have hq := hQ Z' t1
          by_cases h5 : p5 = 0
          · rw [if_pos h5] at hq ⊢; exact hq
          · rw [if_neg h5] at hq ⊢; exact hq
  exact key (fun o => ∃ Z, o = some (if p5 = 0 then nI (csF lt wk m (lsF (csF lt wk m) n)) else nI (lsF (csF lt wk m) n), Z) ∧ ∀ k p j, ¬ (k = 79 ∨ k = 80) → Z k p j = Y k p j) (fun Z h1 => ⟨Z, rfl, h1⟩)
end
