/-! unmixing -/
theorem zn_div {a b : Nat} (ha : a < 2147483648) (hb : b < 2147483648) : nI a / nI b = nI (a / b) := (Int32.ofNat_div ha hb).symm
theorem zn_divl {a k : Nat} (ha : a < 2147483648) (hb : (OfNat.ofNat k : Nat) < 2147483648) : nI a / (no_index (OfNat.ofNat k) : Int32) = nI (a / (OfNat.ofNat k : Nat)) := zn_div ha hb
theorem cntP_le (P : Nat → Bool) (n : Nat) : cntP P n ≤ n := by
  induction n with
  | zero => exact Nat.le_refl 0
  | succ n ih => unfold cntP; split <;> omega
theorem lastP_lt (P : Nat → Bool) (n : Nat) (h : cntP P n ≠ 0) : lastP P n < n := by
  induction n with
  | zero => exact absurd rfl h
  | succ n ih =>
    unfold lastP
    unfold cntP at h
    by_cases hp : P n = true
    · rw [if_pos hp]; omega
    · rw [if_neg hp] at h ⊢
      have := ih (by omega)
      omega
theorem cntP_cg {P Q : Nat → Bool} (n : Nat) (h : ∀ i, i < n → P i = Q i) : cntP P n = cntP Q n := by
  induction n with
  | zero => rfl
  | succ n ih => unfold cntP; rw [ih (fun i hi => h i (by omega)), h n (by omega)]
theorem lastP_cg {P Q : Nat → Bool} (n : Nat) (h : ∀ i, i < n → P i = Q i) : lastP P n = lastP Q n := by
  induction n with
  | zero => rfl
  | succ n ih => unfold lastP; rw [ih (fun i hi => h i (by omega)), h n (by omega)]
theorem cmB_cg {im ov un im' ov' un' : Nat → Int32} {b b' : Nat} (h1 : ∀ k, k < 3 → im (3 * b + k) = im' (3 * b' + k)) (h2 : ∀ k, k < 3 → ov k = ov' k) (h3 : ∀ k, k < 3 → un k = un' k) : cmB im ov un b = cmB im' ov' un' b' := by
  funext q
  unfold cmB c1
  rw [h1 0 (by omega), h1 1 (by omega), h1 2 (by omega), h2 0 (by omega), h2 1 (by omega), h2 2 (by omega), h3 0 (by omega), h3 1 (by omega), h3 2 (by omega)]
theorem mU_cg {im ov un im' ov' un' : Nat → Int32} {b b' : Nat} (h1 : ∀ k, k < 3 → im (3 * b + k) = im' (3 * b' + k)) (h2 : ∀ k, k < 3 → ov k = ov' k) (h3 : ∀ k, k < 3 → un k = un' k) : mU im ov un b = mU im' ov' un' b' ∧ mO im ov un b = mO im' ov' un' b' := by
  unfold mU mO
  rw [cmB_cg h1 h2 h3]
  exact ⟨rfl, rfl⟩
theorem unm_step {al : Nat → Nat → Bool} {N f b q i : Nat} {k89 : Int32 → Int32 → Int32 → Int32 → gM → Option (Int32 × gM)} {p2 : Int32} {X : gM} (c : Prop) [Decidable c] (hb : b < 320) (hq : q < 100) (hi : i < 3) :
    X10_unmixes_L16 al N k89 (f + 1) (nI b) p2 (nI q) (if c then 1 else 0) (nI i) X = X10_unmixes_L16 al N k89 f (nI b) p2 (nI q) (if c ∧ c1 (X 56 0) (X 54 0) (X 55 0) b (q / 10) (q % 10) i then 1 else 0) (nI (i + 1)) X := by
  have e10 : q - q / 10 * 10 = q % 10 := by omega
  have hle : q / 10 * 10 ≤ q := by omega
  by_cases hc : c
  · have h0 : (if c then (1 : Int32) else 0) = 1 := if_pos hc
    by_cases h1 : X 56 0 (3 * b + i) = -1
    · have h2 : (if c ∧ c1 (X 56 0) (X 54 0) (X 55 0) b (q / 10) (q % 10) i then (1 : Int32) else 0) = 1 := if_pos ⟨hc, Or.inl h1⟩
      rw [h0, h2]
      simp (disch := omega) only [X10_unmixes_L16, X10_unmixes_J76, X10_unmixes_J81, h1, zn_add, zn_mul, zn_addl, zn_ladd, zn_mull, zn_lmul, zn_le, zn_lt, zn_eq, zn_lel, zn_ltl, zn_eql, zn_lle, zn_llt, zn_leq, zn_sub, zn_subl, zn_m1, gl_eq, bind2_some, bind3_some, Option.bind_some, bz_0, bz_1, ib_0, ib_1, ib_bz, rd_nI, rd_l, if_pos, if_neg, if_true, if_false, ite_true, ite_false, eq_self, j00, j10, j20, j30, k00, k01, k02, k03, i20, i30, km0, i10, i01, im0, im1, i0m, i1m]
    · by_cases h3 : X 56 0 (3 * b + i) = X 54 0 i * nI (q / 10) + X 55 0 i * nI (q % 10)
      · have h2 : (if c ∧ c1 (X 56 0) (X 54 0) (X 55 0) b (q / 10) (q % 10) i then (1 : Int32) else 0) = 1 := if_pos ⟨hc, Or.inr h3⟩
        rw [h0, h2]
        simp (disch := omega) only [X10_unmixes_L16, X10_unmixes_J76, X10_unmixes_J81, if_neg h1, zn_divl, zn_add, zn_mul, zn_addl, zn_ladd, zn_mull, zn_lmul, zn_le, zn_lt, zn_eq, zn_lel, zn_ltl, zn_eql, zn_lle, zn_llt, zn_leq, zn_sub, zn_subl, zn_m1, gl_eq, bind2_some, bind3_some, Option.bind_some, bz_0, bz_1, ib_0, ib_1, ib_bz, rd_nI, rd_l, if_pos, if_neg, if_true, if_false, ite_true, ite_false, eq_self, j00, j10, j20, j30, k00, k01, k02, k03, i20, i30, km0, i10, i01, im0, im1, i0m, i1m, e10, if_pos h3]
      · have h2 : (if c ∧ c1 (X 56 0) (X 54 0) (X 55 0) b (q / 10) (q % 10) i then (1 : Int32) else 0) = 0 := if_neg (fun h => h.2.elim h1 h3)
        rw [h0, h2]
        simp (disch := omega) only [X10_unmixes_L16, X10_unmixes_J80, X10_unmixes_J81, if_neg h1, zn_divl, zn_add, zn_mul, zn_addl, zn_ladd, zn_mull, zn_lmul, zn_le, zn_lt, zn_eq, zn_lel, zn_ltl, zn_eql, zn_lle, zn_llt, zn_leq, zn_sub, zn_subl, zn_m1, gl_eq, bind2_some, bind3_some, Option.bind_some, bz_0, bz_1, ib_0, ib_1, ib_bz, rd_nI, rd_l, if_pos, if_neg, if_true, if_false, ite_true, ite_false, eq_self, j00, j10, j20, j30, k00, k01, k02, k03, i20, i30, km0, i10, i01, im0, im1, i0m, i1m, e10, if_neg h3]
  · have h0 : (if c then (1 : Int32) else 0) = 0 := if_neg hc
    have h2 : (if c ∧ c1 (X 56 0) (X 54 0) (X 55 0) b (q / 10) (q % 10) i then (1 : Int32) else 0) = 0 := if_neg (fun h => hc h.1)
    rw [h0, h2]
    simp (disch := omega) only [X10_unmixes_L16, X10_unmixes_J80, X10_unmixes_J81, zn_add, zn_mul, zn_addl, zn_ladd, zn_mull, zn_lmul, zn_le, zn_lt, zn_eq, zn_lel, zn_ltl, zn_eql, zn_lle, zn_llt, zn_leq, zn_sub, zn_subl, zn_m1, gl_eq, bind2_some, bind3_some, Option.bind_some, bz_0, bz_1, ib_0, ib_1, ib_bz, rd_nI, rd_l, if_pos, if_neg, if_true, if_false, ite_true, ite_false, eq_self, j00, j10, j20, j30, k00, k01, k02, k03, i20, i30, km0, i10, i01, im0, im1, i0m, i1m]
theorem unm_L16 {al : Nat → Nat → Bool} {N b q : Nat} {k89 : Int32 → Int32 → Int32 → Int32 → gM → Option (Int32 × gM)} {p2 : Int32} {X : gM} (hN : 1000 ≤ N) (hb : b < 320) (hq : q < 100) :
    X10_unmixes_L16 al N k89 N (nI b) p2 (nI q) 1 0 X = k89 (nI b) p2 (nI q) (if cmB (X 56 0) (X 54 0) (X 55 0) b q = true then 1 else 0) X := by
  have key : ∀ n, 4 ≤ n → X10_unmixes_L16 al N k89 n (nI b) p2 (nI q) 1 0 X = k89 (nI b) p2 (nI q) (if cmB (X 56 0) (X 54 0) (X 55 0) b q = true then 1 else 0) X := by
    intro n hn
    obtain ⟨m, rfl⟩ : ∃ m, n = m + 4 := ⟨n - 4, by omega⟩
    have s0 := unm_step (al := al) (N := N) (f := m + 3) (k89 := k89) (p2 := p2) (X := X) True hb hq (i := 0) (by omega)
    rw [if_pos trivial] at s0
    refine s0.trans ?_
    rw [unm_step _ hb hq (by omega), unm_step _ hb hq (by omega)]
    have e3 : (0 + 1 + 1 + 1 : Nat) = 3 := rfl
    rw [e3]
    simp (disch := omega) only [X10_unmixes_L16, zn_add, zn_mul, zn_addl, zn_ladd, zn_mull, zn_lmul, zn_le, zn_lt, zn_eq, zn_lel, zn_ltl, zn_eql, zn_lle, zn_llt, zn_leq, zn_sub, zn_subl, zn_m1, gl_eq, bind2_some, bind3_some, Option.bind_some, bz_0, bz_1, ib_0, ib_1, ib_bz, rd_nI, rd_l, if_pos, if_neg, if_true, if_false, ite_true, ite_false, eq_self, j00, j10, j20, j30, k00, k01, k02, k03, i20, i30, km0, i10, i01, im0, im1, i0m, i1m]
    congr 1
    unfold cmB
    simp only [decide_eq_true_eq, true_and, and_assoc]
  exact key N (by omega)
theorem X10_unmixes_eq {al : Nat → Nat → Bool} {N b : Nat} {X : gM} (hN : 1000 ≤ N) (hb : b < 320) : ∃ Y, X10_unmixes al N (nI b) X = some (if cntP (cmB (X 56 0) (X 54 0) (X 55 0) b) 100 = 1 then 1 else 0, Y) ∧
    (∀ k i j, ¬ (k = 43 ∧ (j = 29 ∨ j = 30)) → Y k i j = X k i j) ∧ (cntP (cmB (X 56 0) (X 54 0) (X 55 0) b) 100 ≠ 0 → Y 43 0 29 = nI (lastP (cmB (X 56 0) (X 54 0) (X 55 0) b) 100 / 10) ∧ Y 43 0 30 = nI (lastP (cmB (X 56 0) (X 54 0) (X 55 0) b) 100 % 10)) := by
  unfold X10_unmixes
  refine m_up0 100 (fun f i (s : Int32 × gM) => X10_unmixes_L4 al N (fun p2 Y => X10_unmixes_J119 al N p2 Y) f (nI b) s.1 i s.2)
    (fun i s => s.1 = nI (cntP (cmB (X 56 0) (X 54 0) (X 55 0) b) i) ∧ (∀ k i j, ¬ (k = 43 ∧ (j = 29 ∨ j = 30)) → s.2 k i j = X k i j) ∧ (cntP (cmB (X 56 0) (X 54 0) (X 55 0) b) i ≠ 0 → s.2 43 0 29 = nI (lastP (cmB (X 56 0) (X 54 0) (X 55 0) b) i / 10) ∧ s.2 43 0 30 = nI (lastP (cmB (X 56 0) (X 54 0) (X 55 0) b) i % 10)))
    (fun o => ∃ Y, o = some (if cntP (cmB (X 56 0) (X 54 0) (X 55 0) b) 100 = 1 then 1 else 0, Y) ∧
    (∀ k i j, ¬ (k = 43 ∧ (j = 29 ∨ j = 30)) → Y k i j = X k i j) ∧ (cntP (cmB (X 56 0) (X 54 0) (X 55 0) b) 100 ≠ 0 → Y 43 0 29 = nI (lastP (cmB (X 56 0) (X 54 0) (X 55 0) b) 100 / 10) ∧ Y 43 0 30 = nI (lastP (cmB (X 56 0) (X 54 0) (X 55 0) b) 100 % 10))) (nI 0, X) (by omega) ?_ ?_ ⟨rfl, fun _ _ _ _ => rfl, fun h => absurd rfl h⟩
  · rintro q f ⟨p2, Y⟩ hq ⟨h1, h2, h3⟩ ih
    dsimp only at h1 h2 h3 ih ⊢
    subst h1
    have e56 : Y 56 0 = X 56 0 := funext fun j => h2 56 0 j (by omega)
    have e54 : Y 54 0 = X 54 0 := funext fun j => h2 54 0 j (by omega)
    have e55 : Y 55 0 = X 55 0 := funext fun j => h2 55 0 j (by omega)
    have hle := cntP_le (cmB (X 56 0) (X 54 0) (X 55 0) b) q
    have e10 : q - q / 10 * 10 = q % 10 := by omega
    have hle2 : q / 10 * 10 ≤ q := by omega
    unfold X10_unmixes_L4
    simp (disch := omega) only [zn_add, zn_mul, zn_addl, zn_ladd, zn_mull, zn_lmul, zn_le, zn_lt, zn_eq, zn_lel, zn_ltl, zn_eql, zn_lle, zn_llt, zn_leq, zn_sub, zn_subl, zn_m1, gl_eq, bind2_some, bind3_some, Option.bind_some, bz_0, bz_1, ib_0, ib_1, ib_bz, rd_nI, rd_l, if_pos, if_neg, if_true, if_false, ite_true, ite_false, eq_self, j00, j10, j20, j30, k00, k01, k02, k03, i20, i30, km0, i10, i01, im0, im1, i0m, i1m, unm_L16 hN hb hq, e56, e54, e55, X10_unmixes_J89, X10_unmixes_J113]
    by_cases hc : cmB (X 56 0) (X 54 0) (X 55 0) b q = true
    · rw [if_pos hc]
      simp (disch := omega) only [zn_divl, zn_add, zn_mul, zn_addl, zn_ladd, zn_mull, zn_lmul, zn_le, zn_lt, zn_eq, zn_lel, zn_ltl, zn_eql, zn_lle, zn_llt, zn_leq, zn_sub, zn_subl, zn_m1, gl_eq, bind2_some, bind3_some, Option.bind_some, bz_0, bz_1, ib_0, ib_1, ib_bz, rd_nI, rd_l, if_pos, if_neg, if_true, if_false, ite_true, ite_false, eq_self, j00, j10, j20, j30, k00, k01, k02, k03, i20, i30, km0, i10, i01, im0, im1, i0m, i1m, e10]
      refine ih (nI (cntP (cmB (X 56 0) (X 54 0) (X 55 0) b) q + 1), mset (mset Y 43 0 29 (nI (q / 10))) 43 0 30 (nI (q % 10))) ⟨?_, fun k i j hk => ?_, fun _ => ⟨?_, ?_⟩⟩
      · simp [cntP, hc]
      · simp only [mset_at]
        rw [if_neg (by omega), if_neg (by omega), h2 k i j hk]
      · simp [mset_at, mset_row, lastP, hc]
      · simp [mset_at, mset_row, lastP, hc]
    · rw [if_neg hc]
      refine ih (nI (cntP (cmB (X 56 0) (X 54 0) (X 55 0) b) q), Y) ⟨?_, h2, fun hn => ?_⟩
      · simp [cntP, hc]
      · simp only [cntP, if_neg hc, Nat.add_zero] at hn
        simp only [lastP, if_neg hc]
        exact h3 hn
  · rintro f ⟨p2, Y⟩ ⟨h1, h2, h3⟩
    dsimp only at h1 h2 h3 ⊢
    subst h1
    have hle := cntP_le (cmB (X 56 0) (X 54 0) (X 55 0) b) 100
    refine ⟨Y, ?_, h2, h3⟩
    unfold X10_unmixes_L4 X10_unmixes_J119 X10_unmixes_J129
    by_cases hc : cntP (cmB (X 56 0) (X 54 0) (X 55 0) b) 100 = 1
    · simp (disch := omega) only [zn_add, zn_mul, zn_addl, zn_ladd, zn_mull, zn_lmul, zn_le, zn_lt, zn_eq, zn_lel, zn_ltl, zn_eql, zn_lle, zn_llt, zn_leq, zn_sub, zn_subl, zn_m1, gl_eq, bind2_some, bind3_some, Option.bind_some, bz_0, bz_1, ib_0, ib_1, ib_bz, rd_nI, rd_l, if_pos, if_neg, if_true, if_false, ite_true, ite_false, eq_self, j00, j10, j20, j30, k00, k01, k02, k03, i20, i30, km0, i10, i01, im0, im1, i0m, i1m]
    · simp (disch := omega) only [zn_add, zn_mul, zn_addl, zn_ladd, zn_mull, zn_lmul, zn_le, zn_lt, zn_eq, zn_lel, zn_ltl, zn_eql, zn_lle, zn_llt, zn_leq, zn_sub, zn_subl, zn_m1, gl_eq, bind2_some, bind3_some, Option.bind_some, bz_0, bz_1, ib_0, ib_1, ib_bz, rd_nI, rd_l, if_pos, if_neg, if_true, if_false, ite_true, ite_false, eq_self, j00, j10, j20, j30, k00, k01, k02, k03, i20, i30, km0, i10, i01, im0, im1, i0m, i1m]
theorem mU_0 (im ov un : Nat → Int32) (b : Nat) : mU im ov un b = 0 ↔ cntP (cmB im ov un b) 100 = 1 ∧ lastP (cmB im ov un b) 100 % 10 = 0 := by
  unfold mU
  by_cases h : cntP (cmB im ov un b) 100 = 1
  · rw [if_pos h]
    constructor
    · intro h2
      exact ⟨h, (zn_eql (k := 0) (by omega) (by decide)).mp h2⟩
    · rintro ⟨_, h2⟩
      rw [h2]; rfl
  · rw [if_neg h]
    constructor
    · intro h2
      exact absurd h2 (by decide)
    · exact fun h2 => absurd h2.1 h
theorem mU_m1 (im ov un : Nat → Int32) (b : Nat) : mU im ov un b = -1 ↔ ¬ cntP (cmB im ov un b) 100 = 1 := by
  unfold mU
  by_cases h : cntP (cmB im ov un b) 100 = 1
  · rw [if_pos h]
    exact ⟨fun h2 => absurd h2 (zn_ne1 (by omega)), fun h2 => absurd h h2⟩
  · rw [if_neg h]
    exact ⟨fun _ => h, fun _ => rfl⟩
theorem X10_isBlankCell_eq {al : Nat → Nat → Bool} {N b : Nat} {X : gM} (hN : 1000 ≤ N) (hb : b < 320) : ∃ Y, X10_isBlankCell al N (nI b) X = some (if mU (X 56 0) (X 54 0) (X 55 0) b = 0 then 1 else 0, Y) ∧ (∀ k i j, ¬ (k = 43 ∧ (j = 29 ∨ j = 30)) → Y k i j = X k i j) := by
  obtain ⟨Y, h1, h2, h3⟩ := X10_unmixes_eq (al := al) (N := N) (b := b) (X := X) hN hb
  refine ⟨Y, ?_, h2⟩
  have e := mU_0 (X 56 0) (X 54 0) (X 55 0) b
  unfold X10_isBlankCell X10_isBlankCell_J19 X10_isBlankCell_J20
  rw [h1, bind2_some, ib_0]
  by_cases hc : cntP (cmB (X 56 0) (X 54 0) (X 55 0) b) 100 = 1
  · rw [if_pos hc, (h3 (by omega)).2]
    by_cases hz : lastP (cmB (X 56 0) (X 54 0) (X 55 0) b) 100 % 10 = 0
    · rw [if_pos (e.mpr ⟨hc, hz⟩), hz]; rfl
    · rw [if_neg (fun q => hz (e.mp q).2), if_neg (fun q => hz ((zn_eql (k := 0) (by omega) (by decide)).mp q))]; rfl
  · rw [if_neg hc, if_neg (fun q => hc (e.mp q).1)]; rfl
/-! the other side: measure -/
theorem X0_comesOf_eq {al : Nat → Nat → Bool} {N a o u : Nat} {X : gM} (hN : 1000 ≤ N) : X0_comesOf al N a (nI o) (nI u) X = some (if c1 (X 8 a) (X 2 0) (X 3 0) 0 o u 0 ∧ c1 (X 8 a) (X 2 0) (X 3 0) 0 o u 1 ∧ c1 (X 8 a) (X 2 0) (X 3 0) 0 o u 2 then 1 else 0, X) := by
  have st : ∀ f i, i < 3 → X0_comesOf_L3 al N (fun Y => X0_comesOf_J49 al N Y) (fun Y => X0_comesOf_J57 al N Y) (f + 1) a (nI o) (nI u) (nI i) X = if c1 (X 8 a) (X 2 0) (X 3 0) 0 o u i then X0_comesOf_L3 al N (fun Y => X0_comesOf_J49 al N Y) (fun Y => X0_comesOf_J57 al N Y) f a (nI o) (nI u) (nI (i + 1)) X else some (0, X) := by
    intro f i hi
    have e0 : 3 * 0 + i = i := by omega
    by_cases h1 : X 8 a i = -1
    · rw [if_pos (Or.inl (by rw [e0]; exact h1))]
      simp (disch := omega) only [X0_comesOf_L3, X0_comesOf_J51, if_pos h1, zn_add, zn_mul, zn_addl, zn_ladd, zn_mull, zn_lmul, zn_le, zn_lt, zn_eq, zn_lel, zn_ltl, zn_eql, zn_lle, zn_llt, zn_leq, zn_sub, zn_subl, zn_m1, gl_eq, bind2_some, bind3_some, Option.bind_some, bz_0, bz_1, ib_0, ib_1, ib_bz, rd_nI, rd_l, if_pos, if_neg, if_true, if_false, ite_true, ite_false, eq_self, j00, j10, j20, j30, k00, k01, k02, k03, i20, i30, km0, i10, i01, im0, im1, i0m, i1m]
    · by_cases h2 : X 8 a i = X 2 0 i * nI o + X 3 0 i * nI u
      · rw [if_pos (Or.inr (by rw [e0]; exact h2))]
        simp (disch := omega) only [X0_comesOf_L3, X0_comesOf_J51, if_neg h1, if_pos h2, zn_add, zn_mul, zn_addl, zn_ladd, zn_mull, zn_lmul, zn_le, zn_lt, zn_eq, zn_lel, zn_ltl, zn_eql, zn_lle, zn_llt, zn_leq, zn_sub, zn_subl, zn_m1, gl_eq, bind2_some, bind3_some, Option.bind_some, bz_0, bz_1, ib_0, ib_1, ib_bz, rd_nI, rd_l, if_pos, if_neg, if_true, if_false, ite_true, ite_false, eq_self, j00, j10, j20, j30, k00, k01, k02, k03, i20, i30, km0, i10, i01, im0, im1, i0m, i1m]
      · rw [if_neg (fun h => by unfold c1 at h; rw [e0] at h; exact h.elim h1 h2)]
        simp (disch := omega) only [X0_comesOf_L3, X0_comesOf_J49, if_neg h1, if_neg h2, zn_add, zn_mul, zn_addl, zn_ladd, zn_mull, zn_lmul, zn_le, zn_lt, zn_eq, zn_lel, zn_ltl, zn_eql, zn_lle, zn_llt, zn_leq, zn_sub, zn_subl, zn_m1, gl_eq, bind2_some, bind3_some, Option.bind_some, bz_0, bz_1, ib_0, ib_1, ib_bz, rd_nI, rd_l, if_pos, if_neg, if_true, if_false, ite_true, ite_false, eq_self, j00, j10, j20, j30, k00, k01, k02, k03, i20, i30, km0, i10, i01, im0, im1, i0m, i1m]
  unfold X0_comesOf
  obtain ⟨m, rfl⟩ : ∃ m, N = m + 4 := ⟨N - 4, by omega⟩
  refine (st (m + 3) 0 (by omega)).trans ?_
  rw [st (m + 2) (0 + 1) (by omega), st (m + 1) (0 + 1 + 1) (by omega)]
  have e3 : (0 + 1 + 1 + 1 : Nat) = 3 := rfl
  have e4 : X0_comesOf_L3 al (m + 4) (fun Y => X0_comesOf_J49 al (m + 4) Y) (fun Y => X0_comesOf_J57 al (m + 4) Y) (m + 1) a (nI o) (nI u) (nI (0 + 1 + 1 + 1)) X = some (1, X) := by
    rw [e3]
    simp (disch := omega) only [X0_comesOf_L3, X0_comesOf_J57, zn_add, zn_mul, zn_addl, zn_ladd, zn_mull, zn_lmul, zn_le, zn_lt, zn_eq, zn_lel, zn_ltl, zn_eql, zn_lle, zn_llt, zn_leq, zn_sub, zn_subl, zn_m1, gl_eq, bind2_some, bind3_some, Option.bind_some, bz_0, bz_1, ib_0, ib_1, ib_bz, rd_nI, rd_l, if_pos, if_neg, if_true, if_false, ite_true, ite_false, eq_self, j00, j10, j20, j30, k00, k01, k02, k03, i20, i30, km0, i10, i01, im0, im1, i0m, i1m]
  rw [e4]
  by_cases h0 : c1 (X 8 a) (X 2 0) (X 3 0) 0 o u 0
  · by_cases h1 : c1 (X 8 a) (X 2 0) (X 3 0) 0 o u 1
    · by_cases h2 : c1 (X 8 a) (X 2 0) (X 3 0) 0 o u 2
      · rw [if_pos h0, if_pos h1, if_pos h2, if_pos ⟨h0, h1, h2⟩]
      · rw [if_pos h0, if_pos h1, if_neg h2, if_neg (fun h => h2 h.2.2)]
    · rw [if_pos h0, if_neg h1, if_neg (fun h => h1 h.2.1)]
  · rw [if_neg h0, if_neg (fun h => h0 h.1)]
theorem X0_isImaged_eq {al : Nat → Nat → Bool} {N a : Nat} {X : gM} (hN : 1000 ≤ N) : X0_isImaged al N a X = some (if X 8 a 0 = -1 ∧ X 8 a 1 = -1 ∧ X 8 a 2 = -1 then 0 else 1, X) := by
  have st : ∀ f i, i < 3 → X0_isImaged_L10 al N (fun Y => X0_isImaged_J26 al N Y) (fun Y => X0_isImaged_J34 al N Y) (f + 1) a 3 (nI i) X = if X 8 a i = -1 then X0_isImaged_L10 al N (fun Y => X0_isImaged_J26 al N Y) (fun Y => X0_isImaged_J34 al N Y) f a 3 (nI (i + 1)) X else some (1, X) := by
    intro f i hi
    by_cases h1 : X 8 a i = -1
    · rw [if_pos h1]
      simp (disch := omega) only [X0_isImaged_L10, if_pos h1, zn_add, zn_mul, zn_addl, zn_ladd, zn_mull, zn_lmul, zn_le, zn_lt, zn_eq, zn_lel, zn_ltl, zn_eql, zn_lle, zn_llt, zn_leq, zn_sub, zn_subl, zn_m1, gl_eq, bind2_some, bind3_some, Option.bind_some, bz_0, bz_1, ib_0, ib_1, ib_bz, rd_nI, rd_l, if_pos, if_neg, if_true, if_false, ite_true, ite_false, eq_self, j00, j10, j20, j30, k00, k01, k02, k03, i20, i30, km0, i10, i01, im0, im1, i0m, i1m]
    · rw [if_neg h1]
      simp (disch := omega) only [X0_isImaged_L10, X0_isImaged_J26, if_neg h1, zn_add, zn_mul, zn_addl, zn_ladd, zn_mull, zn_lmul, zn_le, zn_lt, zn_eq, zn_lel, zn_ltl, zn_eql, zn_lle, zn_llt, zn_leq, zn_sub, zn_subl, zn_m1, gl_eq, bind2_some, bind3_some, Option.bind_some, bz_0, bz_1, ib_0, ib_1, ib_bz, rd_nI, rd_l, if_pos, if_neg, if_true, if_false, ite_true, ite_false, eq_self, j00, j10, j20, j30, k00, k01, k02, k03, i20, i30, km0, i10, i01, im0, im1, i0m, i1m]
  unfold X0_isImaged
  obtain ⟨m, rfl⟩ : ∃ m, N = m + 4 := ⟨N - 4, by omega⟩
  refine (st (m + 3) 0 (by omega)).trans ?_
  rw [st (m + 2) (0 + 1) (by omega), st (m + 1) (0 + 1 + 1) (by omega)]
  have e3 : (0 + 1 + 1 + 1 : Nat) = 3 := rfl
  have e4 : X0_isImaged_L10 al (m + 4) (fun Y => X0_isImaged_J26 al (m + 4) Y) (fun Y => X0_isImaged_J34 al (m + 4) Y) (m + 1) a 3 (nI (0 + 1 + 1 + 1)) X = some (0, X) := by
    rw [e3]
    simp (disch := omega) only [X0_isImaged_L10, X0_isImaged_J34, zn_add, zn_mul, zn_addl, zn_ladd, zn_mull, zn_lmul, zn_le, zn_lt, zn_eq, zn_lel, zn_ltl, zn_eql, zn_lle, zn_llt, zn_leq, zn_sub, zn_subl, zn_m1, gl_eq, bind2_some, bind3_some, Option.bind_some, bz_0, bz_1, ib_0, ib_1, ib_bz, rd_nI, rd_l, if_pos, if_neg, if_true, if_false, ite_true, ite_false, eq_self, j00, j10, j20, j30, k00, k01, k02, k03, i20, i30, km0, i10, i01, im0, im1, i0m, i1m]
  rw [e4]
  by_cases h0 : X 8 a 0 = -1
  · by_cases h1 : X 8 a 1 = -1
    · by_cases h2 : X 8 a 2 = -1
      · rw [if_pos h0, if_pos h1, if_pos h2, if_pos ⟨h0, h1, h2⟩]
      · rw [if_pos h0, if_pos h1, if_neg h2, if_neg (fun h => h2 h.2.2)]
    · rw [if_pos h0, if_neg h1, if_neg (fun h => h1 h.2.1)]
  · rw [if_neg h0, if_neg (fun h => h0 h.1)]
/-- what is found of a cell so far -/
def msI (X : gM) (a q : Nat) (s : Int32 × gM) : Prop := s.1 = nI (cntP (cmB (X 8 a) (X 2 0) (X 3 0) 0) q) ∧ (∀ k i j, ¬ (k = 7 ∧ i = a ∧ (j = 3 ∨ j = 4)) → s.2 k i j = X k i j) ∧
  (cntP (cmB (X 8 a) (X 2 0) (X 3 0) 0) q ≠ 0 → s.2 7 a 3 = nI (lastP (cmB (X 8 a) (X 2 0) (X 3 0) 0) q / 10) ∧ s.2 7 a 4 = nI (lastP (cmB (X 8 a) (X 2 0) (X 3 0) 0) q % 10))
theorem ms_L31 {al : Nat → Nat → Bool} {N a o : Nat} {X : gM} {k72 : Nat → Int32 → Int32 → gM → Option (Int32 × gM)} (Q : Option (Int32 × gM) → Prop) (hN : 1000 ≤ N) (ho : o < 10) (s : Int32 × gM) (hs : msI X a (10 * o) s)
    (hk : ∀ s, msI X a (10 * o + 10) s → Q (k72 a s.1 (nI o) s.2)) : Q (X0_measure_L31 al N k72 N a s.1 (nI o) 0 s.2) := by
  refine m_up0 10 (fun f i (s : Int32 × gM) => X0_measure_L31 al N k72 f a s.1 (nI o) i s.2) (fun i s => msI X a (10 * o + i) s) Q s (by omega) ?_ ?_ hs
  · rintro u f ⟨p2, Y⟩ hu ⟨h1, h2, h3⟩ ih
    dsimp only at h1 h2 h3 ih ⊢
    subst h1
    have e8 : Y 8 a = X 8 a := funext fun j => h2 8 a j (by omega)
    have e2 : Y 2 0 = X 2 0 := funext fun j => h2 2 0 j (by omega)
    have e3 : Y 3 0 = X 3 0 := funext fun j => h2 3 0 j (by omega)
    have hle := cntP_le (cmB (X 8 a) (X 2 0) (X 3 0) 0) (10 * o + u)
    have d1 : (10 * o + u) / 10 = o := by omega
    have d2 : (10 * o + u) % 10 = u := by omega
    have ee : (c1 (X 8 a) (X 2 0) (X 3 0) 0 o u 0 ∧ c1 (X 8 a) (X 2 0) (X 3 0) 0 o u 1 ∧ c1 (X 8 a) (X 2 0) (X 3 0) 0 o u 2) ↔ cmB (X 8 a) (X 2 0) (X 3 0) 0 (10 * o + u) = true := by
      unfold cmB
      rw [d1, d2, decide_eq_true_eq]
    unfold X0_measure_L31
    simp (disch := omega) only [zn_add, zn_mul, zn_addl, zn_ladd, zn_mull, zn_lmul, zn_le, zn_lt, zn_eq, zn_lel, zn_ltl, zn_eql, zn_lle, zn_llt, zn_leq, zn_sub, zn_subl, zn_m1, X0_comesOf_eq hN, e8, e2, e3, gl_eq, bind2_some, bind3_some, Option.bind_some, bz_0, bz_1, ib_0, ib_1, ib_bz, rd_nI, rd_l, if_pos, if_neg, if_true, if_false, ite_true, ite_false, eq_self, j00, j10, j20, j30, k00, k01, k02, k03, i20, i30, km0, i10, i01, im0, im1, i0m, i1m, X0_measure_J66]
    by_cases hc : cmB (X 8 a) (X 2 0) (X 3 0) 0 (10 * o + u) = true
    · rw [if_pos (ee.mpr hc)]
      refine ih (nI (cntP (cmB (X 8 a) (X 2 0) (X 3 0) 0) (10 * o + u) + 1), mset (mset Y 7 a 3 (nI o)) 7 a 4 (nI u)) ⟨?_, fun k i j hk => ?_, fun _ => ⟨?_, ?_⟩⟩
      · simp [← Nat.add_assoc, cntP, hc]
      · simp only [mset_at]
        rw [if_neg (by omega), if_neg (by omega), h2 k i j hk]
      · simp [mset_at, mset_row, ← Nat.add_assoc, lastP, hc, d1]
      · simp [mset_at, mset_row, ← Nat.add_assoc, lastP, hc, d2]
    · rw [if_neg (fun h => hc (ee.mp h))]
      refine ih (nI (cntP (cmB (X 8 a) (X 2 0) (X 3 0) 0) (10 * o + u)), Y) ⟨?_, h2, fun hn => ?_⟩
      · simp [← Nat.add_assoc, cntP, hc]
      · have q1 : cntP (cmB (X 8 a) (X 2 0) (X 3 0) 0) (10 * o + (u + 1)) = cntP (cmB (X 8 a) (X 2 0) (X 3 0) 0) (10 * o + u) + (if cmB (X 8 a) (X 2 0) (X 3 0) 0 (10 * o + u) = true then 1 else 0) := rfl
        have q2 : lastP (cmB (X 8 a) (X 2 0) (X 3 0) 0) (10 * o + (u + 1)) = (if cmB (X 8 a) (X 2 0) (X 3 0) 0 (10 * o + u) = true then (10 * o + u) else lastP (cmB (X 8 a) (X 2 0) (X 3 0) 0) (10 * o + u)) := rfl
        rw [q1, if_neg hc, Nat.add_zero] at hn
        rw [q2, if_neg hc]
        exact h3 hn
  · rintro f ⟨p2, Y⟩ h
    dsimp only at h ⊢
    unfold X0_measure_L31
    simp (disch := omega) only [zn_add, zn_mul, zn_addl, zn_ladd, zn_mull, zn_lmul, zn_le, zn_lt, zn_eq, zn_lel, zn_ltl, zn_eql, zn_lle, zn_llt, zn_leq, zn_sub, zn_subl, zn_m1, gl_eq, bind2_some, bind3_some, Option.bind_some, bz_0, bz_1, ib_0, ib_1, ib_bz, rd_nI, rd_l, if_pos, if_neg, if_true, if_false, ite_true, ite_false, eq_self, j00, j10, j20, j30, k00, k01, k02, k03, i20, i30, km0, i10, i01, im0, im1, i0m, i1m]
    exact hk _ h
theorem cm_all {im ov un : Nat → Int32} (h : im 0 = -1 ∧ im 1 = -1 ∧ im 2 = -1) : cntP (cmB im ov un 0) 100 = 100 := by
  have : ∀ n, cntP (cmB im ov un 0) n = n := by
    intro n
    induction n with
    | zero => rfl
    | succ n ih =>
      unfold cntP
      rw [ih, if_pos]
      unfold cmB
      rw [decide_eq_true_eq]
      exact ⟨Or.inl h.1, Or.inl h.2.1, Or.inl h.2.2⟩
  exact this 100
theorem X0_measure_eq {al : Nat → Nat → Bool} {N a : Nat} {X : gM} (hN : 1000 ≤ N) : ∃ Y, X0_measure al N a X = some (0, Y) ∧ (∀ k i j, ¬ (k = 7 ∧ i = a ∧ (j = 3 ∨ j = 4)) → Y k i j = X k i j) ∧
    Y 7 a 3 = mO (X 8 a) (X 2 0) (X 3 0) 0 ∧ Y 7 a 4 = mU (X 8 a) (X 2 0) (X 3 0) 0 := by
  unfold X0_measure
  have e8 : (mset (mset X 7 a 3 (-1)) 7 a 4 (-1)) 8 a = X 8 a := by funext j; simp [mset_at, mset_row]
  have e2 : (mset (mset X 7 a 3 (-1)) 7 a 4 (-1)) 2 0 = X 2 0 := by funext j; simp [mset_at, mset_row]
  have e3 : (mset (mset X 7 a 3 (-1)) 7 a 4 (-1)) 3 0 = X 3 0 := by funext j; simp [mset_at, mset_row]
  simp only [gl_eq, X0_isImaged_eq hN, bind2_some, e8]
  by_cases hi : X 8 a 0 = -1 ∧ X 8 a 1 = -1 ∧ X 8 a 2 = -1
  · rw [if_pos hi, if_pos rfl]
    have h100 := cm_all (ov := X 2 0) (un := X 3 0) hi
    refine ⟨_, rfl, fun k i j hk => ?_, ?_, ?_⟩
    · simp only [mset_at]
      rw [if_neg (by omega), if_neg (by omega)]
    · unfold mO
      rw [h100, if_neg (by omega)]
      simp [mset_at, mset_row]
    · unfold mU
      rw [h100, if_neg (by omega)]
      simp [mset_at, mset_row]
  · rw [if_neg hi, if_neg (by decide)]
    have key : ∀ Q : Option (Int32 × gM) → Prop, (∀ s, msI X a 100 s → Q (X0_measure_J78 al N a s.1 s.2)) → Q (X0_measure_L22 al N (fun p0 p2 Y => X0_measure_J78 al N p0 p2 Y) N a 0 0 (mset (mset X 7 a 3 (-1)) 7 a 4 (-1))) := by
      intro Q hQ
      refine m_up0 10 (fun f i (s : Int32 × gM) => X0_measure_L22 al N (fun p0 p2 Y => X0_measure_J78 al N p0 p2 Y) f a s.1 i s.2) (fun i s => msI X a (10 * i) s) Q (nI 0, mset (mset X 7 a 3 (-1)) 7 a 4 (-1)) (by omega) ?_ ?_ ?_
      · rintro o f ⟨p2, Y⟩ ho h ih
        dsimp only at h ih ⊢
        unfold X0_measure_L22
        simp (disch := omega) only [zn_add, zn_mul, zn_addl, zn_ladd, zn_mull, zn_lmul, zn_le, zn_lt, zn_eq, zn_lel, zn_ltl, zn_eql, zn_lle, zn_llt, zn_leq, zn_sub, zn_subl, zn_m1, gl_eq, bind2_some, bind3_some, Option.bind_some, bz_0, bz_1, ib_0, ib_1, ib_bz, rd_nI, rd_l, if_pos, if_neg, if_true, if_false, ite_true, ite_false, eq_self, j00, j10, j20, j30, k00, k01, k02, k03, i20, i30, km0, i10, i01, im0, im1, i0m, i1m]
        refine ms_L31 Q hN ho (p2, Y) h (fun s hs => ?_)
        unfold X0_measure_J72
        simp (disch := omega) only [zn_add, zn_mul, zn_addl, zn_ladd, zn_mull, zn_lmul, zn_le, zn_lt, zn_eq, zn_lel, zn_ltl, zn_eql, zn_lle, zn_llt, zn_leq, zn_sub, zn_subl, zn_m1, gl_eq, bind2_some, bind3_some, Option.bind_some, bz_0, bz_1, ib_0, ib_1, ib_bz, rd_nI, rd_l, if_pos, if_neg, if_true, if_false, ite_true, ite_false, eq_self, j00, j10, j20, j30, k00, k01, k02, k03, i20, i30, km0, i10, i01, im0, im1, i0m, i1m]
        exact ih s (by rw [Nat.mul_add]; exact hs)
      · rintro f ⟨p2, Y⟩ h
        dsimp only at h ⊢
        unfold X0_measure_L22
        simp (disch := omega) only [zn_add, zn_mul, zn_addl, zn_ladd, zn_mull, zn_lmul, zn_le, zn_lt, zn_eq, zn_lel, zn_ltl, zn_eql, zn_lle, zn_llt, zn_leq, zn_sub, zn_subl, zn_m1, gl_eq, bind2_some, bind3_some, Option.bind_some, bz_0, bz_1, ib_0, ib_1, ib_bz, rd_nI, rd_l, if_pos, if_neg, if_true, if_false, ite_true, ite_false, eq_self, j00, j10, j20, j30, k00, k01, k02, k03, i20, i30, km0, i10, i01, im0, im1, i0m, i1m]
        exact hQ (p2, Y) h
      · refine ⟨rfl, fun k i j hk => ?_, fun h => absurd rfl h⟩
        simp only [mset_at]
        rw [if_neg (by omega), if_neg (by omega)]
    refine key (fun o => ∃ Y, o = some (0, Y) ∧ (∀ k i j, ¬ (k = 7 ∧ i = a ∧ (j = 3 ∨ j = 4)) → Y k i j = X k i j) ∧ Y 7 a 3 = mO (X 8 a) (X 2 0) (X 3 0) 0 ∧ Y 7 a 4 = mU (X 8 a) (X 2 0) (X 3 0) 0) ?_
    rintro ⟨p2, Y⟩ ⟨h1, h2, h3⟩
    dsimp only at h1 h2 h3 ⊢
    subst h1
    have hle := cntP_le (cmB (X 8 a) (X 2 0) (X 3 0) 0) 100
    unfold X0_measure_J78 X0_measure_J93
    by_cases hc : cntP (cmB (X 8 a) (X 2 0) (X 3 0) 0) 100 = 1
    · simp (disch := omega) only [zn_add, zn_mul, zn_addl, zn_ladd, zn_mull, zn_lmul, zn_le, zn_lt, zn_eq, zn_lel, zn_ltl, zn_eql, zn_lle, zn_llt, zn_leq, zn_sub, zn_subl, zn_m1, gl_eq, bind2_some, bind3_some, Option.bind_some, bz_0, bz_1, ib_0, ib_1, ib_bz, rd_nI, rd_l, if_pos, if_neg, if_true, if_false, ite_true, ite_false, eq_self, j00, j10, j20, j30, k00, k01, k02, k03, i20, i30, km0, i10, i01, im0, im1, i0m, i1m]
      refine ⟨Y, rfl, h2, ?_, ?_⟩
      · unfold mO
        rw [if_pos hc, (h3 (by omega)).1]
      · unfold mU
        rw [if_pos hc, (h3 (by omega)).2]
    · simp (disch := omega) only [zn_add, zn_mul, zn_addl, zn_ladd, zn_mull, zn_lmul, zn_le, zn_lt, zn_eq, zn_lel, zn_ltl, zn_eql, zn_lle, zn_llt, zn_leq, zn_sub, zn_subl, zn_m1, gl_eq, bind2_some, bind3_some, Option.bind_some, bz_0, bz_1, ib_0, ib_1, ib_bz, rd_nI, rd_l, if_pos, if_neg, if_true, if_false, ite_true, ite_false, eq_self, j00, j10, j20, j30, k00, k01, k02, k03, i20, i30, km0, i10, i01, im0, im1, i0m, i1m]
      refine ⟨_, rfl, fun k i j hk => ?_, ?_, ?_⟩
      · simp only [mset_at]
        rw [if_neg (by omega), if_neg (by omega), h2 k i j hk]
      · unfold mO
        rw [if_neg hc]
        simp [mset_at]
      · unfold mU
        rw [if_neg hc]
        simp [mset_at]
