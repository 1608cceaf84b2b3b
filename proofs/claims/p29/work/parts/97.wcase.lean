/-! worth -/
theorem zn_a0 (a : Nat) : nI a + (0 : Int32) = nI a := zn_addl a 0
/-- the cells that are not unmixed -/
def mxB (X : gM) (i w q : Nat) : Bool := decide (¬ cntP (cmB (X 56 0) (X 54 0) (X 55 0) (32 * i + 8 * (q / w) + q % w)) 100 = 1)
theorem cntW_le (P : Nat → Bool) (n : Nat) : cntP P n ≤ n := by
  induction n with
  | zero => exact Nat.le_refl _
  | succ n ih =>
    unfold cntP
    split <;> omega
theorem isUnmixed_eq {al : Nat → Nat → Bool} {N A : Nat} {X : gM} : X0_isUnmixed al N A X = some (if X 7 A 4 = -1 then 0 else 1, X) := by
  unfold X0_isUnmixed
  by_cases c : X 7 A 4 = -1
  · rw [if_pos c, if_pos c]; rfl
  · rw [if_neg c, if_neg c]; rfl
theorem mU_mW {im ov un : Nat → Int32} {b : Nat} : mU im ov un b = -1 ↔ ¬ cntP (cmB im ov un b) 100 = 1 := by
  unfold mU
  by_cases c : cntP (cmB im ov un b) 100 = 1
  · rw [if_pos c]
    have : lastP (cmB im ov un b) 100 % 10 < 10 := Nat.mod_lt _ (by omega)
    exact ⟨fun q => absurd q (zn_ne1 (by omega)), fun q => absurd c q⟩
  · rw [if_neg c]
    exact ⟨fun _ => c, fun _ => rfl⟩
theorem mixed_class {al : Nat → Nat → Bool} {N i ln w : Nat} {X : gM} (hN : 1000 ≤ N) (hln : ln ≤ 4) (hw : w ≤ 8) (hw1 : 1 ≤ w) (hi : i < 10) (h6 : ∀ j, X 6 i j = if j < ln * w then nI (32 * i + j) else -1) (hal : ∀ j, j < ln * w → al 7 (32 * i + j) = true) (h7 : ∀ l c, l < ln → c < w → X 7 (32 * i + (l * w + c)) 4 = mU (X 56 0) (X 54 0) (X 55 0) (32 * i + 8 * l + c)) :
    X2_mixedCells al N i X = some (nI (cntP (mxB X i w) (ln * w)), X) := by
  have e32 : ln * w ≤ 4 * 8 := Nat.mul_le_mul hln hw
  unfold X2_mixedCells
  refine m_up0 32 (fun fu j (c : Int32) => X2_mixedCells_L13 al N (fun p1 Y => X2_mixedCells_J47 al N p1 Y) fu c i 32 j X)
    (fun j c => c = nI (cntP (mxB X i w) (if j < ln * w then j else ln * w))) (fun o => o = some (nI (cntP (mxB X i w) (ln * w)), X)) 0 (by omega) ?_ ?_ ?_
  · rintro j fu c hj rfl ih
    have n32 : ¬ (32 : Int32) ≤ nI j := fun q => by
      have := (zn_lle (k := 32) (by omega) (by decide)).mp q
      have e8 : (OfNat.ofNat 32 : Nat) = 32 := rfl
      omega
    show X2_mixedCells_L13 al N (fun p1 Y => X2_mixedCells_J47 al N p1 Y) (fu + 1) _ i 32 (nI j) X = _
    unfold X2_mixedCells_L13
    rw [if_neg n32, rd_nI hj (by omega), Option.bind_some, h6]
    by_cases c : j < ln * w
    · have hq : j / w < ln := Nat.div_lt_of_lt_mul (by rw [Nat.mul_comm]; exact c)
      have hr : j % w < w := Nat.mod_lt _ (by omega)
      have ej : j / w * w + j % w = j := by rw [Nat.mul_comm]; exact Nat.div_add_mod j w
      have e7 := h7 (j / w) (j % w) hq hr
      rw [ej] at e7
      have ee : (if j + 1 < ln * w then j + 1 else ln * w) = j + 1 := by
        by_cases c2 : j + 1 < ln * w
        · rw [if_pos c2]
        · rw [if_neg c2]; omega
      have hcn : cntP (mxB X i w) (j + 1) = cntP (mxB X i w) j + (if mxB X i w j = true then 1 else 0) := rfl
      rw [if_pos c, if_pos c, if_neg (zn_nn (by omega)), dr_nI (hal j c) (by omega), Option.bind_some, isUnmixed_eq, bind2_some, e7]
      by_cases c3 : cntP (cmB (X 56 0) (X 54 0) (X 55 0) (32 * i + 8 * (j / w) + j % w)) 100 = 1
      · have hb : mxB X i w j = false := decide_eq_false (fun q => q c3)
        rw [if_neg (fun q => mU_mW.mp q c3), if_neg (by decide)]
        show X2_mixedCells_L13 al N _ fu _ i 32 (nI j + 1) X = _
        rw [zn_a1]
        refine ih _ ?_
        show _ = nI (cntP (mxB X i w) (if j + 1 < ln * w then j + 1 else ln * w))
        rw [ee, hcn, hb]
        rfl
      · have hb : mxB X i w j = true := decide_eq_true c3
        rw [if_pos (mU_mW.mpr c3), if_pos rfl, gl_eq]
        show X2_mixedCells_L13 al N _ fu _ i 32 (nI j + 1) X = _
        rw [zn_a1, zn_a1]
        refine ih _ ?_
        show _ = nI (cntP (mxB X i w) (if j + 1 < ln * w then j + 1 else ln * w))
        rw [ee, hcn, hb]
        rfl
    · rw [if_neg c, if_neg c, if_pos (by decide)]
      show X2_mixedCells_L13 al N _ fu _ i 32 (nI j + 1) X = _
      rw [zn_a1]
      refine ih _ ?_
      show _ = nI (cntP (mxB X i w) (if j + 1 < ln * w then j + 1 else ln * w))
      rw [if_neg (by omega)]
  · rintro fu c hc
    have hc' : c = nI (cntP (mxB X i w) (if 32 < ln * w then 32 else ln * w)) := hc
    rw [if_neg (by omega)] at hc'
    show X2_mixedCells_L13 al N (fun p1 Y => X2_mixedCells_J47 al N p1 Y) (fu + 1) c i 32 (nI 32) X = _
    unfold X2_mixedCells_L13
    rw [if_pos (by decide), hc']
    rfl
  · have e : (if 0 < ln * w then 0 else ln * w) = 0 := by
      by_cases c : 0 < ln * w
      · rw [if_pos c]
      · rw [if_neg c]; omega
    rw [e]
    rfl
theorem mixed_model {al : Nat → Nat → Bool} {N i ln w : Nat} {G : gM} {p1 p2 : Int32} (hN : 1000 ≤ N) (hln : ln ≤ 4) (hw : w ≤ 8) (hw1 : 1 ≤ w) (hi : i < 10) (h45 : G 45 0 i = nI ln) (h46 : G 46 0 i = nI w) (k : Int32 → Int32 → Int32 → Int32 → gM → Option (Int32 × gM)) (Q : Option (Int32 × gM) → Prop) {Z : gM} (hZ : ∀ k p j, ¬ (k = 43 ∧ (j = 29 ∨ j = 30)) → Z k p j = G k p j)
    (hQ : ∀ Y, (∀ k p j, ¬ (k = 43 ∧ (j = 29 ∨ j = 30)) → Y k p j = G k p j) → Q (k p1 p2 (nI i) (nI (cntP (mxB G i w) (ln * w))) Y)) : Q (X10_worth_L47 al N k N p1 p2 (nI i) 0 0 Z) := by
  have e32 : ln * w ≤ 4 * 8 := Nat.mul_le_mul hln hw
  refine m_up0 (ln * w) (fun fu q (s : Int32 × gM) => X10_worth_L47 al N k fu p1 p2 (nI i) s.1 q s.2)
    (fun q s => s.1 = nI (cntP (mxB G i w) q) ∧ ∀ k p j, ¬ (k = 43 ∧ (j = 29 ∨ j = 30)) → s.2 k p j = G k p j) Q (0, Z) (by omega) ?_ ?_ ⟨rfl, hZ⟩
  · rintro q fu ⟨c, y⟩ hq ⟨h1, h2⟩ ih
    simp only at h1 h2
    subst h1
    have e45 : y 45 0 i = nI ln := by rw [h2 45 0 i (by omega), h45]
    have e46 : y 46 0 i = nI w := by rw [h2 46 0 i (by omega), h46]
    have nq : ¬ nI (ln * w) ≤ nI q := fun z => by
      have := (zn_le (by omega) (by omega)).mp z
      omega
    have hwn : ¬ nI w = (0 : Int32) := fun z => by
      have := (zn_eql (k := 0) (by omega) (by decide)).mp z
      have e8 : (OfNat.ofNat 0 : Nat) = 0 := rfl
      omega
    have hql : q / w < ln := Nat.div_lt_of_lt_mul (by rw [Nat.mul_comm]; exact hq)
    have hr : q % w < w := Nat.mod_lt _ (by omega)
    have ej : q / w * w + q % w = q := by rw [Nat.mul_comm]; exact Nat.div_add_mod q w
    have er : nI q - nI q / nI w * nI w = nI (q % w) := by
      rw [zn_div (by omega) (by omega), zn_mul, zn_sub (by omega)]
      congr 1
      omega
    show Q (X10_worth_L47 al N k (fu + 1) p1 p2 (nI i) (nI (cntP (mxB G i w) q)) (nI q) y)
    unfold X10_worth_L47
    rw [rd_nI hi (by omega), Option.bind_some, Option.bind_some, e45, e46, zn_mul, if_neg nq, Option.bind_some, e46, nz_some hwn, Option.bind_some, Option.bind_some, e46, nz_some hwn, Option.bind_some, er, zn_div (by omega) (by omega)]
    unfold X10_cellAt
    have ec : (32 : Int32) * nI i + 8 * nI (q / w) + nI (q % w) = nI (32 * i + 8 * (q / w) + q % w) := by
      rw [zn_lmul, zn_lmul, zn_add, zn_add]
    rw [bind2_some, ec]
    obtain ⟨Y, y1, y2, -⟩ := X10_unmixes_eq (al := al) (N := N) (b := 32 * i + 8 * (q / w) + q % w) (X := y) hN (by omega)
    have e56 : y 56 0 = G 56 0 := funext fun j => h2 56 0 j (by omega)
    have e54 : y 54 0 = G 54 0 := funext fun j => h2 54 0 j (by omega)
    have e55 : y 55 0 = G 55 0 := funext fun j => h2 55 0 j (by omega)
    rw [e56, e54, e55] at y1
    have hcn : cntP (mxB G i w) (q + 1) = cntP (mxB G i w) q + (if mxB G i w q = true then 1 else 0) := rfl
    have hfr : ∀ k p j, ¬ (k = 43 ∧ (j = 29 ∨ j = 30)) → Y k p j = G k p j := fun k p j hk => by rw [y2 k p j hk, h2 k p j hk]
    rw [y1, bind2_some]
    by_cases c3 : cntP (cmB (G 56 0) (G 54 0) (G 55 0) (32 * i + 8 * (q / w) + q % w)) 100 = 1
    · have hb : mxB G i w q = false := decide_eq_false (fun z => z c3)
      rw [if_pos c3, if_neg (by decide)]
      show Q (X10_worth_L47 al N k fu p1 p2 (nI i) (nI (cntP (mxB G i w) q) + 0) (nI q + 1) Y)
      rw [zn_a1, zn_a0]
      refine ih (_, Y) ⟨?_, hfr⟩
      rw [hcn, hb]
      rfl
    · have hb : mxB G i w q = true := decide_eq_true c3
      rw [if_neg c3, if_pos rfl]
      show Q (X10_worth_L47 al N k fu p1 p2 (nI i) (nI (cntP (mxB G i w) q) + 1) (nI q + 1) Y)
      rw [zn_a1, zn_a1]
      refine ih (_, Y) ⟨?_, hfr⟩
      rw [hcn, hb]
      rfl
  · rintro fu ⟨c, y⟩ ⟨h1, h2⟩
    simp only at h1 h2
    subst h1
    have e45 : y 45 0 i = nI ln := by rw [h2 45 0 i (by omega), h45]
    have e46 : y 46 0 i = nI w := by rw [h2 46 0 i (by omega), h46]
    show Q (X10_worth_L47 al N k (fu + 1) p1 p2 (nI i) (nI (cntP (mxB G i w) (ln * w))) (nI (ln * w)) y)
    unfold X10_worth_L47
    rw [rd_nI hi (by omega), Option.bind_some, Option.bind_some, e45, e46, zn_mul, if_pos (Int32.le_refl _)]
    exact hQ y h2
theorem many_256 : ∀ n, n < 256 → nI n &&& 1 = nI (n % 2) ∧ nI n >>> ((1 : Int32) &&& 31) = nI (n / 2) := by decide +kernel
theorem many_L {al : Nat → Nat → Bool} {N : Nat} {X : gM} (k : Int32 → gM → Option (Int32 × gM)) : ∀ (t n c fu : Nat), n < 2 ^ t → t ≤ 8 → t < fu → X10_many_L4 al N k fu (nI c) (nI n) X = k (nI (c + popk t n)) X := by
  intro t
  induction t with
  | zero =>
    intro n c fu h1 h2 h3
    obtain ⟨fu, rfl⟩ : ∃ f, fu = f + 1 := ⟨fu - 1, by omega⟩
    have : n = 0 := by simpa using h1
    subst this
    unfold X10_many_L4
    rw [if_pos (by decide)]
    rfl
  | succ t ih =>
    intro n c fu h1 h2 h3
    obtain ⟨fu, rfl⟩ : ∃ f, fu = f + 1 := ⟨fu - 1, by omega⟩
    have h256 : n < 256 := Nat.lt_of_lt_of_le h1 (Nat.pow_le_pow_right (by omega) h2)
    unfold X10_many_L4
    by_cases c0 : n = 0
    · subst c0
      rw [if_pos (by decide)]
      have : ∀ t, popk t 0 = 0 := fun t => by
        induction t with
        | zero => rfl
        | succ t ih =>
          show 0 % 2 + popk t (0 / 2) = 0
          rw [Nat.zero_div, ih]
      rw [this]
      rfl
    · have n0 : ¬ nI n ≤ (0 : Int32) := fun q => by
        have := (zn_lel (k := 0) (by omega) (by decide)).mp q
        have e0 : (OfNat.ofNat 0 : Nat) = 0 := rfl
        omega
      obtain ⟨q1, q2⟩ := many_256 n h256
      rw [if_neg n0, gl_eq, gl_eq, q1, q2, zn_add, ih (n / 2) (c + n % 2) fu (by rw [Nat.pow_succ] at h1; omega) (by omega) (by omega)]
      congr 2
      show c + n % 2 + popk t (n / 2) = c + (n % 2 + popk t (n / 2))
      omega
theorem X10_many_eq {al : Nat → Nat → Bool} {N n : Nat} {X : gM} (hN : 1000 ≤ N) (hn : n < 256) : X10_many al N (nI n) X = some (nI (popk 8 n), X) := by
  unfold X10_many
  have := many_L (al := al) (N := N) (X := X) (fun p1 Y => X10_many_J21 al N p1 Y) 8 n 0 N (by omega) (by omega) (by omega)
  rw [Nat.zero_add] at this
  exact this
