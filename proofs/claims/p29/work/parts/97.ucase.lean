/-! rests -/
def popk : Nat → Nat → Nat
  | 0, _ => 0
  | k + 1, n => n % 2 + popk k (n / 2)
def bcE (p0 : Int32) : Int32 :=
  let v1 := p0 - ((p0.toUInt32 >>> ((1 : Int32).toUInt32 &&& Int32.toUInt32 31)).toInt32 &&& (1431655765 : Int32))
  let v3 := (v1 &&& (858993459 : Int32)) + ((v1.toUInt32 >>> ((2 : Int32).toUInt32 &&& Int32.toUInt32 31)).toInt32 &&& (858993459 : Int32))
  let v5 := (v3 + (v3.toUInt32 >>> ((4 : Int32).toUInt32 &&& Int32.toUInt32 31)).toInt32) &&& (252645135 : Int32)
  let v7 := v5 + (v5.toUInt32 >>> ((8 : Int32).toUInt32 &&& Int32.toUInt32 31)).toInt32
  let v9 := v7 + (v7.toUInt32 >>> ((16 : Int32).toUInt32 &&& Int32.toUInt32 31)).toInt32
  v9 &&& (63 : Int32)
theorem bcE_eq (al : Nat → Nat → Bool) (N : Nat) (p : Int32) (X : gM) : J6_bitCount_0f7a4 al N p X = some (bcE p, X) := rfl
theorem bcE_256 : ∀ n, n < 256 → bcE (nI n) = nI (popk 8 n) := by decide +kernel
theorem one_256 : ∀ n, n < 256 → (popk 8 n = 1 ↔ ¬ nI n = (0 : Int32) ∧ nI n &&& (nI n - 1) = 0) := by decide +kernel
theorem pop_8 : ∀ n, n < 256 → popk 8 n ≤ 8 := by decide +kernel
theorem isOne_eq (al : Nat → Nat → Bool) (N : Nat) (p : Int32) (X : gM) : X10_isOne al N p X = some (if ¬ p = 0 ∧ p &&& (p - 1) = 0 then 1 else 0, X) := by
  unfold X10_isOne X10_isOne_J16
  by_cases c : p = 0
  · rw [if_pos c, if_neg (fun q => q.1 c)]; rfl
  · rw [if_neg c]
    by_cases c2 : p &&& (p - 1) = 0
    · rw [if_pos c2, if_pos ⟨c, c2⟩]; rfl
    · rw [if_neg c2, if_neg (fun q => c2 q.2)]; rfl
theorem mask_small {m : Int32} (h : ∀ v, 8 ≤ v → v < 32 → mb m v = false) : ∃ n, n < 256 ∧ m = nI n := by
  refine ⟨m.toBitVec.toNat, ?_, ?_⟩
  · refine Nat.lt_pow_two_of_testBit (n := 8) _ fun i hi => ?_
    by_cases c : i < 32
    · exact h i hi c
    · exact BitVec.getLsbD_of_ge m.toBitVec i (by omega)
  · refine Int32.toBitVec_inj.mp ?_
    show m.toBitVec = BitVec.ofNat 32 m.toBitVec.toNat
    rw [BitVec.ofNat_toNat, BitVec.setWidth_eq]
theorem mask_n {m : Int32} {P l : Nat} {ls : List Nat} {Ψ : (Nat → Nat) → Prop} (hP : P ≤ 8) (hl : l ∈ ls) (h : ∀ v, v < 32 → (mb m v = true ↔ nc P (fun a => Ψ a ∧ a l = v) ls a00 ≠ 0)) : ∃ n, n < 256 ∧ m = nI n := by
  refine mask_small fun v h8 h32 => ?_
  cases c : mb m v with
  | false => rfl
  | true =>
    refine absurd (nc_none ls a00 fun b hb hq => ?_) ((h v h32).mp c)
    have := hb.1 l hl
    have := hq.2
    omega
/-- the facts on which something rests -/
def rsA (B : Nat → Prop) : Nat → Int32 → Prop
  | 0, r => r = 0
  | n + 1, r => ∃ r', rsA B n r' ∧ ((B n ∧ r = r' ||| ((1 : Int32) <<< (nI n &&& 31))) ∨ (¬ B n ∧ r = r'))
theorem rsA_u {B : Nat → Prop} : ∀ {n : Nat} {r r' : Int32}, rsA B n r → rsA B n r' → r = r' := by
  intro n
  induction n with
  | zero => intro r r' h h'; exact Eq.trans h (Eq.symm h')
  | succ n ih =>
    rintro r r' ⟨q, h1, h2⟩ ⟨q', h1', h2'⟩
    have := ih h1 h1'
    subst this
    rcases h2 with ⟨b, h2⟩ | ⟨b, h2⟩ <;> rcases h2' with ⟨b', h2'⟩ | ⟨b', h2'⟩
    · rw [h2, h2']
    · exact absurd b b'
    · exact absurd b' b
    · rw [h2, h2']
theorem rests_class {al : Nat → Nat → Bool} {N F s x : Nat} {X : gM} {m : Int32} (hN : 1000 ≤ N) (hF : F ≤ 12) (hx : x < 10) (hs : s < 6) (has : al 14 s = true) (h22 : ∀ j, X 22 0 j = if j < F then nI j else -1) (hal : ∀ f, f < F → al 23 f = true ∧ X 23 f 0 = nI f) :
    ∃ r, X9_rests_L65 al N (fun p5 Y => X9_rests_J120 al N p5 Y) N (nI x) m (nI s) 0 12 0 X = some (0, r, X) ∧ rsA (fun f => ¬ X 17 s (10 * f + x) &&& (m ^^^ (-1)) = 0) F r := by
  refine m_up0 12 (fun fu i (r : Int32) => X9_rests_L65 al N (fun p5 Y => X9_rests_J120 al N p5 Y) fu (nI x) m (nI s) r 12 i X)
    (fun i r => rsA (fun f => ¬ X 17 s (10 * f + x) &&& (m ^^^ (-1)) = 0) (if i < F then i else F) r) (fun o => ∃ r, o = some (0, r, X) ∧ rsA (fun f => ¬ X 17 s (10 * f + x) &&& (m ^^^ (-1)) = 0) F r) 0 (by omega) ?_ ?_ ?_
  · rintro i fu r hi hI ih
    have n12 : ¬ (12 : Int32) ≤ nI i := fun q => by
      have := (zn_lle (k := 12) (by omega) (by decide)).mp q
      have e8 : (OfNat.ofNat 12 : Nat) = 12 := rfl
      omega
    show ∃ r', X9_rests_L65 al N (fun p5 Y => X9_rests_J120 al N p5 Y) (fu + 1) (nI x) m (nI s) r 12 (nI i) X = some (0, r', X) ∧ _
    unfold X9_rests_L65
    rw [if_neg n12, rd_nI hi (by omega), Option.bind_some, h22]
    by_cases c : i < F
    · obtain ⟨q1, q2⟩ := hal i c
      have ei : nI i * (10 : Int32) + nI x = nI (10 * i + x) := by
        rw [zn_mull, zn_add]
        show nI (i * 10 + x) = _
        congr 1
        omega
      have ee : (if i + 1 < F then i + 1 else F) = i + 1 := by
        by_cases c2 : i + 1 < F
        · rw [if_pos c2]
        · rw [if_neg c2]; omega
      rw [if_pos c] at hI
      rw [if_pos c, if_neg (zn_nn (by omega)), dr_nI q1 (by omega), Option.bind_some, dr_nI has (by omega), Option.bind_some, q2]
      unfold X7_sparedSeats
      rw [ei, rd_nI (by omega) (by omega), Option.bind_some, bind2_some]
      by_cases c2 : X 17 s (10 * i + x) &&& (m ^^^ (-1)) = 0
      · rw [if_pos c2]
        show ∃ r', X9_rests_L65 al N _ fu (nI x) m (nI s) r 12 (nI i + 1) X = some (0, r', X) ∧ _
        rw [zn_a1]
        refine ih r ?_
        show rsA _ (if i + 1 < F then i + 1 else F) r
        rw [ee]
        exact ⟨r, hI, Or.inr ⟨fun q => q c2, rfl⟩⟩
      · rw [if_neg c2, gl_eq, q2]
        show ∃ r', X9_rests_L65 al N _ fu (nI x) m (nI s) (r ||| ((1 : Int32) <<< (nI i &&& 31))) 12 (nI i + 1) X = some (0, r', X) ∧ _
        rw [zn_a1]
        refine ih _ ?_
        show rsA _ (if i + 1 < F then i + 1 else F) _
        rw [ee]
        exact ⟨r, hI, Or.inl ⟨c2, rfl⟩⟩
    · rw [if_neg c] at hI
      rw [if_neg c, if_pos (by decide)]
      show ∃ r', X9_rests_L65 al N _ fu (nI x) m (nI s) r 12 (nI i + 1) X = some (0, r', X) ∧ _
      rw [zn_a1]
      refine ih r ?_
      show rsA _ (if i + 1 < F then i + 1 else F) r
      rw [if_neg (by omega)]
      exact hI
  · rintro fu r hI
    have hI' : rsA (fun f => ¬ X 17 s (10 * f + x) &&& (m ^^^ (-1)) = 0) (if 12 < F then 12 else F) r := hI
    rw [if_neg (by omega)] at hI'
    show ∃ r', X9_rests_L65 al N (fun p5 Y => X9_rests_J120 al N p5 Y) (fu + 1) (nI x) m (nI s) r 12 (nI 12) X = some (0, r', X) ∧ _
    unfold X9_rests_L65
    rw [if_pos (by decide)]
    exact ⟨r, rfl, hI'⟩
  · have e : (if 0 < F then 0 else F) = 0 := by
      by_cases c : 0 < F
      · rw [if_pos c]
      · rw [if_neg c]; omega
    rw [e]
    rfl
/-- the masks with one fact left out -/
theorem mask_out {X : gM} {P F f x : Nat} {ls : List Nat} {m sp mf : Int32} (hF : F ≤ 12) (hf : f < F) (h1 : ∀ v, v < 32 → (mb m v = true ↔ nc P (fun a => fit X F P ls false 99 a ∧ a x = v) ls a00 ≠ 0)) (h2 : ∀ v, v < 32 → (mb sp v = true ↔ nc P (fun a => fito X F P ls f a ∧ a x = v) ls a00 ≠ 0)) (h3 : ∀ v, v < 32 → (mb mf v = true ↔ nc P (fun a => fit X F P ls false f a ∧ a x = v) ls a00 ≠ 0)) : mf = m ↔ sp &&& (m ^^^ (-1)) = 0 := by
  have key : ∀ v, v < 32 → (mb mf v = true ↔ mb m v = true ∨ mb sp v = true) := fun v hv => by
    have e : nc P (fun a => fit X F P ls false f a ∧ a x = v) ls a00 = nc P (fun a => fit X F P ls false 99 a ∧ a x = v) ls a00 + nc P (fun a => fito X F P ls f a ∧ a x = v) ls a00 := by
      rw [← nc_add ls a00 (fun b hb q => q.1.1.2 f q.2.1.2.1 (by omega) q.2.1.2.2.1)]
      refine nc_cgv ls _ fun b hb => ?_
      constructor
      · rintro ⟨⟨q1, q2⟩, q3⟩
        by_cases c : cts X F ls false f ∧ brk X P f b
        · exact Or.inr ⟨⟨q1, c.1, c.2, q2⟩, q3⟩
        · refine Or.inl ⟨⟨q1, fun g hg _ hbr => ?_⟩, q3⟩
          by_cases e : g = f
          · subst e
            exact c ⟨hg, hbr⟩
          · exact q2 g hg e hbr
      · rintro (⟨⟨q1, q2⟩, q3⟩ | ⟨⟨q1, q2, q4, q5⟩, q3⟩)
        · exact ⟨⟨q1, fun g hg _ => q2 g hg (by have := hg.1; omega)⟩, q3⟩
        · exact ⟨⟨q1, q5⟩, q3⟩
    rw [h3 v hv, h1 v hv, h2 v hv, e]
    omega
  constructor
  · intro e
    rw [b_eq0]
    intro v hv
    rw [b_and, b_xor, b_m1 v hv]
    have := key v hv
    rw [e, mb_bt, mb_bt] at this
    cases c1 : bt sp v
    · rfl
    · have c2 : bt m v = true := this.mpr (Or.inr c1)
      rw [c2]
      rfl
  · intro e
    refine b_ext fun v hv => ?_
    have k := key v hv
    have e' := (b_eq0 _).mp e v hv
    rw [b_and, b_xor, b_m1 v hv] at e'
    rw [mb_bt, mb_bt, mb_bt] at k
    cases c1 : bt m v
    · rw [c1] at e' k
      have c2 : bt sp v = false := by
        cases c3 : bt sp v
        · rfl
        · rw [c3] at e'; cases e'
      rw [c2] at k
      cases c3 : bt mf v
      · rfl
      · exact absurd (k.mp c3) (by decide)
    · exact k.mpr (Or.inl c1)
