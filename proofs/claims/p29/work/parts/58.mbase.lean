/-! the mathematics: running the functions forward -/
theorem zn_add (a b : Nat) : nI a + nI b = nI (a + b) := (Int32.ofNat_add a b).symm
theorem zn_mul (a b : Nat) : nI a * nI b = nI (a * b) := (Int32.ofNat_mul a b).symm
theorem zn_sub {a b : Nat} (h : b ≤ a) : nI a - nI b = nI (a - b) := (Int32.ofNat_sub a b h).symm
theorem lit_nI (k : Nat) : (no_index (OfNat.ofNat k) : Int32) = nI k := rfl
theorem zn_addl (a k : Nat) : nI a + (no_index (OfNat.ofNat k) : Int32) = nI (a + (OfNat.ofNat k : Nat)) := zn_add a k
theorem zn_ladd (a k : Nat) : (no_index (OfNat.ofNat k) : Int32) + nI a = nI ((OfNat.ofNat k : Nat) + a) := zn_add k a
theorem zn_mull (a k : Nat) : nI a * (no_index (OfNat.ofNat k) : Int32) = nI (a * (OfNat.ofNat k : Nat)) := zn_mul a k
theorem zn_lmul (a k : Nat) : (no_index (OfNat.ofNat k) : Int32) * nI a = nI ((OfNat.ofNat k : Nat) * a) := zn_mul k a
theorem zn_subl {a k : Nat} (h : (OfNat.ofNat k : Nat) ≤ a) : nI a - (no_index (OfNat.ofNat k) : Int32) = nI (a - (OfNat.ofNat k : Nat)) := zn_sub h
theorem zn_m1 {a : Nat} (h : 1 ≤ a) : nI a + (-1 : Int32) = nI (a - 1) := by
  have : nI a + (-1 : Int32) = nI a - 1 := by rw [Int32.sub_eq_add_neg]
  rw [this]; exact zn_subl (k := 1) h
theorem zn_0m : nI 0 + (-1 : Int32) = -1 := rfl
theorem zn_0s : nI 0 - (1 : Int32) = -1 := rfl
theorem zn_tN {a : Nat} (h : a < 2147483648) : (nI a).toNatClampNeg = a := Int32.toNatClampNeg_ofNat_of_lt h
theorem zn_tI {a : Nat} (h : a < 2147483648) : (nI a).toInt = a := Int32.toInt_ofNat_of_lt h
theorem zn_le {a b : Nat} (ha : a < 2147483648) (hb : b < 2147483648) : nI a ≤ nI b ↔ a ≤ b := Int32.ofNat_le_iff_le ha hb
theorem zn_lt {a b : Nat} (ha : a < 2147483648) (hb : b < 2147483648) : nI a < nI b ↔ a < b := Int32.ofNat_lt_iff_lt ha hb
theorem zn_eq {a b : Nat} (ha : a < 2147483648) (hb : b < 2147483648) : nI a = nI b ↔ a = b := by
  constructor
  · intro h; rw [← zn_tN ha, ← zn_tN hb, h]
  · rintro rfl; rfl
theorem zn_lel {a k : Nat} (ha : a < 2147483648) (hb : (OfNat.ofNat k : Nat) < 2147483648) : nI a ≤ (no_index (OfNat.ofNat k) : Int32) ↔ a ≤ (OfNat.ofNat k : Nat) := zn_le ha hb
theorem zn_ltl {a k : Nat} (ha : a < 2147483648) (hb : (OfNat.ofNat k : Nat) < 2147483648) : nI a < (no_index (OfNat.ofNat k) : Int32) ↔ a < (OfNat.ofNat k : Nat) := zn_lt ha hb
theorem zn_eql {a k : Nat} (ha : a < 2147483648) (hb : (OfNat.ofNat k : Nat) < 2147483648) : nI a = (no_index (OfNat.ofNat k) : Int32) ↔ a = (OfNat.ofNat k : Nat) := zn_eq ha hb
theorem zn_lle {a k : Nat} (ha : a < 2147483648) (hb : (OfNat.ofNat k : Nat) < 2147483648) : (no_index (OfNat.ofNat k) : Int32) ≤ nI a ↔ (OfNat.ofNat k : Nat) ≤ a := zn_le hb ha
theorem zn_llt {a k : Nat} (ha : a < 2147483648) (hb : (OfNat.ofNat k : Nat) < 2147483648) : (no_index (OfNat.ofNat k) : Int32) < nI a ↔ (OfNat.ofNat k : Nat) < a := zn_lt hb ha
theorem zn_leq {a k : Nat} (ha : a < 2147483648) (hb : (OfNat.ofNat k : Nat) < 2147483648) : (no_index (OfNat.ofNat k) : Int32) = nI a ↔ (OfNat.ofNat k : Nat) = a := zn_eq hb ha
theorem zn_nn {a : Nat} (h : a < 2147483648) : ¬ nI a < 0 := by
  intro h2
  exact Nat.not_lt_zero _ ((zn_ltl (k := 0) h (by decide)).mp h2)
theorem zn_ne1 {a : Nat} (h : a < 2147483648) : ¬ nI a = -1 := by
  intro h2
  have h3 := zn_tI h
  rw [h2] at h3
  have : (-1 : Int32).toInt = -1 := rfl
  omega
theorem rd_nI {a n : Nat} (h : a < n) (h2 : n < 2147483648) : rd (nI a) n = some a := by
  unfold rd
  rw [zn_tN (by omega), if_neg]
  rintro (h3 | h3)
  · exact zn_nn (by omega) h3
  · omega
theorem rd_l {k n : Nat} (h : (OfNat.ofNat k : Nat) < n) (h2 : n < 2147483648) : rd (no_index (OfNat.ofNat k) : Int32) n = some (OfNat.ofNat k : Nat) := rd_nI h h2
theorem dr_nI {al : Nat → Nat → Bool} {K a : Nat} (h : al K a = true) (h2 : a < 2147483648) : dr al K (nI a) = some a := by
  unfold dr
  rw [zn_tN h2, if_neg (zn_nn h2), if_pos h]
theorem rn_some {a : Nat} (h : a < 2147483648) : rn a = some (nI a) := by
  unfold rn
  rw [if_pos h]
theorem bz_0 : bz (0 : Int32) = some 0 := rfl
theorem bz_1 : bz (1 : Int32) = some 1 := rfl
theorem bz_01 {v : Int32} (h : v = 0 ∨ v = 1) : bz v = some v := by unfold bz; rw [if_pos h]
theorem nz_some {v : Int32} (h : ¬ v = 0) : nz v = some v := by unfold nz; rw [if_neg h]
theorem gl_eq {α β : Type} (a : α) (f : α → β) : gl a f = f a := rfl
theorem bind2_some {α : Type} (a : Int32) (X : gM) (f : Int32 → gM → Option α) : bind2 (some (a, X)) f = f a X := rfl
theorem bind3_some {α : Type} (k : Nat) (a : Int32) (X : gM) (f : Nat → Int32 → gM → Option α) : bind3 (some (k, a, X)) f = f k a X := rfl
theorem mset_at (X : gM) (K i j : Nat) (v : Int32) (K' i' j' : Nat) : mset X K i j v K' i' j' = if K' = K ∧ i' = i ∧ j' = j then v else X K' i' j' := by
  unfold mset
  by_cases h : K' = K ∧ i' = i
  · rw [if_pos h]
    obtain ⟨rfl, rfl⟩ := h
    simp [upd]
  · rw [if_neg h, if_neg]
    rintro ⟨h1, h2, _⟩
    exact h ⟨h1, h2⟩
theorem msl_at (X : gM) (K i : Nat) (x : Nat → Int32) (K' i' j' : Nat) : msl X K i x K' i' j' = if K' = K ∧ i' = i then x j' else X K' i' j' := by
  unfold msl
  by_cases h : K' = K ∧ i' = i
  · rw [if_pos h, if_pos h]
  · rw [if_neg h, if_neg h]
theorem mfill_at (X : gM) (K i n : Nat) (v : Int32) (K' i' j' : Nat) : mfill X K i n v K' i' j' = if K' = K ∧ i' = i ∧ j' < n then v else X K' i' j' := by
  unfold mfill
  rw [msl_at]
  by_cases h : K' = K ∧ i' = i
  · obtain ⟨rfl, rfl⟩ := h
    simp
  · rw [if_neg h, if_neg]
    rintro ⟨h1, h2, _⟩
    exact h ⟨h1, h2⟩
theorem mset_row {X : gM} {K i j K' i' : Nat} {v : Int32} (h : K' ≠ K) : mset X K i j v K' i' = X K' i' := mset_ne (fun q => h q.1)
theorem i10 : ((1 : Int32) = 0) = False := by decide
theorem i01 : ((0 : Int32) = 1) = False := by decide
theorem im0 : ((-1 : Int32) = 0) = False := by decide
theorem im1 : ((-1 : Int32) = 1) = False := by decide
theorem i0m : ((0 : Int32) = -1) = False := by decide
theorem i1m : ((1 : Int32) = -1) = False := by decide
theorem j00 : ((0 : Int32) ≤ 0) = True := by decide
theorem j10 : ((1 : Int32) ≤ 0) = False := by decide
theorem j20 : ((2 : Int32) ≤ 0) = False := by decide
theorem j30 : ((3 : Int32) ≤ 0) = False := by decide
theorem k00 : ((0 : Int32) < 0) = False := by decide
theorem k01 : ((0 : Int32) < 1) = True := by decide
theorem k02 : ((0 : Int32) < 2) = True := by decide
theorem k03 : ((0 : Int32) < 3) = True := by decide
theorem i20 : ((2 : Int32) = 0) = False := by decide
theorem i30 : ((3 : Int32) = 0) = False := by decide
theorem km0 : ((-1 : Int32) < 0) = True := by decide
theorem upd_at (f : Nat → Int32) (k : Nat) (x : Int32) (j : Nat) : upd f k x j = if j = k then x else f j := rfl
/-- a boolean answer -/
theorem ib_0 {α : Type} {c : Prop} [Decidable c] (A B : α) : (if (if c then (1 : Int32) else 0) = 0 then A else B) = if c then B else A := by
  by_cases h : c
  · rw [if_pos h, if_pos h, if_neg (by decide)]
  · rw [if_neg h, if_neg h, if_pos rfl]
theorem ib_1 {α : Type} {c : Prop} [Decidable c] (A B : α) : (if (if c then (1 : Int32) else 0) = 1 then A else B) = if c then A else B := by
  by_cases h : c
  · rw [if_pos h, if_pos h, if_pos rfl]
  · rw [if_neg h, if_neg h, if_neg (by decide)]
theorem ib_bz {c : Prop} [Decidable c] : bz (if c then (1 : Int32) else 0) = some (if c then 1 else 0) := by
  by_cases h : c
  · rw [if_pos h]; rfl
  · rw [if_neg h]; rfl
theorem not_lt32 {a b : Int32} : ¬ a < b ↔ b ≤ a := Int32.not_lt
theorem not_le32 {a b : Int32} : ¬ a ≤ b ↔ b < a := Int32.not_le
/-- an argument in a range -/
theorem zn_of {p : Int32} {n : Nat} (hn : n < 2147483648) (h0 : 0 ≤ p) (h : p < nI n) : ∃ i, i < n ∧ p = nI i := by
  obtain ⟨h1, h2⟩ := nI_of0 (v := p) (by rw [not_lt32]; exact h0)
  refine ⟨p.toNatClampNeg, ?_, h1⟩
  rw [h1] at h
  exact (zn_lt h2 hn).mp h
theorem zn_ofl {p : Int32} {k : Nat} (hn : k < 2147483647) (h0 : 0 ≤ p) (h : p ≤ (no_index (OfNat.ofNat k) : Int32)) : ∃ i, i ≤ k ∧ p = nI i := by
  obtain ⟨h1, h2⟩ := nI_of0 (v := p) (by rw [not_lt32]; exact h0)
  refine ⟨p.toNatClampNeg, ?_, h1⟩
  rw [h1] at h
  exact (zn_lel h2 (show (OfNat.ofNat k : Nat) < 2147483648 from (by omega : k < 2147483648))).mp h
/-- a loop upwards: what holds at its start, kept by each of its rounds, is used at its end -/
theorem m_up {α β : Type} (n : Nat) (F : Nat → Int32 → β → Option α) (I : Nat → β → Prop) (Q : Option α → Prop)
    (hs : ∀ i f s, i < n → I i s → (∀ s', I (i + 1) s' → Q (F f (nI (i + 1)) s')) → Q (F (f + 1) (nI i) s))
    (he : ∀ f s, I n s → Q (F (f + 1) (nI n) s)) : ∀ d i f s, i + d = n → d < f → I i s → Q (F f (nI i) s) := by
  intro d
  induction d with
  | zero =>
    intro i f s hi hf h
    obtain ⟨f, rfl⟩ : ∃ f', f = f' + 1 := ⟨f - 1, by omega⟩
    have : i = n := by omega
    subst this
    exact he f s h
  | succ d ih =>
    intro i f s hi hf h
    obtain ⟨f, rfl⟩ : ∃ f', f = f' + 1 := ⟨f - 1, by omega⟩
    exact hs i f s (by omega) h (fun s' h' => ih (i + 1) f s' (by omega) (by omega) h')
theorem m_up0 {α β : Type} {N : Nat} (n : Nat) (F : Nat → Int32 → β → Option α) (I : Nat → β → Prop) (Q : Option α → Prop) (s : β) (hN : n < N)
    (hs : ∀ i f s, i < n → I i s → (∀ s', I (i + 1) s' → Q (F f (nI (i + 1)) s')) → Q (F (f + 1) (nI i) s))
    (he : ∀ f s, I n s → Q (F (f + 1) (nI n) s)) (h0 : I 0 s) : Q (F N (nI 0) s) := m_up n F I Q hs he n 0 N s (by omega) hN h0
/-- a loop of rounds that come to an end: a bound falls -/
theorem m_wh {α β : Type} (F : Nat → β → Option α) (I : Nat → β → Prop) (Q : Option α → Prop)
    (hs : ∀ d f s, I d s → (∀ d' s', d' < d → I d' s' → Q (F f s')) → Q (F (f + 1) s)) : ∀ f d s, d < f → I d s → Q (F f s) := by
  intro f
  induction f with
  | zero => intro d s hd; omega
  | succ f ih => exact fun d s hd h => hs d f s h (fun d' s' hd' h' => ih d' s' (by omega) h')
