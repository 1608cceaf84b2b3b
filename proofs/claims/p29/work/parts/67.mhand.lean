/-! hands: what is meant -/
def dn (u v : Nat) : Nat := (u - v) + (v - u)
def alkF (h : Nat → Nat → Nat) (s : Nat → Nat) (i j : Nat) : Bool := decide (dn (h i 0) (h j 0) + dn (h i 1) (h j 1) + dn (h i 2) (h j 2) ≤ 6 + 2 * s i + 2 * s j)
theorem alkF_symm (h : Nat → Nat → Nat) (s : Nat → Nat) (i j : Nat) : alkF h s i j = alkF h s j i := by
  unfold alkF dn
  congr 1
  apply propext
  omega
def conn (R : Nat → Nat → Bool) (n i j : Nat) : Prop := ∀ S : Nat → Prop, S i → (∀ a b, a < n → b < n → R a b = true → S a → S b) → S j
theorem conn_rfl (R : Nat → Nat → Bool) (n i : Nat) : conn R n i i := fun _ h _ => h
theorem conn_st {R : Nat → Nat → Bool} {n i j k : Nat} (h : conn R n i j) (hj : j < n) (hk : k < n) (hr : R j k = true) : conn R n i k := fun S h0 hs => hs j k hj hk hr (h S h0 hs)
theorem conn_tr {R : Nat → Nat → Bool} {n i j k : Nat} (h : conn R n i j) (g : conn R n j k) : conn R n i k := fun S h0 hs => g S (h S h0 hs) hs
theorem conn_sy {R : Nat → Nat → Bool} {n i j : Nat} (hR : ∀ a b, R a b = R b a) (h : conn R n i j) : conn R n j i :=
  h (fun x => conn R n x i) (conn_rfl R n i) (fun a b ha hb hr q => conn_tr (conn_st (conn_rfl R n b) hb ha ((hR b a).trans hr)) q)
/-- the lowest of each hand -/
def finR (R : Nat → Nat → Bool) (n : Nat) (f : Nat → Nat) : Prop := (∀ k, k < n → f k ≤ k ∧ conn R n (f k) k) ∧ ∀ j k, j < n → k < n → R j k = true → f k ≤ f j
theorem finR_le {R : Nat → Nat → Bool} {n : Nat} {f g : Nat → Nat} (hf : finR R n f) (hg : finR R n g) {k : Nat} (hk : k < n) : g k ≤ f k := by
  obtain ⟨h1, h2⟩ := hf.1 k hk
  have h3 : g k ≤ g (f k) := h2 (fun x => g x ≤ g (f k)) (Nat.le_refl _) (fun a b ha hb hr q => Nat.le_trans (hg.2 a b ha hb hr) q)
  exact Nat.le_trans h3 (hg.1 (f k) (by omega)).1
theorem finR_eq {R : Nat → Nat → Bool} {n : Nat} {f g : Nat → Nat} (hf : finR R n f) (hg : finR R n g) {k : Nat} (hk : k < n) : f k = g k := Nat.le_antisymm (finR_le hg hf hk) (finR_le hf hg hk)
theorem cntP_mono {P Q : Nat → Bool} {n : Nat} (h : ∀ i, i < n → P i = true → Q i = true) : cntP P n ≤ cntP Q n := by
  induction n with
  | zero => exact Nat.le_refl 0
  | succ n ih =>
    have := ih (fun i hi => h i (by omega))
    unfold cntP
    by_cases hp : P n = true
    · rw [if_pos hp, if_pos (h n (by omega) hp)]; omega
    · rw [if_neg hp]; omega
theorem cntP_lt {P Q : Nat → Bool} {n k : Nat} (h : ∀ i, i < n → P i = true → Q i = true) (hk : k < n) (hq : Q k = true) (hp : ¬ P k = true) : cntP P n < cntP Q n := by
  induction n with
  | zero => omega
  | succ n ih =>
    have hm := cntP_mono (P := P) (Q := Q) (n := n) (fun i hi => h i (by omega))
    unfold cntP
    by_cases hkn : k = n
    · subst hkn
      rw [if_neg hp, if_pos hq]; omega
    · have := ih (fun i hi => h i (by omega)) (by omega)
      by_cases hp2 : P n = true
      · rw [if_pos hp2, if_pos (h n (by omega) hp2)]; omega
      · rw [if_neg hp2]; omega
theorem cntP_pos {P : Nat → Bool} {n k : Nat} (hk : k < n) (hp : P k = true) : 1 ≤ cntP P n := by
  have := cntP_lt (P := fun _ => false) (Q := P) (n := n) (k := k) (fun i _ h => by cases h) hk hp (by simp)
  omega
/-- a round of the class -/
def rndR (R : Nat → Nat → Bool) (n : Nat) (f g : Nat → Nat) : Prop := ∀ k, k < n → g k ≤ f k ∧ (∃ j, j < n ∧ conn R n j k ∧ g k = f j) ∧ ∀ j, j < n → R j k = true → g k ≤ f j
def cloR (R : Nat → Nat → Bool) (n m : Nat) (f : Nat → Nat) : Prop := ∀ j k, j < n → k < n → R j k = true → f j ≤ m → f k ≤ m
/-- what holds behind r rounds -/
def hdI (R : Nat → Nat → Bool) (n r : Nat) (f : Nat → Nat) : Prop := (∀ k, k < n → f k ≤ k ∧ conn R n (f k) k) ∧ ∀ m, cloR R n m f ∨ r + 1 ≤ cntP (fun k => decide (f k ≤ m)) n
theorem hdI_0 (R : Nat → Nat → Bool) (n : Nat) {f : Nat → Nat} (hf : ∀ k, k < n → f k = k) : hdI R n 0 f := by
  refine ⟨fun k hk => ⟨Nat.le_of_eq (hf k hk), by rw [hf k hk]; exact conn_rfl R n k⟩, fun m => ?_⟩
  by_cases h : cloR R n m f
  · exact Or.inl h
  · right
    have h2 : ∃ j, j < n ∧ f j ≤ m := by
      apply Classical.byContradiction
      intro hn
      exact h (fun j k hj hk hr hm => absurd ⟨j, hj, hm⟩ hn)
    obtain ⟨j, hj, hm⟩ := h2
    exact cntP_pos hj (decide_eq_true hm)
theorem hdI_s {R : Nat → Nat → Bool} {n r : Nat} {f g : Nat → Nat} (h : hdI R n r f) (hg : rndR R n f g) : hdI R n (r + 1) g := by
  refine ⟨fun k hk => ?_, fun m => ?_⟩
  · obtain ⟨g1, ⟨j, hj, hc, g2⟩, g3⟩ := hg k hk
    have := (h.1 k hk).1
    refine ⟨by omega, ?_⟩
    rw [g2]
    exact conn_tr (h.1 j hj).2 hc
  · by_cases hcl : cloR R n m f
    · left
      intro j k hj hk hr hm
      obtain ⟨-, ⟨i, hi, hc, g2⟩, -⟩ := hg j hj
      have hik : conn R n i k := conn_st hc hj hk hr
      have hfi : f i ≤ m := by omega
      have : f k ≤ m := hik (fun x => f x ≤ m) hfi (fun a b ha hb hr q => hcl a b ha hb hr q)
      have := (hg k hk).1
      omega
    · right
      have h2 : ∃ j k, j < n ∧ k < n ∧ R j k = true ∧ f j ≤ m ∧ ¬ f k ≤ m := by
        apply Classical.byContradiction
        intro hn
        exact hcl (fun j k hj hk hr hm => Classical.byContradiction fun q => hn ⟨j, k, hj, hk, hr, hm, q⟩)
      obtain ⟨j, k, hj, hk, hr, hm, hkm⟩ := h2
      have hc := (h.2 m).resolve_left hcl
      have h3 := (hg k hk).2.2 j hj hr
      have := cntP_lt (P := fun k => decide (f k ≤ m)) (Q := fun k => decide (g k ≤ m)) (n := n) (k := k) (fun i hi q => by
        have := of_decide_eq_true q
        have := (hg i hi).1
        exact decide_eq_true (by omega)) hk (decide_eq_true (by omega)) (by simpa using hkm)
      omega
theorem hdI_e {R : Nat → Nat → Bool} {n r : Nat} {f : Nat → Nat} (h : hdI R n r f) (hn : n ≤ r) : finR R n f := by
  refine ⟨h.1, fun j k hj hk hr => ?_⟩
  rcases h.2 (f j) with hc | hc
  · exact hc j k hj hk hr (Nat.le_refl _)
  · have := cntP_le (fun k => decide (f k ≤ f j)) n
    omega
/-! both tests of likeness -/
theorem zn_neg {u v : Nat} (h : u ≤ v) (hv : v < 2147483648) : -(nI u - nI v) = nI (v - u) := by
  rw [Int32.neg_sub, zn_sub h]
theorem zn_dneg {u v : Nat} (h : u < v) (hv : v < 1000) : ¬ (0 : Int32) ≤ nI u - nI v := by
  rw [Int32.le_iff_toInt_le, Int32.toInt_sub, zn_tI (by omega), zn_tI (by omega), Int.bmod_eq_of_le (by omega) (by omega)]
  have : (0 : Int32).toInt = 0 := rfl
  omega
theorem abs_a {u v : Nat} (hu : u < 1000) (hv : v < 1000) : (if (0 : Int32) ≤ nI u - nI v then nI u - nI v else -(nI u - nI v)) = nI (dn u v) := by
  unfold dn
  by_cases h : v ≤ u
  · rw [zn_sub h, if_pos (not_lt32.mp (zn_nn (by omega)))]
    congr 1; omega
  · rw [if_neg (zn_dneg (by omega) hv), zn_neg (by omega) (by omega)]
    congr 1; omega
theorem abs_b {u v : Nat} (hu : u < 1000) (hv : v < 1000) : (if (0 : Int32) ≤ nI u - nI v then nI u - nI v else 0 - (nI u - nI v)) = nI (dn u v) := by
  rw [Int32.zero_sub]
  exact abs_a hu hv
theorem dn_le {u v : Nat} (hu : u ≤ 20) (hv : v ≤ 20) : dn u v ≤ 20 := by unfold dn; omega
/-- the hands as numbers, on either side -/
def hM (n : Nat) (X : gM) (h : Nat → Nat → Nat) (s : Nat → Nat) : Prop := ∀ i, i < n → (∀ k, k < 3 → h i k ≤ 20 ∧ X 49 0 (3 * i + k) = nI (h i k)) ∧ s i ≤ 3 ∧ X 50 0 i = nI (s i)
def hC (n : Nat) (X : gM) (h : Nat → Nat → Nat) (s : Nat → Nat) : Prop := ∀ i, i < n → (∀ k, k < 3 → h i k ≤ 20) ∧ X 5 i 7 = nI (h i 0) ∧ X 5 i 8 = nI (h i 1) ∧ X 5 i 9 = nI (h i 2) ∧ s i ≤ 3 ∧ X 5 i 10 = nI (s i)
theorem X2_isAlike_eq {al : Nat → Nat → Bool} {N n i j : Nat} {X : gM} {h : Nat → Nat → Nat} {s : Nat → Nat} (g : hC n X h s) (hi : i < n) (hj : j < n) : X2_isAlike al N i j X = some (if alkF h s i j = true then 1 else 0, X) := by
  obtain ⟨a0, a1, a2, a3, a4, a5⟩ := g i hi
  obtain ⟨b0, b1, b2, b3, b4, b5⟩ := g j hj
  have u0 := a0 0 (by omega)
  have u1 := a0 1 (by omega)
  have u2 := a0 2 (by omega)
  have v0 := b0 0 (by omega)
  have v1 := b0 1 (by omega)
  have v2 := b0 2 (by omega)
  have d0 := dn_le u0 v0
  have d1 := dn_le u1 v1
  have d2 := dn_le u2 v2
  unfold X2_isAlike X2_isAlike_J64
  simp only [gl_eq, a1, a2, a3, a5, b1, b2, b3, b5]
  rw [abs_b (by omega) (by omega), abs_b (by omega) (by omega), abs_b (by omega) (by omega)]
  simp (disch := omega) only [zn_add, zn_mul, zn_addl, zn_ladd, zn_mull, zn_lmul, zn_le, zn_lt, zn_eq, zn_lel, zn_ltl, zn_eql, zn_lle, zn_llt, zn_leq, zn_sub, zn_subl, zn_m1]
  by_cases hc : alkF h s i j = true
  · have := of_decide_eq_true hc
    rw [if_pos hc, if_neg (by omega)]; rfl
  · have : ¬ (dn (h i 0) (h j 0) + dn (h i 1) (h j 1) + dn (h i 2) (h j 2) ≤ 6 + 2 * s i + 2 * s j) := fun q => hc (decide_eq_true q)
    rw [if_neg hc, if_pos (by omega)]; rfl
theorem X10_areAlike_eq {al : Nat → Nat → Bool} {N n i j : Nat} {X : gM} {h : Nat → Nat → Nat} {s : Nat → Nat} (hN : 1000 ≤ N) (hn : n ≤ 10) (g : hM n X h s) (hi : i < n) (hj : j < n) : X10_areAlike al N (nI i) (nI j) X = some (if alkF h s i j = true then 1 else 0, X) := by
  obtain ⟨a0, a4, a5⟩ := g i hi
  obtain ⟨b0, b4, b5⟩ := g j hj
  obtain ⟨u0, p0⟩ := a0 0 (by omega)
  obtain ⟨u1, p1⟩ := a0 1 (by omega)
  obtain ⟨u2, p2⟩ := a0 2 (by omega)
  obtain ⟨v0, r0⟩ := b0 0 (by omega)
  obtain ⟨v1, r1⟩ := b0 1 (by omega)
  obtain ⟨v2, r2⟩ := b0 2 (by omega)
  have d0 := dn_le u0 v0
  have d1 := dn_le u1 v1
  have d2 := dn_le u2 v2
  have st : ∀ f k p, k < 3 → X10_areAlike_L5 al N (fun p1 p2 p3 Y => X10_areAlike_J58 al N p1 p2 p3 Y) (f + 1) (nI i) (nI j) p (nI k) X = X10_areAlike_L5 al N (fun p1 p2 p3 Y => X10_areAlike_J58 al N p1 p2 p3 Y) f (nI i) (nI j) (p + nI (dn (h i k) (h j k))) (nI (k + 1)) X := by
    intro f k p hk
    obtain ⟨w1, w2⟩ := a0 k hk
    obtain ⟨w3, w4⟩ := b0 k hk
    have := abs_a (u := h i k) (v := h j k) (by omega) (by omega)
    simp (disch := omega) only [X10_areAlike_L5, zn_add, zn_mul, zn_addl, zn_ladd, zn_mull, zn_lmul, zn_le, zn_lt, zn_eq, zn_lel, zn_ltl, zn_eql, zn_lle, zn_llt, zn_leq, zn_sub, zn_subl, zn_m1, gl_eq, bind2_some, bind3_some, Option.bind_some, bz_0, bz_1, ib_0, ib_1, ib_bz, rd_nI, rd_l, if_pos, if_neg, if_true, if_false, ite_true, ite_false, eq_self, j00, j10, j20, j30, k00, k01, k02, k03, i20, i30, km0, i10, i01, im0, im1, i0m, i1m, w2, w4, X10_areAlike_J50]
    by_cases hc : (0 : Int32) ≤ nI (h i k) - nI (h j k)
    · rw [if_pos hc] at this ⊢
      rw [this]
    · rw [if_neg hc] at this ⊢
      rw [this]
  unfold X10_areAlike
  obtain ⟨m, rfl⟩ : ∃ m, N = m + 4 := ⟨N - 4, by omega⟩
  refine (st (m + 3) 0 0 (by omega)).trans ?_
  rw [st (m + 2) (0 + 1) _ (by omega), st (m + 1) (0 + 1 + 1) _ (by omega)]
  have e3 : (0 + 1 + 1 + 1 : Nat) = 3 := rfl
  have e2 : (0 + 1 + 1 : Nat) = 2 := rfl
  have e1 : (0 + 1 : Nat) = 1 := rfl
  rw [e3, e2, e1]
  have hz : (0 : Int32) + nI (dn (h i 0) (h j 0)) = nI (dn (h i 0) (h j 0)) := Int32.zero_add _
  unfold X10_areAlike_L5 X10_areAlike_J58 X10_areAlike_J87
  simp (disch := omega) only [hz, a5, b5, zn_add, zn_mul, zn_addl, zn_ladd, zn_mull, zn_lmul, zn_le, zn_lt, zn_eq, zn_lel, zn_ltl, zn_eql, zn_lle, zn_llt, zn_leq, zn_sub, zn_subl, zn_m1, gl_eq, bind2_some, bind3_some, Option.bind_some, bz_0, bz_1, ib_0, ib_1, ib_bz, rd_nI, rd_l, if_pos, if_neg, if_true, if_false, ite_true, ite_false, eq_self, j00, j10, j20, j30, k00, k01, k02, k03, i20, i30, km0, i10, i01, im0, im1, i0m, i1m]
  by_cases hc : alkF h s i j = true
  · have := of_decide_eq_true hc
    rw [if_pos hc, if_neg (by omega)]
  · have : ¬ (dn (h i 0) (h j 0) + dn (h i 1) (h j 1) + dn (h i 2) (h j 2) ≤ 6 + 2 * s i + 2 * s j) := fun q => hc (decide_eq_true q)
    rw [if_neg hc, if_pos (by omega)]
