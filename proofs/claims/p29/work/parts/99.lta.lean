/-! a turn of the law: the low part of a number, the two readings behind each act, what a turn answers -/
theorem jl_ok (v : Int32) {n : Nat} (h1 : 1 ≤ n) (hn : n < 2147483648) : ∃ r, r < n ∧ jlow v (nI n) = nI r := by
  obtain ⟨k, hk, e⟩ : ∃ k, k < 2147483648 ∧ v &&& (2147483647 : Int32) = nI k := by
    refine ⟨(v &&& (2147483647 : Int32)).toBitVec.toNat, ?_, ?_⟩
    · rw [Int32.toBitVec_and, BitVec.toNat_and]
      exact Nat.lt_of_le_of_lt Nat.and_le_right (by decide)
    · refine Int32.toBitVec_inj.mp ?_
      show _ = BitVec.ofNat 32 _
      rw [BitVec.ofNat_toNat, BitVec.setWidth_eq]
  refine ⟨k % n, Nat.mod_lt _ (by omega), ?_⟩
  unfold jlow
  rw [e, zn_div hk hn, zn_mul, zn_sub (Nat.div_mul_le_self k n)]
  have h := Nat.div_add_mod k n
  rw [Nat.mul_comm n (k / n)] at h
  rw [show k - k / n * n = k % n from by omega]
theorem jl_l (v : Int32) (k : Nat) (h : 1 ≤ k ∧ k < 2147483648) : ∃ r, r < k ∧ jlow v (no_index (OfNat.ofNat k) : Int32) = nI r := jl_ok v h.1 h.2
theorem ng_ne {a : Nat} {v : Int32} (ha : a < 2147483648) (hv : v < 0) : ¬ v = nI a := fun q => zn_nn ha (q ▸ hv)
/-- nothing new: the law goes on with the same counts -/
def Rs (NL : List (Nat × Nat)) (L F K : Nat) (o : Option (Int32 × Int32 × Int32 × Int32 × gM)) : Prop := ∃ D W X', o = some (nI L, nI F, nI K, 1, X') ∧ JJ NL L F D W K X'
theorem t_28 {NL : List (Nat × Nat)} {N L F D W K x : Nat} {p8 : Int32} {X : gM} (hN : 1000000 ≤ N) (hJ : JJ NL L F D W K X) (hx : L = 0 ∨ x < L) : Rs NL L F K (Q_law_J1028 (gal NL) N (nI L) (nI F) (nI K) 1 p8 (nI x) X) := by
  have hL : L ≤ 10 := hJ.2.1.1
  obtain ⟨b, hb, eb⟩ := jl_l (p8 >>> ((1 : Int32) &&& (31 : Int32))) 2 (by omega)
  have eb : jlow (p8 >>> ((1 : Int32) &&& (31 : Int32))) (2 : Int32) = nI b := eb
  obtain ⟨D1, v1, v2, X1, X2, e1, e2, hle, h26, hJ2, k2⟩ := st_arr hN hJ hb
  have h95 : ∀ D' Y, JJ NL L F D' W K Y → Rs NL L F K (Q_law_J1095 (gal NL) N (nI L) (nI F) (nI K) p8 (nI x) Y) := fun D' Y hY => by
    have go : ∀ D' Y, JJ NL L F D' W K Y → Rs NL L F K (Q_law_J1128 (gal NL) N (nI L) (nI F) (nI K) Y) := fun D' Y hY => ⟨D', W, Y, rfl, hY⟩
    unfold Q_law_J1095
    by_cases c0 : nI L = (0 : Int32)
    · rw [if_pos c0]; exact go D' Y hY
    · have hL0 : L ≠ 0 := fun q => c0 (by rw [q]; rfl)
      obtain ⟨w2, hw2, ew2⟩ := jl_l (p8 >>> ((2 : Int32) &&& (31 : Int32))) 3 (by omega)
      have ew2 : jlow (p8 >>> ((2 : Int32) &&& (31 : Int32))) (3 : Int32) = nI w2 := ew2
      obtain ⟨w5, hw5, ew5⟩ := jl_l p8 8 (by omega)
      have ew5 : jlow p8 (8 : Int32) = nI w5 := ew5
      rw [if_neg c0, gl_eq, ew2]
      by_cases c1 : (0 : Int32) < nI w2
      · rw [if_pos c1]; exact go D' Y hY
      · obtain ⟨D2, Z, e, hZ, -⟩ := Q_line_ok hN hY (x := x) (y := w5) (by omega) (by omega)
        rw [if_neg c1, gl_eq, ew5, e, bind2_some, if_neg (by decide)]
        exact go D2 Z hZ
  have h65 : ∀ D' Y, JJ NL L F D' W K Y → Rs NL L F K (Q_law_J1065 (gal NL) N (nI L) (nI F) (nI K) p8 (nI x) 1 Y) := fun D' Y hY => by
    unfold Q_law_J1065
    rw [if_neg (by decide)]
    by_cases c0 : nI L = (0 : Int32)
    · rw [if_pos c0]; exact h95 D' Y hY
    · have hL0 : L ≠ 0 := fun q => c0 (by rw [q]; rfl)
      obtain ⟨w2, hw2, ew2⟩ := jl_l p8 5 (by omega)
      have ew2 : jlow p8 (5 : Int32) = nI w2 := ew2
      rw [if_neg c0, gl_eq, ew2]
      by_cases c1 : (0 : Int32) < nI w2
      · rw [if_pos c1]; exact h95 D' Y hY
      · obtain ⟨D2, Z, e, hZ, -⟩ := Q_leaf_ok hN hY (x := x) (by omega)
        rw [if_neg c1, e, bind2_some, if_neg (by decide)]
        exact h95 D2 Z hZ
  unfold Q_law_J1028
  rw [gl_eq, eb, if_neg (by decide), e1, bind3_some, if_pos rfl, e2, bind3_some, if_pos rfl, if_neg (fun q => by
    have := (zn_lt (by omega) (by omega)).mp q
    omega)]
  exact h65 _ _ hJ2
/-- what a turn answers, with its new names -/
def Ts (NL : List (Nat × Nat)) (f : (Nat → Nat → Bool) → List (Nat × Nat) → Option (Int32 × Int32 × Int32 × Int32 × gM)) : Prop := ∃ nw L F K, gFr NL nw ∧ Rs (NL ++ nw) L F K (f (gal (NL ++ nw)) nw)
theorem ts_0 {NL : List (Nat × Nat)} {L F K : Nat} {f : (Nat → Nat → Bool) → List (Nat × Nat) → Option (Int32 × Int32 × Int32 × Int32 × gM)} (h : Rs NL L F K (f (gal NL) [])) : Ts NL f := ⟨[], L, F, K, ⟨List.nodup_nil, fun n hn => by cases hn⟩, by rw [List.append_nil]; exact h⟩
theorem ts_n {NL nw : List (Nat × Nat)} {L F K : Nat} {f : (Nat → Nat → Bool) → List (Nat × Nat) → Option (Int32 × Int32 × Int32 × Int32 × gM)} (hfr : gFr NL nw) (h : Rs (NL ++ nw) L F K (f (gal (NL ++ nw)) nw)) : Ts NL f := ⟨nw, L, F, K, hfr, h⟩
theorem ts_ite {NL : List (Nat × Nat)} {c : Prop} {i : Decidable c} {A B : (Nat → Nat → Bool) → List (Nat × Nat) → Option (Int32 × Int32 × Int32 × Int32 × gM)} (h1 : c → Ts NL A) (h2 : ¬ c → Ts NL B) : Ts NL (fun al2 nw => @ite _ c i (A al2 nw) (B al2 nw)) := by
  by_cases hc : c
  · have e : (fun al2 nw => @ite _ c i (A al2 nw) (B al2 nw)) = A := funext fun _ => funext fun _ => if_pos hc
    rw [e]; exact h1 hc
  · have e : (fun al2 nw => @ite _ c i (A al2 nw) (B al2 nw)) = B := funext fun _ => funext fun _ => if_neg hc
    rw [e]; exact h2 hc
theorem ts_eq {NL : List (Nat × Nat)} {f g : (Nat → Nat → Bool) → List (Nat × Nat) → Option (Int32 × Int32 × Int32 × Int32 × gM)} (h : ∀ al2 nw, f al2 nw = g al2 nw) (k : Ts NL g) : Ts NL f := by
  have e : f = g := funext fun _ => funext fun _ => h _ _
  rw [e]; exact k
/-! a word's new names -/
theorem w_word {NL nw : List (Nat × Nat)} {N k : Nat} {r : Int32} {X X1 : gM} (h : X9_word (gal NL) N nw X = some (k, r, X1)) : k = 0 → nw = [] ∨ ∃ j, j < 12 ∧ nw = [(26, j), (27, j)] := by
  unfold X9_word at h
  by_cases c1 : X 0 0 7 = 0
  · rw [if_pos c1] at h
    unfold X9_word_J16 at h
    cases h
    exact fun q => by cases q
  rw [if_neg c1] at h
  by_cases c2 : X 0 0 7 ≤ 8
  · rw [if_pos c2] at h
    obtain ⟨r0, X4, q1, h⟩ := b2_in h
    by_cases c3 : r0 = -1
    · rw [if_pos c3] at h
      by_cases c4 : X4 0 0 9 < 12
      · rw [if_pos c4] at h
        unfold X9_word_J51 at h
        rw [if_pos c3] at h
        obtain ⟨v2, e2, h⟩ := gl_in h
        obtain ⟨j4, hj4, h⟩ := rd_in h
        obtain ⟨hn, h⟩ := eqn_in h
        exact fun _ => Or.inr ⟨j4, by have a := hj4.1; have b := hj4.2; unfold vp_in at a; omega, hn⟩
      · rw [if_neg c4] at h
        cases h
        exact fun q => by cases q
    · rw [if_neg c3] at h
      unfold X9_word_J51 X9_word_J97 at h
      rw [if_neg c3] at h
      simp only [gl_eq] at h
      obtain ⟨hn, h⟩ := eqn_in h
      exact fun _ => Or.inl hn
  · rw [if_neg c2] at h
    unfold X9_word_J16 at h
    cases h
    exact fun q => by cases q
theorem n_word {NL : List (Nat × Nat)} {L F W K L' F' W' K' j : Nat} {X Y : gM} (h : jN NL L F W K X) (hj : j < 12) (g : jN (NL ++ [(26, j), (27, j)]) L' F' W' K' Y) (hW : W ≤ 12) (hW' : W' ≤ 12) : L' = L ∧ F' = F ∧ K' = K := by
  have e : ∀ k i, (k, i) ∈ NL ++ [(26, j), (27, j)] ↔ ((k, i) ∈ NL ∨ (k = 26 ∧ i = j) ∨ (k = 27 ∧ i = j)) := fun k i => by
    simp only [List.mem_append, List.mem_cons, List.not_mem_nil, or_false, Prod.mk.injEq]
  have e5 : ∀ i, i < L' ↔ (i < L ∨ (5 = 26 ∧ i = j) ∨ (5 = 27 ∧ i = j)) := fun i => ((g 5 i).symm.trans (e 5 i)).trans (or_congr (h 5 i) Iff.rfl)
  have e23 : ∀ i, i < F' ↔ (i < F ∨ (23 = 26 ∧ i = j) ∨ (23 = 27 ∧ i = j)) := fun i => ((g 23 i).symm.trans (e 23 i)).trans (or_congr (h 23 i) Iff.rfl)
  have e26 : ∀ i, (i < W' ∨ (12 ≤ i ∧ i < 12 + K')) ↔ ((i < W ∨ (12 ≤ i ∧ i < 12 + K)) ∨ (26 = 26 ∧ i = j) ∨ (26 = 27 ∧ i = j)) := fun i => ((g 26 i).symm.trans (e 26 i)).trans (or_congr (h 26 i) Iff.rfl)
  refine ⟨?_, ?_, ?_⟩
  · have a := e5 L; have b := e5 L'; omega
  · have a := e23 F; have b := e23 F'; omega
  · have a := e26 (12 + K); have b := e26 (12 + K'); omega
