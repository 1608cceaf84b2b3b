/-! the start of the law lies in the kept world: the class's makings -/
theorem X9_init_eq (al : Nat → Nat → Bool) (N : Nat) (X : gM) : ∃ Y, X9_init al N X = some (0, Y) ∧ rk_0 0 (Y 82 0) = some 0 ∧ (∀ j, (j = 2 ∨ j = 5 ∨ j = 7 ∨ j = 9 ∨ j = 11) → Y 82 0 j = 0) ∧ (∀ k, k < 3 → Y 2 0 k = 1) ∧ (∀ k, k < 3 → Y 3 0 k = 1) ∧
    (∀ j, Y 4 0 j = -1) ∧ (∀ j, Y 11 0 j = if j < 2 then nI j else -1) ∧ (∀ b, b < 2 → Y 12 b 0 = 4 ∧ Y 12 b 2 = 0 ∧ ∀ j, Y 13 b j = -1) ∧ (∀ j, Y 22 0 j = -1) ∧ (∀ j, Y 25 0 j = -1) ∧ (∀ j, Y 28 0 j = -1) ∧
    ∀ s, s < 6 → Y 14 s 0 = (if s % 3 = 1 then 1 else 0) ∧ Y 14 s 1 = (if s % 3 = 2 then 1 else 0) ∧ Y 14 s 2 = 0 ∧ Y 14 s 9 = -1 ∧ (∀ j, Y 18 s j = -1) ∧ (∀ j, Y 19 s j = -1) ∧ (∀ j, Y 21 s j = -1) := by
  obtain ⟨fa, ha⟩ := Classical.axiomOfChoice (fun X => X3_init_eq al N X)
  obtain ⟨fb, hb⟩ := Classical.axiomOfChoice (fun X => X5_init_eq al N 0 (by omega) X)
  obtain ⟨fc, hc⟩ := Classical.axiomOfChoice (fun X => X5_init_eq al N 1 (by omega) X)
  obtain ⟨fd, hd⟩ := Classical.axiomOfChoice (fun X => X6_init_eq al N X)
  obtain ⟨fe, he⟩ := Classical.axiomOfChoice (fun X => X4_init_eq al N X)
  have a1 := fun X => (ha X).1
  have a2 := fun X => (ha X).2.1
  have a3 := fun X => (ha X).2.2.1
  have a4 := fun X => (ha X).2.2.2.1
  have a5 := fun X => (ha X).2.2.2.2
  have b1 := fun X => (hb X).1
  have b2 := fun X => (hb X).2.1
  have b3 := fun X => (hb X).2.2.1
  have b4 := fun X => (hb X).2.2.2.1
  have b5 := fun X => (hb X).2.2.2.2.1
  have b6 := fun X => (hb X).2.2.2.2.2.1
  have b7 := fun X => (hb X).2.2.2.2.2.2
  have c1 := fun X => (hc X).1
  have c2 := fun X => (hc X).2.1
  have c3 := fun X => (hc X).2.2.1
  have c4 := fun X => (hc X).2.2.2.1
  have c5 := fun X => (hc X).2.2.2.2.1
  have c6 := fun X => (hc X).2.2.2.2.2.1
  have c7 := fun X => (hc X).2.2.2.2.2.2
  have d1 := fun X => (hd X).1
  have d2 := fun X => (hd X).2.1
  have d3 := fun X => (hd X).2.2
  have e1 := fun X => (he X).1
  have e2 := fun X => (he X).2.1
  have e3 := fun X => (he X).2.2
  unfold X9_init
  simp (disch := omega) only [gl_eq, rd_l, Option.bind_some, rn_some, a1, a5, b1, b6, c1, c6, d1, d3, e1, e3, bind2_some]
  have e0 : nI 0 = 0 := rfl
  refine ⟨_, rfl, ?_, fun j hj => ?_, fun k hk => ?_, fun k hk => ?_, fun j => ?_, fun j => ?_, fun b hb => ?_, fun j => ?_, fun j => ?_, fun j => ?_, fun s hs => ?_⟩
  · unfold rk_0
    rw [if_pos]
    simp (disch := omega) [mset_at, msl_at, a2, b2, c2, d2, e2, e0]
  · rcases hj with rfl | rfl | rfl | rfl | rfl <;> simp (disch := omega) [mset_at, msl_at, a2, b2, c2, d2, e2]
  · simp (disch := omega) [mset_at, msl_at, a2, b2, c2, d2, e2, a3]
  · simp (disch := omega) [mset_at, msl_at, a2, b2, c2, d2, e2, a4]
  · simp (disch := omega) [mset_at, msl_at, a2, b2, c2, d2, e2]
  · simp (disch := omega) only [mset_at, msl_at, a2, b2, c2, d2, e2, true_and, and_true, if_true, eq_self, reduceIte, Nat.reduceEqDiff, false_and, if_false]
    by_cases q1 : j = 1
    · subst q1; rfl
    · by_cases q2 : j = 0
      · subst q2; rfl
      · rw [if_neg (show ¬ j < 2 by omega)]
        first | rw [if_neg q1, if_neg q2] | simp [q1, q2]
  · have hb2 : b = 0 ∨ b = 1 := by omega
    rcases hb2 with rfl | rfl
    · refine ⟨?_, ?_, fun j => ?_⟩ <;> simp (disch := omega) [mset_at, msl_at, a2, b2, c2, d2, e2, b3, b4, b5]
    · refine ⟨?_, ?_, fun j => ?_⟩ <;> simp (disch := omega) [mset_at, msl_at, a2, b2, c2, d2, e2, c3, c4, c5]
  · simp (disch := omega) [mset_at, msl_at, a2, b2, c2, d2, e2]
  · simp (disch := omega) [mset_at, msl_at, a2, b2, c2, d2, e2]
  · simp (disch := omega) [mset_at, msl_at, a2, b2, c2, d2, e2]
  · have hs2 : s / 3 = 0 ∨ s / 3 = 1 := by omega
    rcases hs2 with q | q
    · have hr : s < 3 := by omega
      have hm : s % 3 = s := by omega
      rw [hm]
      have b8 := fun X => by have t := b7 X s hr; simp only [Nat.mul_zero, Nat.zero_add] at t; exact t
      refine ⟨?_, ?_, ?_, ?_, fun j => ?_, fun j => ?_, fun j => ?_⟩ <;> simp (disch := omega) only [mset_at, msl_at, a2, c2, d2, e2, if_neg, (b8 _).1, (b8 _).2.1, (b8 _).2.2.1, (b8 _).2.2.2.1, (b8 _).2.2.2.2.1, (b8 _).2.2.2.2.2.1, (b8 _).2.2.2.2.2.2]
    · obtain ⟨r, hr, rfl⟩ : ∃ r, r < 3 ∧ s = 3 + r := ⟨s - 3, by omega, by omega⟩
      have hm : (3 + r) % 3 = r := by omega
      rw [hm]
      have b8 := fun X => by have t := c7 X r hr; simp only [Nat.mul_one] at t; exact t
      refine ⟨?_, ?_, ?_, ?_, fun j => ?_, fun j => ?_, fun j => ?_⟩ <;> simp (disch := omega) only [mset_at, msl_at, a2, d2, e2, if_neg, (b8 _).1, (b8 _).2.1, (b8 _).2.2.1, (b8 _).2.2.2.1, (b8 _).2.2.2.2.1, (b8 _).2.2.2.2.2.1, (b8 _).2.2.2.2.2.2]
/-- the names alive at the start, as an answer -/
def avl0 (k i : Nat) : Bool := match k with
  | 5 => false
  | 6 => false
  | 7 => false
  | 8 => false
  | 9 => false
  | 10 => false
  | 12 => decide (i < 2)
  | 13 => decide (i < 2)
  | 14 => decide (i < 6)
  | 15 => decide (i < 6)
  | 16 => decide (i < 6)
  | 17 => decide (i < 6)
  | 18 => decide (i < 6)
  | 19 => decide (i < 6)
  | 20 => decide (i < 6)
  | 21 => decide (i < 6)
  | 23 => false
  | 26 => false
  | 27 => false
  | 38 => decide (i < 9)
  | k => decide (k < 43) && decide (i = 0)
theorem avl_0 (X : gM) (k i : Nat) : avl 0 0 0 0 X k i ↔ avl0 k i = true := by
  unfold avl avl0
  split <;> simp <;> (try omega)
theorem avl0_lt {k i : Nat} (h : avl0 k i = true) : k < 82 ∧ i < 9 := by
  unfold avl0 at h
  split at h <;> simp at h <;> omega
set_option maxRecDepth 100000 in
theorem gNI_1 : ∀ n ∈ gNI, avl0 n.1 n.2 = true := by decide +kernel
set_option maxRecDepth 100000 in
theorem gNI_2b : ((List.range 82).all fun k => (List.range 9).all fun i => !avl0 k i || decide ((k, i) ∈ gNI)) = true := by decide +kernel
theorem gNI_2 (k : Nat) (hk : k < 82) (i : Nat) (hi : i < 9) (h : avl0 k i = true) : (k, i) ∈ gNI := by
  have h1 := List.all_eq_true.mp (List.all_eq_true.mp gNI_2b k (List.mem_range.mpr hk)) i (List.mem_range.mpr hi)
  rw [h] at h1
  exact of_decide_eq_true (by simpa using h1)
theorem start_J {N : Nat} (hN : 1000000 ≤ N) : ∃ (rr : Int32) (X : gM), KI N = some (rr, X) ∧ gJ gNI X := by
  obtain ⟨A, a1, a2, a3, a4, a5, a6, a7, a8, a9, a10, a11, a12⟩ := X9_init_eq (gal ([] ++ [(82, 0)])) N (msl (fun _ _ _ => 0) 82 0 rz_82)
  obtain ⟨R, r1, r2, r3, r4, r5, r6⟩ := X10_init_R (fun _ _ => true) N (msl (msl A 0 0 (A 82 0)) 92 0 rz_92)
  have hm : ∀ k, 53 ≤ k → k ≤ 56 → (fun (_ _ : Nat) => true) k 0 = true := fun k h1 h2 => rfl
  obtain ⟨Y, y1, y2, y3, y4, y5, y6⟩ := X10_init_T_eq (al := fun _ _ => true) (N := N) hN (hm 53 (by omega) (by omega)) (hm 54 (by omega) (by omega)) (hm 55 (by omega) (by omega)) (hm 56 (by omega) (by omega)) r5
  have h92 : Y 92 0 = R 92 0 := funext fun j => y2 92 0 j (by omega)
  have hk0 : rk_43 0 (Y 92 0) = some 0 := by rw [h92, r4]
  have zz : ∀ k p j, ¬ (44 ≤ k ∧ k ≤ 92) → k ≠ 0 → Y k p j = A k p j := fun k p j h1 h2 => by
    rw [y2 k p j (by omega), r2 k p j h1, msl_at, if_neg (by omega), msl_at, if_neg (by omega)]
  have z0 : ∀ j, Y 0 0 j = A 82 0 j := fun j => by
    rw [y2 0 0 j (by omega), r2 0 0 j (by omega), msl_at, if_neg (by omega), msl_at, if_pos ⟨rfl, rfl⟩]
  have z92 : ∀ j, (j = 0 ∨ j = 15 ∨ j = 17 ∨ j = 20 ∨ j = 23) → Y 92 0 j = 0 := fun j hj => by
    rw [h92, r3 j hj, msl_at, if_pos ⟨rfl, rfl⟩]
    rcases hj with rfl | rfl | rfl | rfl | rfl <;> rfl
  refine ⟨0, msl (msl Y 43 0 (Y 92 0)) 81 0 (fun _ => 0), ?_, ?_⟩
  · simp only [KI, gl_eq, a1, bind2_some, a2, Option.bind_some, r1, y1, hk0]
  · generalize hX : msl (msl Y 43 0 (Y 92 0)) 81 0 (fun _ => 0) = X
    have x1 : ∀ k p j, k ≠ 43 → k ≠ 81 → X k p j = Y k p j := fun k p j h1 h2 => by
      rw [← hX, msl_at, if_neg (by omega), msl_at, if_neg (by omega)]
    have x43 : ∀ j, (j = 0 ∨ j = 15 ∨ j = 17 ∨ j = 20 ∨ j = 23) → X 43 0 j = 0 := fun j hj => by
      rw [← hX, msl_at, if_neg (by omega), msl_at, if_pos ⟨rfl, rfl⟩, z92 j hj]
    have x0 : ∀ j, (j = 2 ∨ j = 5 ∨ j = 7 ∨ j = 9 ∨ j = 11) → X 0 0 j = 0 := fun j hj => by
      rw [x1 0 0 j (by omega) (by omega), z0 j, a3 j hj]
    have xa : ∀ k p j, ¬ (43 ≤ k ∧ k ≤ 92) → k ≠ 0 → X k p j = A k p j := fun k p j h1 h2 => by
      rw [x1 k p j (by omega) (by omega), zz k p j (by omega) h2]
    have x49 : ∀ k j, (k = 49 ∨ k = 50 ∨ k = 51 ∨ k = 57) → X k 0 j = 0 := fun k j hk => by
      rw [x1 k 0 j (by omega) (by omega), y2 k 0 j (by omega), r6 k j hk]
    refine ⟨0, 0, 0, 0, 0, ?_, ⟨by omega, x43 0 (by omega), x0 2 (by omega), fun j => ?_, fun i hi => absurd hi (Nat.not_lt_zero i)⟩, fun i ln w hi => absurd hi (Nat.not_lt_zero i), fun i _ hi => ⟨fun c hc => ⟨fun k hk => ?_, fun s k hs hk => x49 57 _ (by omega)⟩, fun k hk => x49 49 _ (by omega), x49 50 _ (by omega), x49 51 _ (by omega)⟩, fun i hi => ⟨fun k hk => ⟨0, by omega, x49 49 _ (by omega)⟩, 0, by omega, x49 50 _ (by omega)⟩, ⟨fun j => ?_, fun b hb => ?_⟩, ⟨by omega, x43 23 (by omega), x0 5 (by omega), fun j => ?_, fun f hf => absurd hf (Nat.not_lt_zero f)⟩, ⟨by omega, x43 15 (by omega), x0 7 (by omega), fun j hj => absurd hj (Nat.not_lt_zero j)⟩, ⟨by omega, x43 17 (by omega), x0 9 (by omega), fun j => ?_, fun f hf => absurd hf (Nat.not_lt_zero f)⟩, ⟨by omega, x43 20 (by omega), x0 11 (by omega), fun j => ?_, fun f hf => absurd hf (Nat.not_lt_zero f)⟩, fun k hk => ⟨?_, ?_⟩, fun s hs => ?_⟩
    · intro k i
      rw [avl_0]
      constructor
      · intro hm
        exact gNI_1 (k, i) hm
      · intro hm
        obtain ⟨q1, q2⟩ := avl0_lt hm
        exact gNI_2 k q1 i q2 hm
    · rw [xa 4 0 j (by omega) (by omega), a6 j, if_neg (Nat.not_lt_zero j)]
    · rw [x1 56 0 _ (by omega) (by omega), y6 _ (by omega)]
    · rw [xa 11 0 j (by omega) (by omega), a7 j]
    · obtain ⟨q1, q2, q3⟩ := a8 b hb
      refine ⟨4, by omega, by omega, ?_, ?_, ?_, ?_, ?_, fun j => ?_⟩
      · rw [x1 53 0 b (by omega) (by omega), y3 b hb]; rfl
      · rw [xa 12 b 0 (by omega) (by omega), q1]; rfl
      · rw [xa 12 b 2 (by omega) (by omega), q2]; rfl
      · show 0 ≤ 6; omega
      · show 0 ≤ 2 * 4; omega
      · rw [xa 13 b j (by omega) (by omega), q3 j]; rfl
    · rw [xa 22 0 j (by omega) (by omega), a9 j, if_neg (Nat.not_lt_zero j)]
    · rw [xa 25 0 j (by omega) (by omega), a10 j, if_neg (Nat.not_lt_zero j)]
    · rw [xa 28 0 j (by omega) (by omega), a11 j, if_neg (Nat.not_lt_zero j)]
    · rw [xa 2 0 k (by omega) (by omega), a4 k hk, x1 54 0 k (by omega) (by omega), y4 k hk]
    · rw [xa 3 0 k (by omega) (by omega), a5 k hk, x1 55 0 k (by omega) (by omega), y5 k hk]
    · obtain ⟨q1, q2, q3, q4, q5, q6, q7⟩ := a12 s hs
      rw [xa 14 s 0 (by omega) (by omega), xa 14 s 1 (by omega) (by omega), xa 14 s 9 (by omega) (by omega), xa 14 s 2 (by omega) (by omega)]
      refine ⟨q1, q2, Or.inl (by rw [q4]; decide), fun j => by rw [xa 21 s j (by omega) (by omega)]; exact q7 j, fun j => Or.inl (by rw [xa 18 s j (by omega) (by omega), q5 j]; decide), fun j => by rw [xa 19 s j (by omega) (by omega), q6 j]; decide, Or.inl q3⟩
