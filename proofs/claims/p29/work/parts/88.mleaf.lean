/-! leaf -/
theorem mUn {im ov un : Nat → Int32} {b : Nat} (h : ∀ k, k < 3 → im (3 * b + k) = -1) : mU im ov un b = -1 ∧ mO im ov un b = -1 := by
  have e := mU_cg (im := im) (ov := ov) (un := un) (im' := fun _ => -1) (ov' := ov) (un' := un) (b := b) (b' := 0) (fun k hk => h k hk) (fun _ _ => rfl) (fun _ _ => rfl)
  have h100 := cm_all (im := fun _ => -1) (ov := ov) (un := un) ⟨rfl, rfl, rfl⟩
  rw [e.1, e.2]
  unfold mU mO
  rw [h100, if_neg (by omega), if_neg (by omega)]
  exact ⟨rfl, rfl⟩
theorem cls_mem {L n K x : Nat} : (K, x) ∈ cls L n ↔ (K = 7 ∨ K = 8 ∨ K = 9 ∨ K = 10) ∧ ∃ j, j < n ∧ x = 32 * L + j := by
  induction n with
  | zero =>
    constructor
    · intro h; cases h
    · rintro ⟨-, j, hj, -⟩; omega
  | succ n ih =>
    unfold cls nw_X0_init
    rw [List.mem_append, ih]
    simp only [List.cons_append, List.nil_append, List.mem_cons, List.not_mem_nil, or_false, Prod.mk.injEq]
    constructor
    · rintro (⟨h1, j, hj, h2⟩ | ⟨rfl, rfl⟩ | ⟨rfl, rfl⟩ | ⟨rfl, rfl⟩ | ⟨rfl, rfl⟩)
      · exact ⟨h1, j, by omega, h2⟩
      all_goals exact ⟨by omega, n, by omega, rfl⟩
    · rintro ⟨h1, j, hj, rfl⟩
      by_cases hjn : j = n
      · subst hjn
        rcases h1 with rfl | rfl | rfl | rfl
        · exact Or.inr (Or.inl ⟨rfl, rfl⟩)
        · exact Or.inr (Or.inr (Or.inl ⟨rfl, rfl⟩))
        · exact Or.inr (Or.inr (Or.inr (Or.inl ⟨rfl, rfl⟩)))
        · exact Or.inr (Or.inr (Or.inr (Or.inr ⟨rfl, rfl⟩)))
      · exact Or.inl ⟨h1, j, by omega, rfl⟩
theorem cls_nd (L n : Nat) : (cls L n).Nodup := by
  induction n with
  | zero => exact List.nodup_nil
  | succ n ih =>
    unfold cls
    rw [List.nodup_append]
    refine ⟨ih, by simp [nw_X0_init], fun a ha b hb hab => ?_⟩
    subst hab
    obtain ⟨K, x⟩ := a
    obtain ⟨-, j, hj, hx⟩ := cls_mem.mp ha
    simp only [nw_X0_init, List.cons_append, List.nil_append, List.mem_cons, List.not_mem_nil, or_false, Prod.mk.injEq] at hb
    omega
theorem lfc_eq {n : Nat} (h : n ≤ 32) : lfc (nI n) = n := by
  unfold lfc
  rw [if_neg (zn_nn (by omega)), zn_tN (by omega)]
  by_cases q : n < 32
  · rw [if_pos q]
  · rw [if_neg q]; omega
/-- a cell just made -/
theorem X0_init_eq (al : Nat → Nat → Bool) (N a : Nat) (ha : a < 320) (X : gM) : ∃ Y, X0_init al N a X = some (0, Y) ∧ (∀ k p j, ¬ ((k = 8 ∨ k = 9 ∨ k = 10 ∨ k = 85) ∧ p = a) → Y k p j = X k p j) ∧ (∀ k, k < 3 → Y 8 a k = -1) ∧ (∀ j, Y 9 a j = 0) ∧ (∀ j, Y 10 a j = 0) ∧ Y 85 a 0 = nI a ∧ Y 85 a 1 = nI a ∧ Y 85 a 2 = nI a ∧ Y 85 a 3 = -1 ∧ Y 85 a 4 = -1 := by
  unfold X0_init
  simp (disch := omega) only [gl_eq, rd_l, Option.bind_some, rn_some]
  refine ⟨_, rfl, fun k p j hk => ?_, fun k hk => ?_, fun j => ?_, fun j => ?_, ?_, ?_, ?_, ?_, ?_⟩
  · simp only [mset_at, msl_at]
    repeat rw [if_neg (by omega)]
  · have hk3 : k = 0 ∨ k = 1 ∨ k = 2 := by omega
    rcases hk3 with rfl | rfl | rfl <;> simp [mset_at, msl_at]
  · simp [mset_at, msl_at]
  · simp [mset_at, msl_at]
  · simp [mset_at, msl_at]
  · simp [mset_at, msl_at]
  · simp [mset_at, msl_at]
  · simp [mset_at, msl_at]
  · simp [mset_at, msl_at]
theorem X2_init_L_eq {al : Nat → Nat → Bool} {N L ln w : Nat} (hN : 1000 ≤ N) (hL : L < 10) (hn : ln * w ≤ 32) {X : gM} (h6 : ∀ j, X 6 L j = -1) :
    ∃ Y, X2_init_L al N L (nI ln) (nI w) N 0 X = some (0, Y) ∧ (∀ k p j, ¬ (((k = 7 ∨ k = 8 ∨ k = 9 ∨ k = 10 ∨ k = 85) ∧ 32 * L ≤ p ∧ p < 32 * L + 32) ∨ (k = 6 ∧ p = L)) → Y k p j = X k p j) ∧
      (∀ j, Y 6 L j = if j < ln * w then nI (32 * L + j) else -1) ∧ ∀ c, c < ln * w → (∀ k, k < 3 → Y 8 (32 * L + c) k = -1) ∧ (∀ j, Y 9 (32 * L + c) j = 0) ∧ (∀ j, Y 10 (32 * L + c) j = 0) ∧ Y 7 (32 * L + c) 3 = -1 ∧ Y 7 (32 * L + c) 4 = -1 := by
  refine m_up0 (ln * w) (fun fu i (Y : gM) => X2_init_L al N L (nI ln) (nI w) fu i Y)
    (fun i Y => (∀ k p j, ¬ (((k = 7 ∨ k = 8 ∨ k = 9 ∨ k = 10 ∨ k = 85) ∧ 32 * L ≤ p ∧ p < 32 * L + 32) ∨ (k = 6 ∧ p = L)) → Y k p j = X k p j) ∧
      (∀ j, Y 6 L j = if j < i then nI (32 * L + j) else -1) ∧ ∀ c, c < i → (∀ k, k < 3 → Y 8 (32 * L + c) k = -1) ∧ (∀ j, Y 9 (32 * L + c) j = 0) ∧ (∀ j, Y 10 (32 * L + c) j = 0) ∧ Y 7 (32 * L + c) 3 = -1 ∧ Y 7 (32 * L + c) 4 = -1) (fun o => ∃ Y, o = some (0, Y) ∧ (∀ k p j, ¬ (((k = 7 ∨ k = 8 ∨ k = 9 ∨ k = 10 ∨ k = 85) ∧ 32 * L ≤ p ∧ p < 32 * L + 32) ∨ (k = 6 ∧ p = L)) → Y k p j = X k p j) ∧
      (∀ j, Y 6 L j = if j < ln * w then nI (32 * L + j) else -1) ∧ ∀ c, c < ln * w → (∀ k, k < 3 → Y 8 (32 * L + c) k = -1) ∧ (∀ j, Y 9 (32 * L + c) j = 0) ∧ (∀ j, Y 10 (32 * L + c) j = 0) ∧ Y 7 (32 * L + c) 3 = -1 ∧ Y 7 (32 * L + c) 4 = -1) X (by omega) ?_ ?_ ⟨fun _ _ _ _ => rfl, fun j => by rw [if_neg (Nat.not_lt_zero j)]; exact h6 j, fun c hc => absurd hc (Nat.not_lt_zero c)⟩
  · rintro i fu Y hi ⟨h1, h2, h3⟩ ih
    obtain ⟨Z, z1, z2, z3, z4, z5, z6, z7, z8, z9, z10⟩ := X0_init_eq al N (32 * L + i) (by omega) (msl Y 85 (32 * L + i) rz_85)
    have hrk : rk_7 (32 * L + i) (Z 85 (32 * L + i)) = some 0 := by
      unfold rk_7
      rw [z6, z7, z8, zn_tN (by omega), if_pos ⟨⟨zn_nn (by omega), rfl⟩, ⟨zn_nn (by omega), rfl⟩, ⟨zn_nn (by omega), rfl⟩⟩]
    simp (disch := omega) only [X2_init_L, zn_mul, zn_le, zn_lle, if_neg, zn_tN, gl_eq, z1, bind2_some, hrk, Option.bind_some, rd_nI, rn_some, zn_addl]
    generalize hZ2 : mset (msl Z 7 (32 * L + i) (Z 85 (32 * L + i))) 6 L i (nI (32 * L + i)) = Z2
    have f2 : ∀ k p j, ¬ (((k = 7 ∨ k = 8 ∨ k = 9 ∨ k = 10 ∨ k = 85) ∧ p = 32 * L + i) ∨ (k = 6 ∧ p = L ∧ j = i)) → Z2 k p j = Y k p j := fun k p j hk => by
      rw [← hZ2, mset_at, if_neg (by omega), msl_at, if_neg (by omega), z2 k p j (by omega), msl_at, if_neg (by omega)]
    refine ih Z2 ⟨fun k p j hk => ?_, fun j => ?_, fun c hc => ?_⟩
    · rw [f2 k p j (by omega), h1 k p j hk]
    · by_cases hji : j = i
      · subst hji
        rw [← hZ2, mset_same, if_pos (by omega)]
      · rw [f2 6 L j (by omega), h2 j]
        by_cases hlt : j < i
        · rw [if_pos hlt, if_pos (by omega)]
        · rw [if_neg hlt, if_neg (by omega)]
    · by_cases hci : c = i
      · subst hci
        have s7 : ∀ j, Z2 7 (32 * L + c) j = Z 85 (32 * L + c) j := fun j => by
          rw [← hZ2, mset_at, if_neg (by omega), msl_at, if_pos ⟨rfl, rfl⟩]
        have s8 : ∀ k j, (k = 8 ∨ k = 9 ∨ k = 10) → Z2 k (32 * L + c) j = Z k (32 * L + c) j := fun k j hk => by
          rw [← hZ2, mset_at, if_neg (by omega), msl_at, if_neg (by omega)]
        refine ⟨fun k hk => by rw [s8 8 k (by omega)]; exact z3 k hk, fun j => by rw [s8 9 j (by omega)]; exact z4 j, fun j => by rw [s8 10 j (by omega)]; exact z5 j, by rw [s7]; exact z9, by rw [s7]; exact z10⟩
      · obtain ⟨r1, r2, r3, r4, r5⟩ := h3 c (by omega)
        refine ⟨fun k hk => (f2 8 _ k (by omega)).trans (r1 k hk), fun j => (f2 9 _ j (by omega)).trans (r2 j), fun j => (f2 10 _ j (by omega)).trans (r3 j), (f2 7 _ 3 (by omega)).trans r4, (f2 7 _ 4 (by omega)).trans r5⟩
  · rintro fu Y ⟨h1, h2, h3⟩
    simp (disch := omega) only [X2_init_L, zn_mul, zn_le, if_pos]
    exact ⟨Y, rfl, h1, h2, h3⟩
theorem lvg_app (l : List Nat) (x j : Nat) : lvg (l ++ [x]) j = if j = l.length then nI x else lvg l j := by
  unfold lvg
  by_cases h : j = l.length
  · subst h
    rw [if_pos rfl]; simp
  · rw [if_neg h]
    by_cases h2 : j < l.length
    · rw [List.getElem?_append_left h2]
    · rw [List.getElem?_eq_none (by simp; omega), List.getElem?_eq_none (by omega)]
theorem lvs_cg {x y : Nat → Int32} {b n : Nat} (h : ∀ i, i < n → x i = y i) : lvs x b n = lvs y b n := by
  induction n with
  | zero => rfl
  | succ n ih => unfold lvs; rw [ih (fun i hi => h i (by omega)), h n (by omega)]
