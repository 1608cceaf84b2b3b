/-! the kept world's references are alive -/
theorem gok_n {NL : List (Nat × Nat)} {K a : Nat} {v : Int32} (hv : v = nI a) (ha : a < 1000) (h : (K, a) ∈ NL) : gok NL K v := by
  subst hv
  exact Or.inr (by rw [zn_tN (by omega)]; exact h)
theorem gok_m {NL : List (Nat × Nat)} {K : Nat} {v : Int32} (hv : v = -1) : gok NL K v := by
  subst hv
  exact Or.inl (by decide)
def fxB (q : Nat × Nat) : Bool := decide (q.2 = 0) && decide (q.1 < 43) && !([5, 6, 7, 8, 9, 10, 23, 26, 27].contains q.1)
theorem gsr_k (k i : Nat) : k = 0 ∨ k = 1 ∨ k = 5 ∨ k = 7 ∨ k = 12 ∨ k = 14 ∨ k = 26 ∨ k = 29 ∨ k = 37 ∨ k = 40 ∨ k = 43 ∨ gsr k i = [] := by
  unfold gsr
  split <;> simp
theorem gJ_w : gJw gJ := by
  intro NL X h
  obtain ⟨L, F, D, W, K, g1, g2, g3, g4, g5, g6, g7, g8, g9, g10, g11, g12⟩ := h
  obtain ⟨hL, h430, h002, h4, hlf⟩ := g2
  obtain ⟨h11, hB⟩ := g6
  obtain ⟨hF12, e1, e2, h22, hf⟩ := g7
  obtain ⟨hW, w1, w2, h25, hw⟩ := g9
  obtain ⟨hK, k1, k2, h28, hk⟩ := g10
  have hin : ∀ k i, avl L F W K X k i → (k, i) ∈ NL := fun k i q => (g1 k i).mpr q
  have hou : ∀ k i, (k, i) ∈ NL → avl L F W K X k i := fun k i q => (g1 k i).mp q
  have fx : ∀ k, k < 43 → k ≠ 5 → k ≠ 6 → k ≠ 7 → k ≠ 8 → k ≠ 9 → k ≠ 10 → k ≠ 23 → k ≠ 26 → k ≠ 27 → (k, 0) ∈ NL := fun k h1 h5 h6 h7 h8 h9 h10 h23 h26 h27 => by
    refine hin k 0 ?_
    unfold avl
    split <;> first | contradiction | omega | exact ⟨h1, rfl⟩
  have fxq : ∀ q, fxB q = true → q ∈ NL := fun q hq => by
    obtain ⟨k, i⟩ := q
    simp [fxB] at hq
    obtain ⟨⟨rfl, q1⟩, q2⟩ := hq
    exact fx k q1 (by omega) (by omega) (by omega) (by omega) (by omega) (by omega) (by omega) (by omega) (by omega)
  have hlt : ∀ k i, (k, i) ∈ NL → k < 43 := fun k i q => by
    have h1 := hou k i q
    unfold avl at h1
    split at h1 <;> first | omega | exact h1.1
  refine ⟨fun k i q hm hq => ?_, fun k i hm => ⟨Nat.lt_trans (hlt k i hm) (by decide), ?_⟩, fx 0 (by omega) (by omega) (by omega) (by omega) (by omega) (by omega) (by omega) (by omega) (by omega) (by omega), fun n hn => hlt n.1 n.2 hn⟩
  · have h1 := hou k i hm
    rcases gsr_k k i with rfl | rfl | rfl | rfl | rfl | rfl | rfl | rfl | rfl | rfl | rfl | h0
    · exact fxq q (List.all_eq_true.mp (by decide +kernel : (gsr 0 0).all fxB = true) q hq)
    · exact fxq q (List.all_eq_true.mp (by decide +kernel : (gsr 1 0).all fxB = true) q hq)
    · rw [List.mem_singleton.mp (show q ∈ [(6, i)] from hq)]
      exact hin 6 i h1
    · have hq2 : q = (8, i) ∨ q = (9, i) ∨ q = (10, i) := by simpa [gsr] using hq
      rcases hq2 with rfl | rfl | rfl
      · exact hin 8 i h1
      · exact hin 9 i h1
      · exact hin 10 i h1
    · have h2 : i < 2 := h1
      have hq2 : q = (13, i) ∨ q = (14, 3 * i) ∨ q = (14, 3 * i + 1) ∨ q = (14, 3 * i + 2) := by simpa [gsr] using hq
      rcases hq2 with rfl | rfl | rfl | rfl
      · exact hin 13 i h1
      · exact hin 14 _ (show 3 * i < 6 by omega)
      · exact hin 14 _ (show 3 * i + 1 < 6 by omega)
      · exact hin 14 _ (show 3 * i + 2 < 6 by omega)
    · have hq2 : q = (15, i) ∨ q = (16, i) ∨ q = (17, i) ∨ q = (18, i) ∨ q = (20, i) ∨ q = (21, i) := by simpa [gsr] using hq
      rcases hq2 with rfl | rfl | rfl | rfl | rfl | rfl
      · exact hin 15 i h1
      · exact hin 16 i h1
      · exact hin 17 i h1
      · exact hin 18 i h1
      · exact hin 20 i h1
      · exact hin 21 i h1
    · rw [List.mem_singleton.mp (show q ∈ [(27, i)] from hq)]
      exact hin 27 i h1
    · exact fxq q (List.all_eq_true.mp (by decide +kernel : (gsr 29 0).all fxB = true) q hq)
    · have hq2 : q ∈ (List.range 9).map (fun j => (38, j)) := hq
      obtain ⟨j, hj, rfl⟩ := List.mem_map.mp hq2
      exact hin 38 j (List.mem_range.mp hj)
    · exact fxq q (List.all_eq_true.mp (by decide +kernel : (gsr 40 0).all fxB = true) q hq)
    · exact absurd (hlt 43 i hm) (by decide)
    · rw [h0] at hq
      cases hq
  · have h1 := hou k i hm
    unfold gdy
    split
    · have hi : i = 0 := h1.2
      subst hi
      intro j
      rw [h4 j]
      by_cases hj : j < L
      · rw [if_pos hj]
        exact gok_n rfl (by omega) (hin 5 j hj)
      · rw [if_neg hj]
        exact gok_m rfl
    · obtain ⟨b, ln, w, hb, l1, l2, q1, q2, f44, f45, f46, f50, f51, -⟩ := hlf i h1
      exact gok_n f51 (by omega) (hin 12 b hb)
    · obtain ⟨b, ln, w, hb, l1, l2, q1, q2, f44, f45, f46, f50, f51, f52, f53, f6, -⟩ := hlf i h1
      have hiL : i < L := h1
      have hlw := lw_le l2 q2
      intro j
      rw [f6 j]
      by_cases hj : j < ln * w
      · rw [if_pos hj]
        exact gok_n rfl (by omega) (hin 7 _ ⟨i, ln, w, j, h1, f45, f46, l2, q2, hj, rfl⟩)
      · rw [if_neg hj]
        exact gok_m rfl
    · have hi : i = 0 := h1.2
      subst hi
      intro j
      rw [h11 j]
      by_cases hj : j < 2
      · rw [if_pos hj]
        exact gok_n rfl (by omega) (hin 12 j hj)
      · rw [if_neg hj]
        exact gok_m rfl
    · obtain ⟨s, s1, s2, h53, h12, h122, hm6, hms, h13⟩ := hB i h1
      intro j
      rw [h13 j]
      unfold lvg
      split
      · rename_i x hx
        have := (lvs_mem.mp (List.mem_of_getElem? hx)).1
        exact gok_n rfl (by omega) (hin 5 x this)
      · exact gok_m rfl
    · have hi6 : i < 6 := h1
      obtain ⟨q1, q2, q3, -⟩ := g12 i hi6
      rcases q3 with q3 | q3
      · exact Or.inl ⟨q3, hin 19 i h1⟩
      · refine Or.inr ⟨?_, ?_⟩
        · rw [q3]; exact zn_nn (by omega)
        · rw [q3, zn_tN (by omega)]
          exact hin 13 _ (show i / 3 < 2 by omega)
    · have hi6 : i < 6 := h1
      obtain ⟨q1, q2, q3, q4, q5, q6, q7⟩ := g12 i hi6
      intro j
      rcases q5 j with q | ⟨f, hf', q⟩
      · exact Or.inl q
      · exact gok_n q (by omega) (hin 23 f hf')
    · have hi6 : i < 6 := h1
      obtain ⟨q1, q2, q3, q4, q5, q6, q7⟩ := g12 i hi6
      intro j
      exact Or.inl (q6 j)
    · have hi6 : i < 6 := h1
      obtain ⟨q1, q2, q3, q4, q5, q6, q7⟩ := g12 i hi6
      intro j
      exact gok_m (q4 j)
    · have hi : i = 0 := h1.2
      subst hi
      intro j
      rw [h22 j]
      by_cases hj : j < F
      · rw [if_pos hj]
        exact gok_n rfl (by omega) (hin 23 j hj)
      · rw [if_neg hj]
        exact gok_m rfl
    · obtain ⟨k', a', o', b', hk', ha', hb', f44, f63, f64, f65, q3', qn3', f0, f1, -⟩ := hf i h1
      exact gok_n f1 (by omega) (hin 12 b' hb')
    · have hi : i = 0 := h1.2
      subst hi
      intro j
      rw [h25 j]
      by_cases hj : j < W
      · rw [if_pos hj]
        exact gok_n rfl (by omega) (hin 26 j (Or.inl hj))
      · rw [if_neg hj]
        exact gok_m rfl
    · have hi : i = 0 := h1.2
      subst hi
      intro j
      rw [h28 j]
      by_cases hj : j < K
      · rw [if_pos hj]
        exact gok_n rfl (by omega) (hin 26 (12 + j) (Or.inr (by omega)))
      · rw [if_neg hj]
        exact gok_m rfl
    · trivial
