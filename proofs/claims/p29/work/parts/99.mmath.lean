/-! all that is left: the start and the end of the law -/
set_option maxRecDepth 100000 in
theorem gNI_n5 : ¬ (5, 0) ∈ gNI := by decide +kernel
set_option maxRecDepth 100000 in
theorem gNI_n23 : ¬ (23, 0) ∈ gNI := by decide +kernel
set_option maxRecDepth 100000 in
theorem gNI_n26 : ¬ (26, 12) ∈ gNI := by decide +kernel
theorem m_end : gEn J29 1000000 := fun NL X a b c hJ L xs => by
  obtain ⟨D, W, hJ⟩ := hJ
  have ha : a ≤ 10 := hJ.2.1.1
  obtain ⟨r, X1, X2, h9, h10, hP, hg⟩ := pk_worth (Nat.le_refl _) (JJ_gJ hJ)
  refine ⟨X2, ?_⟩
  unfold Q_end
  rw [hP, bind2_some, if_neg (by decide)]
  rcases v_worth (Nat.le_refl _) hJ h9 with hr | ⟨i, hi, hr⟩
  · rw [hr, if_neg (by decide), if_neg (fun q => by
      have h1 : (0 : Int32) ≤ nI a := not_lt32.mp (zn_nn (by omega))
      exact absurd (Int32.le_trans h1 q) (by decide))]
  · rw [hr, if_neg (fun q => by
      have h1 : (0 : Int32) ≤ nI i := not_lt32.mp (zn_nn (by omega))
      exact absurd (Int32.lt_of_le_of_lt h1 q) (by decide)), if_neg (fun q => by
      have := (zn_le (by omega) (by omega)).mp q
      omega)]
theorem m_begin : gBg J29 1000000 := by
  obtain ⟨rr, X, hKI, L0, F0, D, W, K0, hJ⟩ := start_J (Nat.le_refl 1000000)
  have hJ : JJ gNI L0 F0 D W K0 X := hJ
  have g1 := hJ.1
  have eL : L0 = 0 := by
    rcases Nat.eq_zero_or_pos L0 with q | q
    · exact q
    · exact absurd ((g1 5 0).mpr q) gNI_n5
  have eF : F0 = 0 := by
    rcases Nat.eq_zero_or_pos F0 with q | q
    · exact q
    · exact absurd ((g1 23 0).mpr q) gNI_n23
  have eK : K0 = 0 := by
    rcases Nat.eq_zero_or_pos K0 with q | q
    · exact q
    · exact absurd ((g1 26 12).mpr (show 12 < W ∨ (12 ≤ 12 ∧ 12 < 12 + K0) from Or.inr ⟨by omega, by omega⟩)) gNI_n26
  rw [eL, eF, eK] at hJ
  refine ⟨rr, X, hKI, fun L xs hL => ?_⟩
  obtain ⟨r, X1, X2, h9, h10, hP, hg⟩ := pk_worth (Nat.le_refl _) (JJ_gJ hJ)
  obtain ⟨D2, hJ2⟩ := same_n hJ hg
  have hr : r = -1 := by
    rcases v_worth (Nat.le_refl _) hJ h9 with hr | ⟨i, hi, hr⟩
    · exact hr
    · omega
  obtain ⟨sh, X3, s1, s4, h53, e1, hJ3⟩ := q_arr (Nat.le_refl _) hJ2 (by omega : 0 < 2) true
  have e1 : P_arrangements (gal gNI) 1000000 0 1 X2 = some (0, nI (nc (2 * sh) (fit X2 0 (2 * sh) [] true 99) [] a00), X3) := e1
  have hn : nc (2 * sh) (fit X2 0 (2 * sh) [] true 99) [] a00 = 1 := by
    show pc (fit X2 0 (2 * sh) [] true 99 a00) = 1
    have hg : geo X2 [] a00 := ⟨fun i hi => absurd hi List.not_mem_nil, fun h _ i hi => absurd hi List.not_mem_nil, fun i hi => absurd hi List.not_mem_nil⟩
    have hft : fit X2 0 (2 * sh) [] true 99 a00 := ⟨hg, fun f hf => absurd hf.1 (Nat.not_lt_zero f)⟩
    unfold pc
    exact if_pos hft
  rw [hn] at e1
  obtain ⟨v, hv, ev⟩ := jl_l (jcell L xs (0 : Int32)) 40 (by omega)
  have ev : jlow (jcell L xs (0 : Int32)) (40 : Int32) = nI v := ev
  have e10 : (10 : Int32) + nI v = nI (10 + v) := zn_add 10 v
  refine ⟨10 + v, X3, by omega, ?_, D2, W, hJ3⟩
  unfold Q_begin
  rw [hP, bind2_some, if_pos hr, e1, bind3_some, if_pos rfl, if_pos (show nI 1 = (1 : Int32) from rfl)]
  unfold Q_begin_J38
  have h0 : nn (0 : Int32) = some 0 := rfl
  rw [h0, Option.bind_some, gl_eq, gl_eq, ev, gl_eq, e10]
theorem g_math : gMath := ⟨1000000, J29, fun NL X a b c h => by
  obtain ⟨D, W, h⟩ := h
  exact gJ_w NL X (JJ_gJ h), m_turn, m_end, m_begin⟩
