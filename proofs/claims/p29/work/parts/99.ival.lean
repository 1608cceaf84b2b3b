/-! the first line of a leaf by a layer: what the class answers -/
def lS (X : gM) (x m W : Nat) (y : Int32) : (Nat → Option Nat) × (Nat → Int32) × (Nat → Nat → Int32) := rdT m W (lnB X x 0) (lnH X x 0 m y) (lnN X x 0 y) (lnL X) (lnD X) m
theorem lS_cg {X Y : gM} (h : keeps X Y) (x m W : Nat) (y : Int32) : lS Y x m W y = lS X x m W y ∧ lnB Y x 0 = lnB X x 0 := by
  have e (k : Nat) (h1 : 44 ≤ k) (h2 : k ≤ 67) : Y k 0 = X k 0 := by rw [h k h1 h2]
  obtain ⟨z1, z2, z3, z4, z5⟩ := ln_cg (X := X) (Y := Y) (e 54 (by omega) (by omega)) (e 55 (by omega) (by omega)) (e 56 (by omega) (by omega)) (e 57 (by omega) (by omega)) (e 59 (by omega) (by omega)) (e 60 (by omega) (by omega)) x 0 m y
  unfold lS
  rw [z1, z2, z3, z4, z5]
  exact ⟨rfl, rfl⟩
theorem line_S {NL : List (Nat × Nat)} {N L F D W K x m y : Nat} {X : gM} (hN : 1000000 ≤ N) (hJ : JJ NL L F D W K X) (hx : x < L) (hm : X 46 0 x = nI m) (hm8 : m ≤ 8) : ∃ ln Y, 1 ≤ ln ∧ ln ≤ 4 ∧ 1 ≤ m ∧ m ≤ 8 ∧ X 45 0 x = nI ln ∧ X 5 x 2 = nI ln ∧ X 5 x 3 = nI m ∧ (∀ j, X 6 x j = if j < ln * m then nI (32 * x + j) else -1) ∧
    X6_read (gal NL) N x (nI 0) (nI y) X = some (0, Y) ∧ (∀ k p j, ¬ ((29 ≤ k ∧ k ≤ 36) ∨ k = 38) → Y k p j = X k p j) ∧
      ldC m W (lnB X x 0) (lnH X x 0 m (nI y)) (lnN X x 0 (nI y)) (lnL X) (lnD X) Y ∧ ftC m W (lnB X x 0) (lnH X x 0 m (nI y)) (lnN X x 0 (nI y)) (lnL X) (lnD X) Y ∧
      rdR m 0 (Y 35 0) (Y 36 0) (rwC Y) (lS X x m W (nI y)) := by
  obtain ⟨g1, g2, g3, g4, g5, g6, g7, g8, g9, g10, g11, g12⟩ := id hJ
  obtain ⟨hL, h430, h002, h4, hlf⟩ := id g2
  obtain ⟨b, ln, w, hb, l1, l2, w1, w2, f44, f45, f46, f50, f51, f52, f53, f6, -⟩ := hlf x hx
  have e : w = m := (zn_eq (by omega) (by omega)).mp (f46.symm.trans hm)
  subst e
  obtain ⟨Y, y1, y2, y3, y4, y5, -⟩ := readBoth (al := gal NL) (y := nI y) (by omega : 1000 ≤ N) g1 g2 g3 g9 hx (l := 0) (by omega) l2 f45 f46 f52 f53 f6 w1 w2
  exact ⟨ln, Y, l1, l2, w1, w2, f45, f52, f53, f6, y1, y2, y3, y4, y5⟩
/-- what is known of a reading -/
theorem S_facts {m W : Nat} {bl : Nat → Bool} {G : Nat → Nat → Nat} {gn : Nat → Nat} {wl : Nat → Nat} {wd : Nat → Nat → Nat} {Y : gM} (h : ldC m W bl G gn wl wd Y) : (∀ c, c ≤ m → wyA m W bl G gn wl wd (rdT m W bl G gn wl wd m) c) ∧ (∀ c, c ≤ m → rwA m bl (rdT m W bl G gn wl wd m) c) ∧ (∀ c, c ≤ m → (rdT m W bl G gn wl wd m).1 c = none → (rdT m W bl G gn wl wd m).2.1 c = 0) ∧ (∀ c b, c ≤ m → (rdT m W bl G gn wl wd m).1 c = some b → b ≤ 648) ∧ (∀ w, w < W → 1 ≤ wl w ∧ ∀ k, k < wl w → wd w k < 26) := by
  obtain ⟨t1, t2, t3, t4, t5, t6, t7⟩ := h
  have hwd : ∀ w, w < W → 1 ≤ wl w ∧ ∀ k, k < wl w → wd w k < 26 := fun w hw => by
    obtain ⟨q1, q2, q3, q4, q5⟩ := t7 w hw
    exact ⟨q1, fun k hk => (q5 k hk).1⟩
  have hbb := rdT_le m W bl G gn wl wd t5 (fun w hw => (t7 w hw).1) m (Nat.le_refl m)
  refine ⟨fun c hc => rdT_n t5 (fun w hw => (hwd w hw).1) t2 t3 m (Nat.le_refl m) c (by omega) hc, fun c hc => rdT_r t5 hwd m (Nat.le_refl m) c (by omega) hc, fun c hc => rdT_z m (Nat.le_refl m) c (by omega) hc, fun c b hc hb => ?_, hwd⟩
  have := hbb c b (by omega) hc hb
  have h2 : 81 * (m - c) ≤ 81 * 8 := Nat.mul_le_mul_left 81 (by omega)
  omega
theorem rd09 : rd (0 : Int32) 9 = some 0 := rd_nI (a := 0) (by omega) (by omega)
theorem v_weight {NL : List (Nat × Nat)} {N L F D W K x m y k : Nat} {r : Int32} {X X1 : gM} (hN : 1000000 ≤ N) (hJ : JJ NL L F D W K X) (hx : x < L) (hm : X 46 0 x = nI m) (hm8 : m ≤ 8) (hy : y ≤ 7) (h : X9_weight (gal NL) N (nI x) (nI 0) (nI y) X = some (k, r, X1)) : k = 0 ∧ r = enc ((lS X x m W (nI y)).1 0) := by
  obtain ⟨ln, Y, l1, l2, m1, m2, f45, f52, f53, f6, y1, y2, y3, y4, y5⟩ := line_S (y := y) hN hJ hx hm hm8
  have ha : gal NL 5 x = true := gal_al hJ.1 hx
  have hL10 : L ≤ 10 := hJ.2.1.1
  have hly : (0 : Int32) ≤ nI y ∧ nI y ≤ 7 := ⟨not_lt32.mp (zn_nn (by omega)), (zn_lel (k := 7) (by omega) (by decide)).mpr (show y ≤ 7 by omega)⟩
  unfold X9_weight at h
  rw [X9_leafOf_yes hJ.2.1.1 hJ.2.1.2.2.2.1 hx, bind2_some, if_neg (zn_nn (by omega)), dr_nI ha (by omega), Option.bind_some, X2_hasLine_eq f52, bind2_some, if_pos (ir_nI (by omega) (by omega)), if_neg (by decide), X9_isLayer_eq, bind2_some, if_pos hly, if_neg (by decide), y1, bind2_some] at h
  unfold X6_bestWeight at h
  rw [rd09, Option.bind_some, bind2_some] at h
  cases h
  exact ⟨rfl, (y5 0 (Nat.le_refl 0) (Nat.zero_le m)).1⟩
theorem v_readings {NL : List (Nat × Nat)} {N L F D W K x m y k : Nat} {r : Int32} {X X1 : gM} (hN : 1000000 ≤ N) (hJ : JJ NL L F D W K X) (hx : x < L) (hm : X 46 0 x = nI m) (hm8 : m ≤ 8) (hy : y ≤ 7) (h : X9_readings (gal NL) N (nI x) (nI 0) (nI y) X = some (k, r, X1)) : k = 0 ∧ ((lS X x m W (nI y)).1 0 = none → r = 0) ∧ ((lS X x m W (nI y)).1 0 ≠ none → ∃ n, 1 ≤ n ∧ n ≤ 429981696 ∧ r = nI n ∧ n = nW (lS X x m W (nI y)) 0) := by
  obtain ⟨ln, Y, l1, l2, m1, m2, f45, f52, f53, f6, y1, y2, y3, y4, y5⟩ := line_S (y := y) hN hJ hx hm hm8
  obtain ⟨sA, sR, sZ, sB, -⟩ := S_facts y3
  have ha : gal NL 5 x = true := gal_al hJ.1 hx
  have hL10 : L ≤ 10 := hJ.2.1.1
  have hly : (0 : Int32) ≤ nI y ∧ nI y ≤ 7 := ⟨not_lt32.mp (zn_nn (by omega)), (zn_lel (k := 7) (by omega) (by decide)).mpr (show y ≤ 7 by omega)⟩
  unfold X9_readings at h
  rw [X9_leafOf_yes hJ.2.1.1 hJ.2.1.2.2.2.1 hx, bind2_some, if_neg (zn_nn (by omega)), dr_nI ha (by omega), Option.bind_some, X2_hasLine_eq f52, bind2_some, if_pos (ir_nI (by omega) (by omega)), if_neg (by decide), X9_isLayer_eq, bind2_some, if_pos hly, if_neg (by decide), y1, bind2_some] at h
  unfold X6_bestCount at h
  rw [rd09, Option.bind_some, bind2_some] at h
  cases h
  have e36 := (y5 0 (Nat.le_refl 0) (Nat.zero_le m)).2.1
  refine ⟨rfl, fun q => e36.trans (sZ 0 (Nat.zero_le m) q), fun q => ?_⟩
  obtain ⟨a1, a2, a3, -⟩ := sA 0 (Nat.zero_le m)
  exact ⟨_, a3 q, Nat.le_trans a2 (pow12_8 (by omega)), e36.trans a1, rfl⟩
theorem v_letter {NL : List (Nat × Nat)} {N L F D W K x m y c k : Nat} {r : Int32} {X X1 : gM} (hN : 1000000 ≤ N) (hJ : JJ NL L F D W K X) (hx : x < L) (hm : X 46 0 x = nI m) (hm8 : m ≤ 8) (hy : y ≤ 7) (hc : c < m) (h : X9_letter (gal NL) N (nI x) (nI 0) (nI c) (nI y) X = some (k, r, X1)) : k = 0 ∧ ((lS X x m W (nI y)).1 0 = none → r = -1) ∧ ((lS X x m W (nI y)).1 0 ≠ none → (lnB X x 0 c = true → r = -1) ∧ (lnB X x 0 c = false → ∃ v, v < 26 ∧ r = nI v)) := by
  obtain ⟨ln, Y, l1, l2, m1, m2, f45, f52, f53, f6, y1, y2, y3, y4, y5⟩ := line_S (y := y) hN hJ hx hm hm8
  obtain ⟨sA, sR, sZ, sB, -⟩ := S_facts y3
  have ha : gal NL 5 x = true := gal_al hJ.1 hx
  have hL10 : L ≤ 10 := hJ.2.1.1
  have hly : (0 : Int32) ≤ nI y ∧ nI y ≤ 7 := ⟨not_lt32.mp (zn_nn (by omega)), (zn_lel (k := 7) (by omega) (by decide)).mpr (show y ≤ 7 by omega)⟩
  have hlt := lw_lt (ln := ln) (w := m) (l := 0) (c := c) (by omega) hc
  have hle := lw_le l2 m2
  have hca := X2_cellAt_yes (al := gal NL) (N := N) (i := x) (X := X) f52 f53 m2 l2 f6 (l := 0) (by omega) hc
  have nc : ¬ nI m ≤ nI c := fun q => by
    have := (zn_le (by omega) (by omega)).mp q
    omega
  obtain ⟨q35, q36, q38⟩ := y5 0 (Nat.le_refl 0) (Nat.zero_le m)
  unfold X9_letter at h
  rw [X9_leafOf_yes hJ.2.1.1 hJ.2.1.2.2.2.1 hx, bind2_some, if_neg (zn_nn (by omega)), dr_nI ha (by omega), Option.bind_some, hca, bind2_some, if_neg (zn_nn (by omega)), X9_isLayer_eq, bind2_some, if_pos hly, if_neg (by decide), y1, bind2_some] at h
  unfold X6_firstLetter X6_firstLetter_J22 at h
  rw [if_neg (zn_nn (by omega)), show Y 29 0 0 = nI m from y3.1, if_neg nc, rd09, Option.bind_some, q35] at h
  cases hs : (lS X x m W (nI y)).1 0 with
  | none =>
    rw [hs, if_pos (show enc none = -1 from rfl), bind2_some] at h
    cases h
    exact ⟨rfl, fun _ => rfl, fun q => absurd rfl q⟩
  | some b =>
    have hb := sB 0 b (Nat.zero_le m) hs
    have en : ¬ enc (some b) = -1 := zn_ne1 (by omega)
    have hne : (lS X x m W (nI y)).1 0 ≠ none := by rw [hs]; nofun
    rw [hs, if_neg en, Option.bind_some, rd_nI (by omega) (by omega), Option.bind_some, bind2_some] at h
    have e38 : Y 38 0 c = (lS X x m W (nI y)).2.2 0 c := q38 hne c (Nat.zero_le c) hc
    cases h
    obtain ⟨r1, r2⟩ := sR 0 (Nat.zero_le m) hne c (Nat.zero_le c) hc
    refine ⟨rfl, fun q => (by cases q), fun _ => ⟨fun q => e38.trans (r1 q), fun q => ?_⟩⟩
    obtain ⟨v, hv, ev⟩ := r2 q
    exact ⟨v, hv, e38.trans ev⟩
theorem v_state {NL : List (Nat × Nat)} {N L F D W K x m y c k : Nat} {r : Int32} {X X1 : gM} (hN : 1000000 ≤ N) (hJ : JJ NL L F D W K X) (hx : x < L) (hm : X 46 0 x = nI m) (hm8 : m ≤ 8) (hy : y ≤ 7) (hc : c < m) (h : X9_state (gal NL) N (nI x) (nI 0) (nI c) (nI y) X = some (k, r, X1)) : k = 0 ∧ ((lS X x m W (nI y)).1 0 = none → r = 0) ∧ ((lS X x m W (nI y)).1 0 ≠ none → (lnB X x 0 c = true → r = 1) ∧ (lnB X x 0 c = false → r = 2 ∨ r = 3 ∨ r = 4 ∨ (r = 5 ∧ nW (lS X x m W (nI y)) 0 ≠ 1))) := by
  obtain ⟨ln, Y, l1, l2, m1, m2, f45, f52, f53, f6, y1, y2, y3, y4, y5⟩ := line_S (y := y) hN hJ hx hm hm8
  obtain ⟨sA, sR, sZ, sB, hwd⟩ := S_facts y3
  obtain ⟨t1, t2, t3, t4, t5, t6, t7⟩ := id y3
  have ha : gal NL 5 x = true := gal_al hJ.1 hx
  have hL10 : L ≤ 10 := hJ.2.1.1
  have hly : (0 : Int32) ≤ nI y ∧ nI y ≤ 7 := ⟨not_lt32.mp (zn_nn (by omega)), (zn_lel (k := 7) (by omega) (by decide)).mpr (show y ≤ 7 by omega)⟩
  have hlt := lw_lt (ln := ln) (w := m) (l := 0) (c := c) (by omega) hc
  have hle := lw_le l2 m2
  have hca := X2_cellAt_yes (al := gal NL) (N := N) (i := x) (X := X) f52 f53 m2 l2 f6 (l := 0) (by omega) hc
  have nc : ¬ nI m ≤ nI c := fun q => by
    have := (zn_le (by omega) (by omega)).mp q
    omega
  have hBP := bhP_of m W (lnB X x 0) (lnH X x 0 m (nI y)) (lnN X x 0 (nI y)) (lnL X) (lnD X) t5 (fun w hw => (t7 w hw).1)
  have hfl : ∀ p w f, w < W → fitW m (lnB X x 0) (lnH X x 0 m (nI y)) (lnN X x 0 (nI y)) (lnL X) (lnD X) w p = some f → p + lnL X w ≤ m := fun p w f hw hf => fitW_le t5 (hwd w hw).1 hf
  have eS : rdT m W (lnB X x 0) (lnH X x 0 m (nI y)) (lnN X x 0 (nI y)) (lnL X) (lnD X) m = lS X x m W (nI y) := rfl
  rw [eS] at hBP sA sR sZ sB
  generalize lS X x m W (nI y) = S at y5 sA sR sZ sB hBP ⊢
  obtain ⟨B0, hB0, hB0e⟩ : ∃ B0, B0 ≤ 648 ∧ (S.1 0 = some B0 ∨ S.1 0 = none) := by
    cases hq : S.1 0 with
    | none => exact ⟨0, Nat.zero_le _, Or.inr rfl⟩
    | some b => exact ⟨b, sB 0 b (Nat.zero_le m) hq, Or.inl rfl⟩
  have h35 : ∀ c, c ≤ m → Y 35 0 c = enc (S.1 c) := fun c hc => (y5 c (Nat.zero_le c) hc).1
  obtain ⟨Y2, u1, u2, u3⟩ := gather_eq (al := gal NL) (N := N) (B := S.1) (B0 := B0) (by omega) y3 y4 (fun w hw => gal_al hJ.1 (Or.inl hw)) hBP hB0 (fun c g hc hg => sB c g hc hg) h35
  have e29 : Y2 29 0 0 = nI m := by rw [u2 29 0 0 (by omega)]; exact t1
  have e350 : Y2 35 0 0 = enc (S.1 0) := by rw [u2 35 0 0 (by omega)]; exact h35 0 (Nat.zero_le m)
  have e30 : Y2 30 0 c = if lnB X x 0 c = true then 1 else 0 := by rw [u2 30 0 c (by omega)]; exact (t4 c hc).1
  unfold X9_state at h
  rw [X9_leafOf_yes hJ.2.1.1 hJ.2.1.2.2.2.1 hx, bind2_some, if_neg (zn_nn (by omega)), dr_nI ha (by omega), Option.bind_some, hca, bind2_some, if_neg (zn_nn (by omega)), X9_isLayer_eq, bind2_some, if_pos hly, if_neg (by decide), y1, bind2_some, u1, bind2_some] at h
  unfold X6_standing X6_standing_J22 at h
  rw [if_neg (zn_nn (by omega)), e29, if_neg nc, rd09, Option.bind_some, e350] at h
  rcases hB0e with hB0e | hB0e
  · have en : ¬ enc (some B0) = -1 := zn_ne1 (by omega)
    have hne : S.1 0 ≠ none := by rw [hB0e]; nofun
    rw [hB0e, if_neg en, rd_nI (by omega) (by omega), Option.bind_some, e30] at h
    cases hb : lnB X x 0 c with
    | true =>
      rw [hb, if_pos rfl, if_neg (by decide), bind2_some] at h
      cases h
      exact ⟨rfl, fun q => absurd q hne, fun _ => ⟨fun _ => rfl, fun q => by cases q⟩⟩
    | false =>
      rw [hb, iff_f, if_pos rfl, Option.bind_some, bcE_eq, bind2_some] at h
      have fin : ∀ q : Int32, (q = 2 ∨ q = 3 ∨ q = 4 ∨ (q = 5 ∧ nW S 0 ≠ 1)) → (S.1 0 = none → q = 0) ∧ (S.1 0 ≠ none → (false = true → q = 1) ∧ (false = false → q = 2 ∨ q = 3 ∨ q = 4 ∨ (q = 5 ∧ nW S 0 ≠ 1))) := fun q hq => ⟨fun z => absurd z hne, fun _ => ⟨fun z => (by cases z), fun _ => hq⟩⟩
      by_cases c2 : bcE (Y2 39 0 c) ≤ 1
      · rw [if_pos c2, Option.bind_some] at h
        by_cases c3 : Y2 31 0 c = 0
        · rw [if_pos c3, bind2_some] at h
          cases h
          exact ⟨rfl, fin _ (Or.inr (Or.inr (Or.inl rfl)))⟩
        · rw [if_neg c3, Option.bind_some] at h
          by_cases c4 : Y2 31 0 c = 1
          · rw [if_pos c4] at h
            unfold X6_standing_J76 at h
            rw [bind2_some] at h
            cases h
            exact ⟨rfl, fin _ (Or.inl rfl)⟩
          · rw [if_neg c4] at h
            unfold X6_standing_J76 at h
            rw [bind2_some] at h
            cases h
            exact ⟨rfl, fin _ (Or.inr (Or.inl rfl))⟩
      · rw [if_neg c2, bind2_some] at h
        cases h
        refine ⟨rfl, fin _ (Or.inr (Or.inr (Or.inr ⟨rfl, fun h1 => c2 ?_⟩)))⟩
        have hO := gaT_O hBP hwd hfl hB0e m (Nat.le_refl m)
        have hmask := u3 hB0e c hc
        refine bcE_le (fun i j hi hj bi bj => ?_)
        rw [hmask] at bi bj
        exact one_letter t5 hwd sA hne h1 (hO.2 c i hi bi) (hO.2 c j hj bj)
  · rw [hB0e, if_pos (show enc none = -1 from rfl), bind2_some] at h
    cases h
    exact ⟨rfl, fun _ => rfl, fun q => absurd hB0e q⟩
theorem v_match {NL : List (Nat × Nat)} {N L F D W K x m y w k : Nat} {p r : Int32} {X X1 : gM} (hN : 1000000 ≤ N) (hJ : JJ NL L F D W K X) (hx : x < L) (hm : X 46 0 x = nI m) (hm8 : m ≤ 8) (hy : y ≤ 7) (hw : w < K) (h : X9_match (gal NL) N (nI w) (nI x) (nI 0) (nI y) p X = some (k, r, X1)) : k = 0 ∧ ((lS X x m W (nI y)).1 0 = none → r = -1) ∧ ((lS X x m W (nI y)).1 0 ≠ none → (p = 0 → ∃ n, n ≤ 16 ∧ r = nI n) ∧ (¬ p = 0 → ∃ n, n ≤ 40 ∧ r = nI n)) := by
  obtain ⟨ln, Y, l1, l2, m1, m2, f45, f52, f53, f6, y1, y2, y3, y4, y5⟩ := line_S (y := y) hN hJ hx hm hm8
  obtain ⟨sA, sR, sZ, sB, -⟩ := S_facts y3
  obtain ⟨hK, k1, k2, h28, hk⟩ := id hJ.2.2.2.2.2.2.2.2.2.1
  obtain ⟨n, n1, n2, q1, q2, q3, q4⟩ := hk w hw
  have hw3 : (0 : Int32) ≤ nI w ∧ nI w ≤ 4 - 1 := ⟨not_lt32.mp (zn_nn (by omega)), (zn_lel (k := 3) (by omega) (by decide)).mpr (show w ≤ 3 by omega)⟩
  have hal26 : gal NL 26 (12 + w) = true := gal_al hJ.1 (Or.inr ⟨by omega, by omega⟩)
  have ha : gal NL 5 x = true := gal_al hJ.1 hx
  have hL10 : L ≤ 10 := hJ.2.1.1
  have hly : (0 : Int32) ≤ nI y ∧ nI y ≤ 7 := ⟨not_lt32.mp (zn_nn (by omega)), (zn_lel (k := 7) (by omega) (by decide)).mpr (show y ≤ 7 by omega)⟩
  have e35 := (y5 0 (Nat.le_refl 0) (Nat.zero_le m)).1
  unfold X9_match at h
  rw [X9_leafOf_yes hJ.2.1.1 hJ.2.1.2.2.2.1 hx, bind2_some, if_neg (zn_nn (by omega)), dr_nI ha (by omega), Option.bind_some, X2_hasLine_eq f52, bind2_some, if_pos (ir_nI (by omega) (by omega)), if_neg (by decide), X9_isWithin_eq, bind2_some, if_pos hw3, if_neg (by decide), rd_nI (by omega) (by omega), Option.bind_some, h28, if_pos hw, if_neg (zn_nn (by omega)), X9_isLayer_eq, bind2_some, if_pos hly, if_neg (by decide), y1, bind2_some] at h
  unfold X6_bestWeight at h
  rw [rd09, Option.bind_some, bind2_some] at h
  by_cases hz : Y 35 0 0 = -1
  · rw [if_pos hz] at h
    cases h
    refine ⟨rfl, fun _ => rfl, fun q => ?_⟩
    cases hs : (lS X x m W (nI y)).1 0 with
    | none => exact absurd hs q
    | some b =>
      have hb := sB 0 b (Nat.zero_le m) hs
      rw [e35, hs] at hz
      exact absurd hz (zn_ne1 (by omega))
  · obtain ⟨U, u1, u2, u3, u4⟩ := X4_align_eq (al := gal NL) (N := N) (t := 12 + w) (n := n) (m := m) (Y := Y) (wk := fun j => X 62 0 (40 * w + j)) (lt := fun c => Y 38 0 c) (by omega) n2 m2 y3.1 hz (fun _ _ => rfl) ((y2 26 _ 1 (by omega)).trans q2) ((y2 27 _ 99 (by omega)).trans q3) (fun j hj => by
      obtain ⟨u, u1, u2, u3⟩ := q4 j hj
      rw [y2 27 _ j (by omega), u3, ← u2])
    have hne : (lS X x m W (nI y)).1 0 ≠ none := fun q => hz (by rw [e35, q]; rfl)
    rw [if_neg hz, dr_nI hal26 (by omega), Option.bind_some, u1, bind2_some] at h
    have b1 := csF_le (fun c => Y 38 0 c) (fun j => X 62 0 (40 * w + j)) m (lsF (csF (fun c => Y 38 0 c) (fun j => X 62 0 (40 * w + j)) m) n)
    have b2 := lsF_le (csF (fun c => Y 38 0 c) (fun j => X 62 0 (40 * w + j)) m) n
    unfold X9_match_J153 at h
    by_cases hp : p = 0
    · rw [if_pos hp] at h
      cases h
      exact ⟨rfl, fun q => absurd q hne, fun _ => ⟨fun _ => ⟨_, by omega, u3⟩, fun q => absurd hp q⟩⟩
    · rw [if_neg hp] at h
      cases h
      exact ⟨rfl, fun q => absurd q hne, fun _ => ⟨fun q => absurd q hp, fun _ => ⟨_, by omega, u4⟩⟩⟩
