/-! the law's line check holds -/
/-- weight and readings of a line as the law has them -/
def wrL (S : (Nat → Option Nat) × (Nat → Int32) × (Nat → Nat → Int32)) (p4 p5 : Int32) : Prop := (S.1 0 = none ∧ p4 = -1 ∧ p5 = 0) ∨ ∃ b n, S.1 0 = some b ∧ b ≤ 648 ∧ p4 = nI b ∧ p5 = nI n ∧ 1 ≤ n ∧ n ≤ 429981696 ∧ n = nW S 0
theorem ln_221 {NL : List (Nat × Nat)} {N L F D W K x m y : Nat} {X Z : gM} {p4 p5 : Int32} (hN : 1000000 ≤ N) (hx : x < L) (hm : X 46 0 x = nI m) (hm8 : m ≤ 8) (hy : y ≤ 7) (hW : wrL (lS X x m W (nI y)) p4 p5) (hJ : JJ NL L F D W K Z) (hk : keeps X Z) : ∃ D' Z', Q_line_J221 (gal NL) N (nI x) (nI y) (nI K) p4 1 Z = some (1, Z') ∧ JJ NL L F D' W K Z' ∧ keeps X Z' := by
  have hK4 : K ≤ 4 := hJ.2.2.2.2.2.2.2.2.2.1.1
  unfold Q_line_J221
  rw [if_neg (by decide)]
  by_cases hK : K = 0
  · subst hK
    rw [if_pos (by decide)]
    exact ⟨D, Z, rfl, hJ, hk⟩
  · have nK : ¬ nI K ≤ 0 := fun q => by
      have := (zn_lel (k := 0) (by omega) (by decide)).mp q
      have e8 : (OfNat.ofNat 0 : Nat) = 0 := rfl
      omega
    have eK : nI K - 1 = nI (K - 1) := zn_subl (k := 1) (by show 1 ≤ K; omega)
    rw [if_neg nK, eK]
    have hmZ : Z 46 0 x = nI m := by rw [hk 46 (by omega) (by omega), hm]
    obtain ⟨D1, r1, Z1, e1, hJ1, k1, a1, b1⟩ := st_match (p := 0) (w := K - 1) hN hJ hx hmZ hm8 hy (by omega) (Or.inl rfl)
    have hk1 := keeps_tr hk k1
    have hmZ1 : Z1 46 0 x = nI m := by rw [hk1 46 (by omega) (by omega), hm]
    obtain ⟨D2, r2, Z2, e2, hJ2, k2, a2, b2⟩ := st_match (p := 1) (w := K - 1) hN hJ1 hx hmZ1 hm8 hy (by omega) (Or.inr rfl)
    have hk2 := keeps_tr hk1 k2
    rw [(lS_cg hk x m W (nI y)).1] at a1 b1
    rw [(lS_cg hk1 x m W (nI y)).1] at a2 b2
    rw [e1, bind3_some, if_pos rfl, e2, bind3_some, if_pos rfl]
    have fin : Q_line_J310 (gal NL) N 1 Z2 = some (1, Z2) := rfl
    refine ⟨D2, Z2, ?_, hJ2, hk2⟩
    rcases hW with ⟨h0, rfl, rfl⟩ | ⟨b, n, h0, hb, rfl, rfl, hn⟩
    · rw [if_neg (by decide), a1 h0, if_pos rfl, a2 h0, if_pos rfl]
      exact fin
    · have hne : (lS X x m W (nI y)).1 0 ≠ none := by rw [h0]; nofun
      obtain ⟨u, hu, rfl⟩ := (b1 hne).1 rfl
      obtain ⟨v, hv, rfl⟩ := (b2 hne).2 (by decide)
      rw [if_pos (not_lt32.mp (zn_nn (by omega))), if_neg (zn_nn (by omega)), if_neg (fun q => by
        have := (zn_llt (k := 16) (by omega) (by decide)).mp q
        have e8 : (OfNat.ofNat 16 : Nat) = 16 := rfl
        omega), if_neg (zn_nn (by omega)), if_neg (fun q => by
        have := (zn_llt (k := 40) (by omega) (by decide)).mp q
        have e8 : (OfNat.ofNat 40 : Nat) = 40 := rfl
        omega)]
      exact fin
theorem lnB_mU (X : gM) (x c : Nat) : lnB X x 0 c = true ↔ mU (X 56 0) (X 54 0) (X 55 0) (32 * x + c) = 0 := by
  unfold lnB
  rw [show 32 * x + 8 * 0 + c = 32 * x + c by omega]
  exact decide_eq_true_iff
theorem mU_n8 (im ov un : Nat → Int32) (b : Nat) : ¬ mU im ov un b = -8 := by
  rcases mU_rng im ov un b with ⟨q, -⟩ | ⟨u, v, -, hv, q, -⟩
  · rw [q]; decide
  · rw [q]
    intro h
    have : (nI v).toInt = v := Int32.toInt_ofNat_of_lt (by omega)
    rw [h] at this
    have e : (-8 : Int32).toInt = -8 := by decide
    omega
theorem mU_cg2 {X Y : gM} (h : keeps X Y) (b : Nat) : mU (Y 56 0) (Y 54 0) (Y 55 0) b = mU (X 56 0) (X 54 0) (X 55 0) b := by
  rw [h 56 (by omega) (by omega), h 54 (by omega) (by omega), h 55 (by omega) (by omega)]
theorem ln_3 {NL : List (Nat × Nat)} {N L F D W K x m y : Nat} {X Z : gM} {p4 p5 : Int32} (hN : 1000000 ≤ N) (hx : x < L) (hm : X 46 0 x = nI m) (hm8 : m ≤ 8) (hy : y ≤ 7) (hW : wrL (lS X x m W (nI y)) p4 p5) (hJ : JJ NL L F D W K Z) (hk : keeps X Z) : ∃ D' Z', Q_line_J203_2 (gal NL) N (nI x) (nI y) (nI K) p4 p5 1 Z = some (1, Z') ∧ JJ NL L F D' W K Z' ∧ keeps X Z' := by
  obtain ⟨D1, r, Z1, e1, hJ1, k1, -⟩ := st_unmix (p := 1) (c := 3) hN hJ hx (by omega) (Or.inr rfl)
  have e1 : Q_unmixed (gal NL) N (nI x) 3 1 Z = some (r, Z1) := e1
  obtain ⟨D2, Z2, e2, hJ2, k2⟩ := ln_221 hN hx hm hm8 hy hW hJ1 (keeps_tr hk k1)
  refine ⟨D2, Z2, ?_, hJ2, k2⟩
  unfold Q_line_J203_2
  rw [e1, bind2_some, if_neg (by decide)]
  by_cases c : r = -8
  · rw [if_pos c]; exact e2
  · rw [if_neg c]; exact e2
theorem ln_2 {NL : List (Nat × Nat)} {N L F D W K x m y : Nat} {X Z : gM} {p4 p5 : Int32} (hN : 1000000 ≤ N) (hx : x < L) (hm : X 46 0 x = nI m) (hm8 : m ≤ 8) (hy : y ≤ 7) (hW : wrL (lS X x m W (nI y)) p4 p5) (hJ : JJ NL L F D W K Z) (hk : keeps X Z) : ∃ D' Z', Q_line_J203_1 (gal NL) N (nI x) (nI y) (nI K) p4 p5 1 Z = some (1, Z') ∧ JJ NL L F D' W K Z' ∧ keeps X Z' := by
  obtain ⟨D1, r, Z1, e1, hJ1, k1, m', hm', -, m8', hr⟩ := st_unmix (p := 1) (c := 2) hN hJ hx (by omega) (Or.inr rfl)
  have e1 : Q_unmixed (gal NL) N (nI x) 2 1 Z = some (r, Z1) := e1
  have hmm : m' = m := by
    rw [hk 46 (by omega) (by omega), hm] at hm'
    exact ((zn_eq (by omega) (by omega)).mp hm').symm
  subst hmm
  have hk1 := keeps_tr hk k1
  unfold Q_line_J203_1
  rw [e1, bind2_some, if_neg (by decide)]
  rcases hr with ⟨hc, hr⟩ | ⟨hc, hr⟩
  · have hr : r = mU (X 56 0) (X 54 0) (X 55 0) (32 * x + 2) := by rw [hr, if_neg (by decide), mU_cg2 hk]
    have n8 : ¬ r = -8 := by rw [hr]; exact mU_n8 _ _ _ _
    have hmZ1 : Z1 46 0 x = nI m' := by rw [hk1 46 (by omega) (by omega), hm]
    obtain ⟨D2, r2, Z2, e2, hJ2, k2, a2, b2⟩ := st_letter (c := 2) hN hJ1 hx hmZ1 hm8 hy hc
    have e2 : P_letter (gal NL) N (nI x) 0 2 (nI y) Z1 = some (0, r2, Z2) := e2
    have hk2 := keeps_tr hk1 k2
    have hmZ2 : Z2 46 0 x = nI m' := by rw [hk2 46 (by omega) (by omega), hm]
    obtain ⟨D3, r3, Z3, e3, hJ3, k3, a3, b3⟩ := st_state (c := 2) hN hJ2 hx hmZ2 hm8 hy hc
    have e3 : P_state (gal NL) N (nI x) 0 2 (nI y) Z2 = some (0, r3, Z3) := e3
    have hk3 := keeps_tr hk2 k3
    rw [(lS_cg hk1 x m' W (nI y)).1] at a2 b2
    rw [(lS_cg hk1 x m' W (nI y)).2] at b2
    rw [(lS_cg hk2 x m' W (nI y)).1] at a3 b3
    rw [(lS_cg hk2 x m' W (nI y)).2] at b3
    obtain ⟨D4, Z4, e4, hJ4, k4⟩ := ln_3 hN hx hm hm8 hy hW hJ3 hk3
    have go : ∀ q : Int32, (q = 5 → ¬ p5 ≤ 1) → Q_line_J179_2 (gal NL) N (nI x) (nI y) (nI K) p4 p5 q 1 Z3 = some (1, Z4) := fun q hq => by
      unfold Q_line_J179_2 Q_line_J198_2
      rw [if_neg (by decide)]
      by_cases c5 : q = 5
      · rw [if_pos c5, if_neg (hq c5)]; exact e4
      · rw [if_neg c5]; exact e4
    refine ⟨D4, Z4, ?_, hJ4, k4⟩
    rw [if_neg n8, e2, bind3_some, if_pos rfl, e3, bind3_some, if_pos rfl]
    rcases hW with ⟨h0, rfl, rfl⟩ | ⟨b, n, h0, hb, rfl, rfl, n1, n2, n3⟩
    · rw [if_neg (by decide), a2 h0, if_pos rfl, a3 h0, if_pos rfl]
      exact go 0 (fun q => by cases q)
    · have hne : (lS X x m' W (nI y)).1 0 ≠ none := by rw [h0]; nofun
      rw [if_pos (not_lt32.mp (zn_nn (by omega)))]
      by_cases hbl : lnB X x 0 2 = true
      · have h0r : r = 0 := by rw [hr]; exact (lnB_mU X x 2).mp hbl
        rw [if_pos h0r, (b2 hne).1 hbl, if_pos rfl, (b3 hne).1 hbl, if_pos rfl]
        exact go 1 (fun q => by cases q)
      · have h0r : ¬ r = 0 := fun q => hbl ((lnB_mU X x 2).mpr (by rw [← hr]; exact q))
        have hbf := Bool.eq_false_iff.mpr hbl
        obtain ⟨v, hv, rfl⟩ := (b2 hne).2 hbf
        rw [if_neg h0r, if_neg (zn_nn (by omega)), if_neg (fun q => by
          have := (zn_lle (k := 26) (by omega) (by decide)).mp q
          have e8 : (OfNat.ofNat 26 : Nat) = 26 := rfl
          omega)]
        rcases (b3 hne).2 hbf with rfl | rfl | rfl | ⟨rfl, hnw⟩
        · rw [if_neg (by decide)]; exact go 2 (fun q => by cases q)
        · rw [if_neg (by decide)]; exact go 3 (fun q => by cases q)
        · rw [if_neg (by decide)]; exact go 4 (fun q => by cases q)
        · rw [if_neg (by decide)]
          refine go 5 (fun _ q => ?_)
          have := (zn_lel (k := 1) (by omega) (by decide)).mp q
          have e8 : (OfNat.ofNat 1 : Nat) = 1 := rfl
          omega
  · rw [if_pos hr]
    exact ln_221 hN hx hm hm8 hy hW hJ1 hk1
theorem ln_1 {NL : List (Nat × Nat)} {N L F D W K x m y : Nat} {X Z : gM} {p4 p5 : Int32} (hN : 1000000 ≤ N) (hx : x < L) (hm : X 46 0 x = nI m) (hm8 : m ≤ 8) (hy : y ≤ 7) (hW : wrL (lS X x m W (nI y)) p4 p5) (hJ : JJ NL L F D W K Z) (hk : keeps X Z) : ∃ D' Z', Q_line_J203_0 (gal NL) N (nI x) (nI y) (nI K) p4 p5 1 Z = some (1, Z') ∧ JJ NL L F D' W K Z' ∧ keeps X Z' := by
  obtain ⟨D1, r, Z1, e1, hJ1, k1, m', hm', -, m8', hr⟩ := st_unmix (p := 1) (c := 1) hN hJ hx (by omega) (Or.inr rfl)
  have e1 : Q_unmixed (gal NL) N (nI x) 1 1 Z = some (r, Z1) := e1
  have hmm : m' = m := by
    rw [hk 46 (by omega) (by omega), hm] at hm'
    exact ((zn_eq (by omega) (by omega)).mp hm').symm
  subst hmm
  have hk1 := keeps_tr hk k1
  unfold Q_line_J203_0
  rw [e1, bind2_some, if_neg (by decide)]
  rcases hr with ⟨hc, hr⟩ | ⟨hc, hr⟩
  · have hr : r = mU (X 56 0) (X 54 0) (X 55 0) (32 * x + 1) := by rw [hr, if_neg (by decide), mU_cg2 hk]
    have n8 : ¬ r = -8 := by rw [hr]; exact mU_n8 _ _ _ _
    have hmZ1 : Z1 46 0 x = nI m' := by rw [hk1 46 (by omega) (by omega), hm]
    obtain ⟨D2, r2, Z2, e2, hJ2, k2, a2, b2⟩ := st_letter (c := 1) hN hJ1 hx hmZ1 hm8 hy hc
    have e2 : P_letter (gal NL) N (nI x) 0 1 (nI y) Z1 = some (0, r2, Z2) := e2
    have hk2 := keeps_tr hk1 k2
    have hmZ2 : Z2 46 0 x = nI m' := by rw [hk2 46 (by omega) (by omega), hm]
    obtain ⟨D3, r3, Z3, e3, hJ3, k3, a3, b3⟩ := st_state (c := 1) hN hJ2 hx hmZ2 hm8 hy hc
    have e3 : P_state (gal NL) N (nI x) 0 1 (nI y) Z2 = some (0, r3, Z3) := e3
    have hk3 := keeps_tr hk2 k3
    rw [(lS_cg hk1 x m' W (nI y)).1] at a2 b2
    rw [(lS_cg hk1 x m' W (nI y)).2] at b2
    rw [(lS_cg hk2 x m' W (nI y)).1] at a3 b3
    rw [(lS_cg hk2 x m' W (nI y)).2] at b3
    obtain ⟨D4, Z4, e4, hJ4, k4⟩ := ln_2 hN hx hm hm8 hy hW hJ3 hk3
    have go : ∀ q : Int32, (q = 5 → ¬ p5 ≤ 1) → Q_line_J179_1 (gal NL) N (nI x) (nI y) (nI K) p4 p5 q 1 Z3 = some (1, Z4) := fun q hq => by
      unfold Q_line_J179_1 Q_line_J198_1
      rw [if_neg (by decide)]
      by_cases c5 : q = 5
      · rw [if_pos c5, if_neg (hq c5)]; exact e4
      · rw [if_neg c5]; exact e4
    refine ⟨D4, Z4, ?_, hJ4, k4⟩
    rw [if_neg n8, e2, bind3_some, if_pos rfl, e3, bind3_some, if_pos rfl]
    rcases hW with ⟨h0, rfl, rfl⟩ | ⟨b, n, h0, hb, rfl, rfl, n1, n2, n3⟩
    · rw [if_neg (by decide), a2 h0, if_pos rfl, a3 h0, if_pos rfl]
      exact go 0 (fun q => by cases q)
    · have hne : (lS X x m' W (nI y)).1 0 ≠ none := by rw [h0]; nofun
      rw [if_pos (not_lt32.mp (zn_nn (by omega)))]
      by_cases hbl : lnB X x 0 1 = true
      · have h0r : r = 0 := by rw [hr]; exact (lnB_mU X x 1).mp hbl
        rw [if_pos h0r, (b2 hne).1 hbl, if_pos rfl, (b3 hne).1 hbl, if_pos rfl]
        exact go 1 (fun q => by cases q)
      · have h0r : ¬ r = 0 := fun q => hbl ((lnB_mU X x 1).mpr (by rw [← hr]; exact q))
        have hbf := Bool.eq_false_iff.mpr hbl
        obtain ⟨v, hv, rfl⟩ := (b2 hne).2 hbf
        rw [if_neg h0r, if_neg (zn_nn (by omega)), if_neg (fun q => by
          have := (zn_lle (k := 26) (by omega) (by decide)).mp q
          have e8 : (OfNat.ofNat 26 : Nat) = 26 := rfl
          omega)]
        rcases (b3 hne).2 hbf with rfl | rfl | rfl | ⟨rfl, hnw⟩
        · rw [if_neg (by decide)]; exact go 2 (fun q => by cases q)
        · rw [if_neg (by decide)]; exact go 3 (fun q => by cases q)
        · rw [if_neg (by decide)]; exact go 4 (fun q => by cases q)
        · rw [if_neg (by decide)]
          refine go 5 (fun _ q => ?_)
          have := (zn_lel (k := 1) (by omega) (by decide)).mp q
          have e8 : (OfNat.ofNat 1 : Nat) = 1 := rfl
          omega
  · rw [if_pos hr]
    exact ln_221 hN hx hm hm8 hy hW hJ1 hk1
theorem ln_0 {NL : List (Nat × Nat)} {N L F D W K x m y : Nat} {X Z : gM} {p4 p5 : Int32} (hN : 1000000 ≤ N) (hx : x < L) (hm : X 46 0 x = nI m) (hm8 : m ≤ 8) (hy : y ≤ 7) (hW : wrL (lS X x m W (nI y)) p4 p5) (hJ : JJ NL L F D W K Z) (hk : keeps X Z) : ∃ D' Z', Q_line_J52 (gal NL) N (nI x) (nI y) (nI K) p4 p5 1 Z = some (1, Z') ∧ JJ NL L F D' W K Z' ∧ keeps X Z' := by
  obtain ⟨D1, r, Z1, e1, hJ1, k1, m', hm', -, m8', hr⟩ := st_unmix (p := 1) (c := 0) hN hJ hx (by omega) (Or.inr rfl)
  have e1 : Q_unmixed (gal NL) N (nI x) 0 1 Z = some (r, Z1) := e1
  have hmm : m' = m := by
    rw [hk 46 (by omega) (by omega), hm] at hm'
    exact ((zn_eq (by omega) (by omega)).mp hm').symm
  subst hmm
  have hk1 := keeps_tr hk k1
  unfold Q_line_J52
  rw [e1, bind2_some, if_neg (by decide)]
  rcases hr with ⟨hc, hr⟩ | ⟨hc, hr⟩
  · have hr : r = mU (X 56 0) (X 54 0) (X 55 0) (32 * x + 0) := by rw [hr, if_neg (by decide), mU_cg2 hk]
    have n8 : ¬ r = -8 := by rw [hr]; exact mU_n8 _ _ _ _
    have hmZ1 : Z1 46 0 x = nI m' := by rw [hk1 46 (by omega) (by omega), hm]
    obtain ⟨D2, r2, Z2, e2, hJ2, k2, a2, b2⟩ := st_letter (c := 0) hN hJ1 hx hmZ1 hm8 hy hc
    have e2 : P_letter (gal NL) N (nI x) 0 0 (nI y) Z1 = some (0, r2, Z2) := e2
    have hk2 := keeps_tr hk1 k2
    have hmZ2 : Z2 46 0 x = nI m' := by rw [hk2 46 (by omega) (by omega), hm]
    obtain ⟨D3, r3, Z3, e3, hJ3, k3, a3, b3⟩ := st_state (c := 0) hN hJ2 hx hmZ2 hm8 hy hc
    have e3 : P_state (gal NL) N (nI x) 0 0 (nI y) Z2 = some (0, r3, Z3) := e3
    have hk3 := keeps_tr hk2 k3
    rw [(lS_cg hk1 x m' W (nI y)).1] at a2 b2
    rw [(lS_cg hk1 x m' W (nI y)).2] at b2
    rw [(lS_cg hk2 x m' W (nI y)).1] at a3 b3
    rw [(lS_cg hk2 x m' W (nI y)).2] at b3
    obtain ⟨D4, Z4, e4, hJ4, k4⟩ := ln_1 hN hx hm hm8 hy hW hJ3 hk3
    have go : ∀ q : Int32, (q = 5 → ¬ p5 ≤ 1) → Q_line_J179_0 (gal NL) N (nI x) (nI y) (nI K) p4 p5 q 1 Z3 = some (1, Z4) := fun q hq => by
      unfold Q_line_J179_0 Q_line_J198_0
      rw [if_neg (by decide)]
      by_cases c5 : q = 5
      · rw [if_pos c5, if_neg (hq c5)]; exact e4
      · rw [if_neg c5]; exact e4
    refine ⟨D4, Z4, ?_, hJ4, k4⟩
    rw [if_neg n8, e2, bind3_some, if_pos rfl, e3, bind3_some, if_pos rfl]
    rcases hW with ⟨h0, rfl, rfl⟩ | ⟨b, n, h0, hb, rfl, rfl, n1, n2, n3⟩
    · rw [if_neg (by decide), a2 h0, if_pos rfl, a3 h0, if_pos rfl]
      exact go 0 (fun q => by cases q)
    · have hne : (lS X x m' W (nI y)).1 0 ≠ none := by rw [h0]; nofun
      rw [if_pos (not_lt32.mp (zn_nn (by omega)))]
      by_cases hbl : lnB X x 0 0 = true
      · have h0r : r = 0 := by rw [hr]; exact (lnB_mU X x 0).mp hbl
        rw [if_pos h0r, (b2 hne).1 hbl, if_pos rfl, (b3 hne).1 hbl, if_pos rfl]
        exact go 1 (fun q => by cases q)
      · have h0r : ¬ r = 0 := fun q => hbl ((lnB_mU X x 0).mpr (by rw [← hr]; exact q))
        have hbf := Bool.eq_false_iff.mpr hbl
        obtain ⟨v, hv, rfl⟩ := (b2 hne).2 hbf
        rw [if_neg h0r, if_neg (zn_nn (by omega)), if_neg (fun q => by
          have := (zn_lle (k := 26) (by omega) (by decide)).mp q
          have e8 : (OfNat.ofNat 26 : Nat) = 26 := rfl
          omega)]
        rcases (b3 hne).2 hbf with rfl | rfl | rfl | ⟨rfl, hnw⟩
        · rw [if_neg (by decide)]; exact go 2 (fun q => by cases q)
        · rw [if_neg (by decide)]; exact go 3 (fun q => by cases q)
        · rw [if_neg (by decide)]; exact go 4 (fun q => by cases q)
        · rw [if_neg (by decide)]
          refine go 5 (fun _ q => ?_)
          have := (zn_lel (k := 1) (by omega) (by decide)).mp q
          have e8 : (OfNat.ofNat 1 : Nat) = 1 := rfl
          omega
  · rw [if_pos hr]
    exact ln_221 hN hx hm hm8 hy hW hJ1 hk1
theorem Q_line_ok {NL : List (Nat × Nat)} {N L F D W K x y : Nat} {X : gM} (hN : 1000000 ≤ N) (hJ : JJ NL L F D W K X) (hx : x < L) (hy : y ≤ 7) : ∃ D' X', Q_line (gal NL) N (nI x) (nI y) (nI K) X = some (1, X') ∧ JJ NL L F D' W K X' ∧ keeps X X' := by
  obtain ⟨b0, ln, m, hb, l1, l2, m1, m8, f44, f45, hm, -⟩ := hJ.2.1.2.2.2.2 x hx
  obtain ⟨D1, X1, e1, hJ1, k1⟩ := st_weight (y := y) hN hJ hx hm m8 hy
  have hm1 : X1 46 0 x = nI m := by rw [k1 46 (by omega) (by omega), hm]
  obtain ⟨D2, r2, X2, e2, hJ2, k2, a2, b2⟩ := st_readings (y := y) hN hJ1 hx hm1 m8 hy
  have hk2 := keeps_tr k1 k2
  rw [(lS_cg k1 x m W (nI y)).1] at a2 b2
  obtain ⟨ln', Y, -, -, -, -, -, -, -, -, -, -, y3, -, -⟩ := line_S (y := y) hN hJ hx hm m8
  obtain ⟨-, -, -, sB, -⟩ := S_facts y3
  unfold Q_line
  rw [e1, bind3_some, if_pos rfl, e2, bind3_some, if_pos rfl]
  cases hs : (lS X x m W (nI y)).1 0 with
  | none =>
    have hW : wrL (lS X x m W (nI y)) (-1) 0 := Or.inl ⟨hs, rfl, rfl⟩
    obtain ⟨D', X', e', hJ', k'⟩ := ln_0 hN hx hm m8 hy hW hJ2 hk2
    refine ⟨D', X', ?_, hJ', k'⟩
    rw [a2 hs, show enc none = -1 from rfl, if_neg (by decide), if_pos rfl, if_pos rfl]
    exact e'
  | some b =>
    obtain ⟨n, n1, n2, rfl, n3⟩ := b2 (by rw [hs]; nofun)
    have hbb := sB 0 b (Nat.zero_le m) hs
    have hW : wrL (lS X x m W (nI y)) (nI b) (nI n) := Or.inr ⟨b, n, hs, hbb, rfl, rfl, n1, n2, n3⟩
    obtain ⟨D', X', e', hJ', k'⟩ := ln_0 hN hx hm m8 hy hW hJ2 hk2
    refine ⟨D', X', ?_, hJ', k'⟩
    rw [show enc (some b) = nI b from rfl, if_pos (not_lt32.mp (zn_nn (by omega))), if_neg (fun q => by
      have := (zn_lel (k := 0) (by omega) (by decide)).mp q
      have e8 : (OfNat.ofNat 0 : Nat) = 0 := rfl
      omega)]
    exact e'
