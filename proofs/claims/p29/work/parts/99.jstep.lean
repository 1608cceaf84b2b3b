/-! a step of the law: a query keeps the world and all the sheets' arrays -/
theorem same_n {NL : List (Nat × Nat)} {L F D W K : Nat} {X Y : gM} (hJ : JJ NL L F D W K X) (h : gJ NL Y) : ∃ D', JJ NL L F D' W K Y := by
  obtain ⟨L', F', D', W', K', h'⟩ := h
  obtain ⟨rfl, rfl, rfl, rfl⟩ := jN_inj hJ.1 h'.1 hJ.2.2.2.2.2.2.2.2.1.1 h'.2.2.2.2.2.2.2.2.1.1
  exact ⟨D', h'⟩
theorem st_unmix {NL : List (Nat × Nat)} {N L F D W K x c : Nat} {p : Int32} {X : gM} (hN : 1000000 ≤ N) (hJ : JJ NL L F D W K X) (hx : x < L) (hc : c < 100) (hp : p = 0 ∨ p = 1) : ∃ D' r X2, Q_unmixed (gal NL) N (nI x) (nI c) p X = some (r, X2) ∧ JJ NL L F D' W K X2 ∧ keeps X X2 ∧ ∃ m, X 46 0 x = nI m ∧ 1 ≤ m ∧ m ≤ 8 ∧ ((c < m ∧ r = if p = 0 then mO (X 56 0) (X 54 0) (X 55 0) (32 * x + c) else mU (X 56 0) (X 54 0) (X 55 0) (32 * x + c)) ∨ (m ≤ c ∧ r = -8)) := by
  obtain ⟨k, r, r2, X1, X2, h9, h10, hP, hg, q0, q1⟩ := pk_unmix hN (JJ_gJ hJ) (nI x) (nI 0) (nI c) p hp
  obtain ⟨D', hJ'⟩ := same_n hJ hg
  obtain ⟨m, hm, m1, m8, hv⟩ := v_unmix hJ hx hc h9
  have hP' : P_unmix (gal NL) N (nI x) 0 (nI c) p X = some (k, r, X2) := hP
  unfold Q_unmixed
  rw [hP', bind3_some]
  rcases hv with ⟨hcm, rfl, hr⟩ | ⟨hcm, rfl⟩
  · exact ⟨D', r, X2, if_pos rfl, hJ', keeps_of (pf_unmix hP), m, hm, m1, m8, Or.inl ⟨hcm, hr⟩⟩
  · exact ⟨D', -8, X2, by rw [if_neg (by decide), if_pos rfl], hJ', keeps_of (pf_unmix hP), m, hm, m1, m8, Or.inr ⟨hcm, rfl⟩⟩
theorem st_arr {NL : List (Nat × Nat)} {N L F D W K b : Nat} {X : gM} (hN : 1000000 ≤ N) (hJ : JJ NL L F D W K X) (hb : b < 2) : ∃ D' v1 v2 X2 X3, P_arrangements (gal NL) N (nI b) 1 X = some (0, nI v1, X2) ∧ P_arrangements (gal NL) N (nI b) 0 X2 = some (0, nI v2, X3) ∧ v1 ≤ v2 ∧ v2 ≤ 262144 ∧ JJ NL L F D' W K X3 ∧ keeps X X3 := by
  obtain ⟨sh, X2, s1, s4, h53, e1, hJ2⟩ := q_arr hN hJ hb true
  have k1 := keeps_of (pf_arrangements e1)
  obtain ⟨sh', X3, s1', s4', h53', e2, hJ3⟩ := q_arr hN hJ2 hb false
  have k2 := keeps_of (pf_arrangements e2)
  have esh : sh' = sh := by
    rw [k1 53 (by omega) (by omega), h53] at h53'
    exact ((zn_eq (by omega) (by omega)).mp h53').symm
  subst esh
  rw [k1 44 (by omega) (by omega), fit_kp k1] at e2
  have h6 : (lvs (X 44 0) b L).length ≤ 6 := (hJ.2.2.2.2.2.1.2 b hb).choose_spec.2.2.2.2.2.1
  exact ⟨D, _, _, X2, X3, e1, e2, nc_mono (fun a h => fit_all h) _ _, Nat.le_trans (nc_le _ _) (pow_8 (by omega) h6), hJ3, keeps_tr k1 k2⟩
theorem st_weight {NL : List (Nat × Nat)} {N L F D W K x m y : Nat} {X : gM} (hN : 1000000 ≤ N) (hJ : JJ NL L F D W K X) (hx : x < L) (hm : X 46 0 x = nI m) (hm8 : m ≤ 8) (hy : y ≤ 7) : ∃ D' X2, P_weight (gal NL) N (nI x) 0 (nI y) X = some (0, enc ((lS X x m W (nI y)).1 0), X2) ∧ JJ NL L F D' W K X2 ∧ keeps X X2 := by
  obtain ⟨k, r, r2, X1, X2, h9, h10, hP, hg, q0, q1⟩ := pk_weight hN (JJ_gJ hJ) (nI x) (nI 0) (nI y)
  obtain ⟨D', hJ'⟩ := same_n hJ hg
  obtain ⟨rfl, rfl⟩ := v_weight hN hJ hx hm hm8 hy h9
  exact ⟨D', X2, hP, hJ', keeps_of (pf_weight hP)⟩
theorem st_readings {NL : List (Nat × Nat)} {N L F D W K x m y : Nat} {X : gM} (hN : 1000000 ≤ N) (hJ : JJ NL L F D W K X) (hx : x < L) (hm : X 46 0 x = nI m) (hm8 : m ≤ 8) (hy : y ≤ 7) : ∃ D' r X2, P_readings (gal NL) N (nI x) 0 (nI y) X = some (0, r, X2) ∧ JJ NL L F D' W K X2 ∧ keeps X X2 ∧ ((lS X x m W (nI y)).1 0 = none → r = 0) ∧ ((lS X x m W (nI y)).1 0 ≠ none → ∃ n, 1 ≤ n ∧ n ≤ 429981696 ∧ r = nI n ∧ n = nW (lS X x m W (nI y)) 0) := by
  obtain ⟨k, r, r2, X1, X2, h9, h10, hP, hg, q0, q1⟩ := pk_readings hN (JJ_gJ hJ) (nI x) (nI 0) (nI y)
  obtain ⟨D', hJ'⟩ := same_n hJ hg
  obtain ⟨rfl, a, b⟩ := v_readings hN hJ hx hm hm8 hy h9
  exact ⟨D', r, X2, hP, hJ', keeps_of (pf_readings hP), a, b⟩
theorem st_letter {NL : List (Nat × Nat)} {N L F D W K x m y c : Nat} {X : gM} (hN : 1000000 ≤ N) (hJ : JJ NL L F D W K X) (hx : x < L) (hm : X 46 0 x = nI m) (hm8 : m ≤ 8) (hy : y ≤ 7) (hc : c < m) : ∃ D' r X2, P_letter (gal NL) N (nI x) 0 (nI c) (nI y) X = some (0, r, X2) ∧ JJ NL L F D' W K X2 ∧ keeps X X2 ∧ ((lS X x m W (nI y)).1 0 = none → r = -1) ∧ ((lS X x m W (nI y)).1 0 ≠ none → (lnB X x 0 c = true → r = -1) ∧ (lnB X x 0 c = false → ∃ v, v < 26 ∧ r = nI v)) := by
  obtain ⟨k, r, r2, X1, X2, h9, h10, hP, hg, q0, q1⟩ := pk_letter hN (JJ_gJ hJ) (nI x) (nI 0) (nI c) (nI y)
  obtain ⟨D', hJ'⟩ := same_n hJ hg
  obtain ⟨rfl, a, b⟩ := v_letter hN hJ hx hm hm8 hy hc h9
  exact ⟨D', r, X2, hP, hJ', keeps_of (pf_letter hP), a, b⟩
theorem st_state {NL : List (Nat × Nat)} {N L F D W K x m y c : Nat} {X : gM} (hN : 1000000 ≤ N) (hJ : JJ NL L F D W K X) (hx : x < L) (hm : X 46 0 x = nI m) (hm8 : m ≤ 8) (hy : y ≤ 7) (hc : c < m) : ∃ D' r X2, P_state (gal NL) N (nI x) 0 (nI c) (nI y) X = some (0, r, X2) ∧ JJ NL L F D' W K X2 ∧ keeps X X2 ∧ ((lS X x m W (nI y)).1 0 = none → r = 0) ∧ ((lS X x m W (nI y)).1 0 ≠ none → (lnB X x 0 c = true → r = 1) ∧ (lnB X x 0 c = false → r = 2 ∨ r = 3 ∨ r = 4 ∨ (r = 5 ∧ nW (lS X x m W (nI y)) 0 ≠ 1))) := by
  obtain ⟨k, r, r2, X1, X2, h9, h10, hP, hg, q0, q1⟩ := pk_state hN (JJ_gJ hJ) (nI x) (nI 0) (nI c) (nI y)
  obtain ⟨D', hJ'⟩ := same_n hJ hg
  obtain ⟨rfl, a, b⟩ := v_state hN hJ hx hm hm8 hy hc h9
  exact ⟨D', r, X2, hP, hJ', keeps_of (pf_state hP), a, b⟩
theorem st_match {NL : List (Nat × Nat)} {N L F D W K x m y w : Nat} {p : Int32} {X : gM} (hN : 1000000 ≤ N) (hJ : JJ NL L F D W K X) (hx : x < L) (hm : X 46 0 x = nI m) (hm8 : m ≤ 8) (hy : y ≤ 7) (hw : w < K) (hp : p = 0 ∨ p = 1) : ∃ D' r X2, P_match (gal NL) N (nI w) (nI x) 0 (nI y) p X = some (0, r, X2) ∧ JJ NL L F D' W K X2 ∧ keeps X X2 ∧ ((lS X x m W (nI y)).1 0 = none → r = -1) ∧ ((lS X x m W (nI y)).1 0 ≠ none → (p = 0 → ∃ n, n ≤ 16 ∧ r = nI n) ∧ (¬ p = 0 → ∃ n, n ≤ 40 ∧ r = nI n)) := by
  obtain ⟨k, r, r2, X1, X2, h9, h10, hP, hg, q0, q1⟩ := pk_match hN (JJ_gJ hJ) (nI w) (nI x) (nI 0) (nI y) p hp
  obtain ⟨D', hJ'⟩ := same_n hJ hg
  obtain ⟨rfl, a, b⟩ := v_match hN hJ hx hm hm8 hy hw h9
  exact ⟨D', r, X2, hP, hJ', keeps_of (pf_match hP), a, b⟩
theorem st_dates {NL : List (Nat × Nat)} {N L F D W K x : Nat} {X : gM} (hN : 1000000 ≤ N) (hJ : JJ NL L F D W K X) (hx : x < L) : ∃ D' X2, P_dates (gal NL) N (nI x) X = some (0, dv X F L x, X2) ∧ JJ NL L F D' W K X2 ∧ keeps X X2 := by
  obtain ⟨k, r, r2, X1, X2, h9, h10, hP, hg, q0, q1⟩ := pk_dates hN (JJ_gJ hJ) (nI x)
  obtain ⟨D', hJ'⟩ := same_n hJ hg
  obtain ⟨rfl, rfl⟩ := v_dates hN hJ hx h9
  exact ⟨D', X2, hP, hJ', keeps_of (pf_dates hP)⟩
theorem st_handOf {NL : List (Nat × Nat)} {N L F D W K x : Nat} {X : gM} {hh : Nat → Nat → Nat} {ss : Nat → Nat} (hN : 1000000 ≤ N) (hJ : JJ NL L F D W K X) (hx : x < L) (hm : hM 10 X hh ss) : ∃ D' f X2, finR (alkF hh ss) L f ∧ P_handOf (gal NL) N (nI x) X = some (0, nI (f x), X2) ∧ JJ NL L F D' W K X2 ∧ keeps X X2 := by
  obtain ⟨k, r, r2, X1, X2, h9, h10, hP, hg, q0, q1⟩ := pk_handOf hN (JJ_gJ hJ) (nI x)
  obtain ⟨D', hJ'⟩ := same_n hJ hg
  obtain ⟨f, hf, rfl, rfl⟩ := v_handOf hN hJ hx hm h9
  exact ⟨D', f, X2, hf, hP, hJ', keeps_of (pf_handOf hP)⟩
theorem shl_12 : ∀ F, F < 13 → (1 : Int32) <<< (nI F &&& 31) = nI (2 ^ F) := by decide +kernel
theorem Q_leaf_ok {NL : List (Nat × Nat)} {N L F D W K x : Nat} {X : gM} (hN : 1000000 ≤ N) (hJ : JJ NL L F D W K X) (hx : x < L) : ∃ D' X', Q_leaf (gal NL) N (nI x) (nI F) X = some (1, X') ∧ JJ NL L F D' W K X' ∧ keeps X X' := by
  have hL10 : L ≤ 10 := hJ.2.1.1
  obtain ⟨b, sh, m1, X1, hb, h44, s1, s4, h53, hm1, e1, hJ1, hs1⟩ := q_pl hN hJ hx false
  have k1 := keeps_of (pf_places e1)
  have e1 : P_places (gal NL) N (nI x) 0 X = some (0, nI m1, X1) := e1
  obtain ⟨b', sh', m2, X2, hb', h44', s1', s4', h53', hm2, e2, hJ2, hs2⟩ := q_pl hN hJ1 hx true
  have k2 := keeps_of (pf_places e2)
  have e2 : P_places (gal NL) N (nI x) 1 X1 = some (0, nI m2, X2) := e2
  have eb : b' = b := by
    rw [k1 44 (by omega) (by omega), h44] at h44'
    exact ((zn_eq (by omega) (by omega)).mp h44').symm
  subst eb
  have es : sh' = sh := by
    rw [k1 53 (by omega) (by omega), h53] at h53'
    exact ((zn_eq (by omega) (by omega)).mp h53').symm
  subst es
  have k12 := keeps_tr k1 k2
  obtain ⟨k, r, r2, X3', X3, h9, h10, hP, hg, q0, q1⟩ := pk_rests hN (JJ_gJ hJ2) (nI x)
  obtain ⟨D3, hJ3⟩ := same_n hJ2 hg
  have k3 := keeps_of (pf_rests hP)
  obtain ⟨rfl, hF12, ⟨n, hn, rfl⟩, b3, sh3, m3, hb3, h443, s13, s43, h533, hm3, hs3, hone⟩ := v_rests hN hJ2 hx h9
  have eb : b3 = b' := by
    rw [k12 44 (by omega) (by omega), h44] at h443
    exact ((zn_eq (by omega) (by omega)).mp h443).symm
  subst eb
  have es : sh3 = sh' := by
    rw [k12 53 (by omega) (by omega), h53] at h533
    exact ((zn_eq (by omega) (by omega)).mp h533).symm
  subst es
  have em : nI m3 = nI m1 := masks_eq (C := fun v => nc (2 * sh3) (fun a => fit X F (2 * sh3) (lvs (X 44 0) b3 L) false 99 a ∧ a x = v) (lvs (X 44 0) b3 L) a00 ≠ 0) (fun v hv => by
    have h1 := hs3 v hv
    rw [k12 44 (by omega) (by omega), fit_kp k12] at h1
    exact h1) hs1
  have em : m3 = m1 := (zn_eq (by omega) (by omega)).mp em
  subst em
  have hsub : nI m2 &&& (nI m3 ^^^ (-1 : Int32)) = 0 := (b_eq0 _).mpr (fun v hv => by
    rw [b_and, b_xor, b_m1 v hv]
    cases hb2 : bt (nI m2) v with
    | false => rfl
    | true =>
      have h1 := (hs2 v hv).mp hb2
      rw [k1 44 (by omega) (by omega), fit_kp k1] at h1
      have h2 : nc (2 * sh3) (fun a => fit X F (2 * sh3) (lvs (X 44 0) b3 L) false 99 a ∧ a x = v) (lvs (X 44 0) b3 L) a00 ≠ 0 := by
        have := nc_mono (P := 2 * sh3) (fun a (h : fit X F (2 * sh3) (lvs (X 44 0) b3 L) true 99 a ∧ a x = v) => (⟨fit_all h.1, h.2⟩ : fit X F (2 * sh3) (lvs (X 44 0) b3 L) false 99 a ∧ a x = v)) (lvs (X 44 0) b3 L) a00
        omega
      have h3 : bt (nI m3) v = true := (hs1 v hv).mpr h2
      rw [h3]
      rfl)
  have n256 : ¬ (256 : Int32) ≤ nI m3 := fun q => by
    have := (zn_lle (k := 256) (by omega) (by decide)).mp q
    have e8 : (OfNat.ofNat 256 : Nat) = 256 := rfl
    omega
  have h2F : 2 ^ F ≤ 4096 := Nat.le_trans (Nat.pow_le_pow_right (by omega) hF12) (by decide)
  have nsh : ¬ (1 : Int32) <<< (nI F &&& 31) ≤ nI n := fun q => by
    rw [shl_12 F (by omega)] at q
    have := (zn_le (by omega) (by omega)).mp q
    omega
  obtain ⟨hh, ss, hm, -⟩ := hands_of hJ3.2.1 hJ3.2.2.2.2.1
  obtain ⟨D4, f, X4, hf, e4, hJ4, k4⟩ := st_handOf hN hJ3 hx hm
  have hfx := (hf.1 x hx).1
  have hm4 : hM 10 X4 hh ss := hM_cg (fun j => by rw [k4 49 (by omega) (by omega)]) (fun j => by rw [k4 50 (by omega) (by omega)]) hm
  obtain ⟨D5, f', X5, hf', e5, hJ5, k5⟩ := st_handOf hN hJ4 (x := f x) (by omega) hm4
  have eff : f' (f x) = f x := by
    rw [finR_eq hf' hf (by omega : f x < L)]
    exact fin_idem (alkF_symm hh ss) hf hx
  rw [eff] at e5
  obtain ⟨D6, X6, e6, hJ6, k6⟩ := st_dates hN hJ5 hx
  obtain ⟨D7, X7, e7, hJ7, k7⟩ := st_dates hN hJ6 hx
  obtain ⟨v6, w6, d6⟩ := dv_rng X5 F L x
  rw [d6] at e6
  rw [dv_cg k6, d6] at e7
  have h104 : Q_leaf_J104 (gal NL) N (nI x) 1 X5 = some (1, X7) := by
    unfold Q_leaf_J104 Q_leaf_J135
    rw [if_neg (by decide), e6, bind3_some, if_pos rfl, if_neg (zn_nn (by omega)), e7, bind3_some, if_pos rfl, if_neg (fun q => by
      have := (zn_llt (k := 4095) (by omega) (by decide)).mp q
      have e8 : (OfNat.ofNat 4095 : Nat) = 4095 := rfl
      omega)]
    rfl
  have h82 : Q_leaf_J82 (gal NL) N (nI x) (nI (f x)) X4 = some (1, X7) := by
    unfold Q_leaf_J82
    rw [if_neg (fun q => by have := (zn_lt (by omega) (by omega)).mp q; omega), e5, bind3_some, if_pos rfl, if_pos rfl]
    exact h104
  have h46 : ∀ s : Int32, (s = 0 → nI n = (0 : Int32)) → Q_leaf_J46 (gal NL) N (nI x) (nI F) (nI m3) (nI m2) (nI n) (nI (f x)) s X4 = some (1, X7) := fun s hs => by
    unfold Q_leaf_J46
    rw [if_pos hsub, if_neg n256, if_neg nsh]
    by_cases c : s = 0
    · rw [if_pos c, if_pos (hs c)]
      exact h82
    · rw [if_neg c]
      exact h82
  refine ⟨D7, X7, ?_, hJ7, keeps_tr k12 (keeps_tr k3 (keeps_tr k4 (keeps_tr k5 (keeps_tr k6 k7))))⟩
  unfold Q_leaf
  rw [e1, bind3_some, if_pos rfl, e2, bind3_some, if_pos rfl, hP, bind3_some, if_pos rfl, e4, bind3_some, if_pos rfl]
  have hz : ¬ (¬ nI m3 = (0 : Int32) ∧ nI m3 &&& (nI m3 - 1) = 0) → nI n = (0 : Int32) := fun q => by
    rcases hone with c | c
    · exact absurd ((one_256 m3 hm3).mp c) q
    · exact c
  by_cases c1 : nI m3 = (0 : Int32)
  · rw [if_pos c1]
    unfold Q_leaf_J45
    exact h46 0 (fun _ => hz (fun q => q.1 c1))
  · rw [if_neg c1]
    by_cases c2 : nI m3 &&& (nI m3 - 1) = (0 : Int32)
    · rw [if_pos c2]
      exact h46 1 (fun q => by cases q)
    · rw [if_neg c2]
      unfold Q_leaf_J45
      exact h46 0 (fun _ => hz (fun q => c2 q.2))
