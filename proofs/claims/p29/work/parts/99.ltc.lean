/-! the acts of a turn that make nothing new -/
theorem t_image {NL : List (Nat × Nat)} {N L F D W K x c g : Nat} {p8 p5 : Int32} {X : gM} (hN : 1000000 ≤ N) (hJ : JJ NL L F D W K X) (hx : x < L) (hc : c < 100) (hg : g < 3) (h5 : p5 = -1 ∨ ∃ v, v < 20 ∧ p5 = nI v) : Rs NL L F K (Q_law_J575 (gal NL) N (nI L) (nI F) (nI K) p8 (nI x) (nI c) (nI x) (nI c) (nI g) p5 X) := by
  obtain ⟨k, r, r2, X1, X2, h9, h10, hP, hgg, q0, q1⟩ := pk_image hN (JJ_gJ hJ) (nI x) (nI 0) (nI c) (nI g) p5
  obtain ⟨D1, hJ1⟩ := same_n hJ hgg
  obtain ⟨w, h46, w1, w8, hv⟩ := v_image hJ hx hc hg h5 h9
  have hP : P_image (gal NL) N (nI x) 0 (nI c) (nI g) p5 X = some (k, r, X2) := hP
  obtain ⟨D2, r3, X3, e3, hJ3, k3, m, hm, m1, m8, hu⟩ := st_unmix (p := 1) (c := c) hN hJ1 hx hc (Or.inr rfl)
  have f46 : X2 46 = X 46 := by
    have hA : frm (fun k => decide (k ≠ 46)) X X1 := fr_X9_image (S := fun k => decide (k ≠ 46)) rfl rfl frm_rfl _ h9
    have hB : frm (fun k => decide (k ≠ 46)) X X2 := fr_X10_image (S := fun k => decide (k ≠ 46)) rfl rfl (frm_gst2 rfl hA) _ h10
    exact hB 46 rfl
  have hmw : m = w := by
    rw [f46, h46] at hm
    exact ((zn_eq (by omega) (by omega)).mp hm).symm
  rw [hmw, if_neg (by decide)] at hu
  have go : ∀ D' Y, JJ NL L F D' W K Y → Rs NL L F K (Q_law_J645 (gal NL) N (nI L) (nI F) (nI K) p8 (nI x) Y) := fun D' Y hY => t_28 hN hY (Or.inr hx)
  unfold Q_law_J575 Q_imaged
  rcases hv with ⟨hcw, hk, hr⟩ | ⟨hcw, hk⟩
  · rcases hu with ⟨-, hr3⟩ | ⟨hcw', -⟩
    · have f7 : X2 7 = X1 7 := by
        have hB : frm (fun k => decide (k ≠ 7)) (gst k r X1) X2 := fr_X10_image (S := fun k => decide (k ≠ 7)) rfl rfl frm_rfl _ h10
        rw [hB 7 rfl, hk]
        funext p j
        show mset X1 81 0 0 r 7 p j = _
        rw [mset_at, if_neg (by omega)]
      obtain ⟨b0, ln, m', hb0, l1, l2, m1', m8', f44, f45, hm', -⟩ := hJ1.2.1.2.2.2.2 x hx
      have hC := (hJ1.2.2.1 x ln w hx f45 (by rw [f46]; exact h46) l2 w8 0 c (by omega) hcw).2.2.1
      rw [Nat.mul_zero, Nat.add_zero] at hC
      rw [← f7, hC] at hr
      have hrr : r = r3 := by rw [hr, hr3]
      rw [hP, bind3_some, if_pos hk, bind2_some, e3, bind2_some, if_pos hrr]
      obtain ⟨D4, r4, X4, e4, hJ4, k4, m'', hm'', m1'', m8'', hu'⟩ := st_unmix (p := 0) (c := c) hN hJ3 hx hc (Or.inl rfl)
      have e4 : Q_unmixed (gal NL) N (nI x) (nI c) 0 X3 = some (r4, X4) := e4
      have hmw' : m'' = w := by
        rw [k3 46 (by omega) (by omega), f46, h46] at hm''
        exact ((zn_eq (by omega) (by omega)).mp hm'').symm
      rw [hmw', if_pos rfl] at hu'
      have hr4 : r4 = mO (X2 56 0) (X2 54 0) (X2 55 0) (32 * x + c) := by
        rcases hu' with ⟨-, h⟩ | ⟨h, -⟩
        · rw [h, k3 56 (by omega) (by omega), k3 54 (by omega) (by omega), k3 55 (by omega) (by omega)]
        · omega
      rcases mU_rng (X2 56 0) (X2 54 0) (X2 55 0) (32 * x + c) with ⟨u1, u2⟩ | ⟨u, v, hu9, hv9, u1, u2⟩
      · rw [hr, u1, if_neg (by decide), if_neg (by decide), if_neg (by decide), if_neg (by decide)]
        unfold Q_law_J625
        rw [e4, bind2_some, hr4, u2, if_neg (by decide)]
        unfold Q_law_J642
        rw [if_pos rfl]
        exact go _ _ hJ4
      · have a1 : ¬ nI v < (-8 : Int32) := (by decide : ∀ v, v < 10 → ¬ nI v < (-8 : Int32)) v (by omega)
        have a2 : ¬ (9 : Int32) < nI v := (by decide : ∀ v, v < 10 → ¬ (9 : Int32) < nI v) v (by omega)
        have a3 : ¬ nI v = (-8 : Int32) := (by decide : ∀ v, v < 10 → ¬ nI v = (-8 : Int32)) v (by omega)
        rw [hr, u1, if_neg a1, if_neg a2, if_neg a3, if_pos (not_lt32.mp (zn_nn (by omega)))]
        unfold Q_law_J625
        rw [e4, bind2_some, hr4, u2, if_pos (not_lt32.mp (zn_nn (by omega)))]
        unfold Q_law_J642
        rw [if_pos rfl]
        exact go _ _ hJ4
    · omega
  · rcases hu with ⟨hcw', -⟩ | ⟨-, hr3⟩
    · omega
    · rw [hP, bind3_some, if_neg (by omega), if_pos hk, bind2_some, e3, bind2_some, hr3, if_pos rfl, if_neg (by decide), if_neg (by decide), if_pos rfl]
      exact go _ _ hJ3
theorem t_hold {NL : List (Nat × Nat)} {N L F D W K x f : Nat} {p8 : Int32} {X : gM} (hN : 1000000 ≤ N) (hJ : JJ NL L F D W K X) (hx : L = 0 ∨ x < L) (hf : F = 0 ∨ f < F) : Rs NL L F K (Q_law_J823 (gal NL) N (nI L) (nI F) (nI K) p8 (nI x) (nI f) X) := by
  have go : ∀ D' Y, JJ NL L F D' W K Y → Rs NL L F K (Q_law_J879 (gal NL) N (nI L) (nI F) (nI K) p8 (nI x) Y) := fun D' Y hY => t_28 hN hY hx
  have h39 : ∀ b : Int32, b = 0 ∨ b = 1 → Rs NL L F K (Q_law_J839 (gal NL) N (nI L) (nI F) (nI K) p8 (nI x) (nI f) b X) := fun b hb => by
    unfold Q_law_J839
    by_cases c : nI F = (0 : Int32)
    · rw [if_pos c]; exact go _ _ hJ
    · have hf : f < F := by
        rcases hf with q | q
        · exact absurd (by rw [q]; rfl) c
        · exact q
      obtain ⟨k, r, r2, X1, X2, h9, h10, hP, hg, -, -⟩ := pk_hold hN (JJ_gJ hJ) (nI f) b hb
      obtain ⟨D1, hJ1⟩ := same_n hJ hg
      obtain ⟨hk, hr, hr01, h6⟩ := v_hold hJ hf hb h9
      have f23 : X2 23 = X1 23 := by
        have hB : frm (fun k => decide (k ≠ 23)) (gst k (if r = (0 : Int32) then (0 : Int32) else (1 : Int32)) X1) X2 := fr_X10_hold (S := fun k => decide (k ≠ 23)) rfl rfl frm_rfl _ h10
        rw [hB 23 rfl, hk]
        funext p j
        show mset X1 81 0 0 (if r = (0 : Int32) then (0 : Int32) else (1 : Int32)) 23 p j = _
        rw [mset_at, if_neg (by omega)]
      have h67 : X2 67 0 f = b := by
        obtain ⟨k', a, o, b', -, -, -, -, -, -, -, -, -, -, -, -, -, -, -, e6, -, -⟩ := hJ1.2.2.2.2.2.2.1.2.2.2.2 f hf
        rw [← e6, f23, h6]
      obtain ⟨k', r', r2', X1', X2', h9', h10', hP', hg', -, -⟩ := pk_hold hN (JJ_gJ hJ1) (nI f) b hb
      obtain ⟨D2, hJ2⟩ := same_n hJ1 hg'
      obtain ⟨hk', hr', -, -⟩ := v_hold hJ1 hf hb h9'
      have h66 : Rs NL L F K (Q_law_J866 (gal NL) N (nI L) (nI F) (nI K) p8 (nI x) (nI f) b X2) := by
        unfold Q_law_J866
        rw [hP', bind3_some, if_pos hk', if_pos (hr'.trans h67)]
        exact go _ _ hJ2
      rw [if_neg c, hP, bind3_some, if_pos hk]
      by_cases c1 : r = (0 : Int32)
      · rw [if_pos c1]
        by_cases c2 : b = (0 : Int32)
        · rw [if_pos c2]; exact h66
        · rw [if_neg c2, if_neg c2]; exact h66
      · rw [if_neg c1]; exact h66
  unfold Q_law_J823
  rw [gl_eq]
  by_cases c : jlow p8 (2 : Int32) = (0 : Int32)
  · rw [if_pos c]; exact h39 1 (Or.inr rfl)
  · rw [if_neg c]; exact h39 0 (Or.inl rfl)
theorem t_date {NL : List (Nat × Nat)} {N L F D W K x : Nat} {p8 : Int32} {X : gM} (hN : 1000000 ≤ N) (hJ : JJ NL L F D W K X) (hx : x < L) : Rs NL L F K (bind3 (P_dates (gal NL) N (nI x) X) fun k13 r11 X10 => if k13 = 0 then (gl (jlow (p8) ((4096 : Int32))) fun v14 => bind2 (Q_acts6 (gal NL) N (nI x) v14 (0 : Int32) X10) fun r17 X16 => if r17 = (-9 : Int32) then ((eqn [] []).bind fun _ => Q_law_J1021 (gal NL) N (nI L) (nI F) (nI K) p8 (nI x) X16) else (gl (jlow (p8) ((4096 : Int32))) fun v20 => if r17 = (r11 &&& v20) then (bind3 (P_dates (gal NL) N (nI x) X16) fun k26 r24 X23 => if k26 = 0 then (if r17 = r24 then ((eqn [] []).bind fun _ => Q_law_J1021 (gal NL) N (nI L) (nI F) (nI K) p8 (nI x) X23) else ((eqn [] []).bind fun _ => Q_law_J1025 (gal NL) N (nI L) (nI F) (nI K) p8 (nI x) X23)) else none) else ((eqn [] []).bind fun _ => Q_law_J1025 (gal NL) N (nI L) (nI F) (nI K) p8 (nI x) X16))) else none) := by
  have go : ∀ D' Y, JJ NL L F D' W K Y → Rs NL L F K (Q_law_J1021 (gal NL) N (nI L) (nI F) (nI K) p8 (nI x) Y) := fun D' Y hY => t_28 hN hY (Or.inr hx)
  obtain ⟨m, hm, em⟩ := jl_l p8 4096 (by omega)
  have em : jlow p8 (4096 : Int32) = nI m := em
  obtain ⟨D1, X1, e1, hJ1, k1⟩ := st_dates hN hJ hx
  obtain ⟨k, r, r2, Y1, X2, h9, h10, hP, hg, -, -⟩ := pk_date hN (JJ_gJ hJ1) (nI x) (nI m)
  obtain ⟨D2, hJ2⟩ := same_n hJ1 hg
  obtain ⟨D3, X3, e3, hJ3, k3⟩ := st_dates hN hJ2 hx
  have hv := v_date hN hJ1 hx hm h9
  rw [e1, bind3_some, if_pos rfl, gl_eq, em]
  unfold Q_acts6
  rw [hP, bind3_some]
  rcases hv with hk | ⟨hk, hr, h12⟩
  · rw [hk, if_neg (by decide), if_pos rfl, bind2_some, if_pos rfl, eqn_nil, Option.bind_some]
    exact go _ _ hJ2
  · have f5 : X2 5 = Y1 5 := by
      have hB : frm (fun k => decide (k ≠ 5)) (gst k r Y1) X2 := fr_X10_date (S := fun k => decide (k ≠ 5)) rfl rfl rfl frm_rfl _ h10
      rw [hB 5 rfl, hk]
      funext p j
      show mset Y1 81 0 0 r 5 p j = _
      rw [mset_at, if_neg (by omega)]
    have f6 : ∀ k, 63 ≤ k → k ≤ 67 → X2 k = X1 k := fun q a b => by
      have hA : frm (fun k => decide (¬ (63 ≤ k ∧ k ≤ 67))) X1 Y1 := fr_X9_date (S := fun k => decide (¬ (63 ≤ k ∧ k ≤ 67))) rfl frm_rfl _ h9
      have hB : frm (fun k => decide (¬ (63 ≤ k ∧ k ≤ 67))) X1 X2 := fr_X10_date (S := fun k => decide (¬ (63 ≤ k ∧ k ≤ 67))) rfl rfl rfl (frm_gst2 rfl hA) _ h10
      exact hB q (decide_eq_false (by omega))
    have hd : dv X2 F L x = dv X1 F L x &&& nI m := by
      unfold dv
      rw [itF_cg (X := X1) (by rw [f6 63 (by omega) (by omega)]) (by rw [f6 64 (by omega) (by omega)]) (by rw [f6 65 (by omega) (by omega)]) (by rw [f6 66 (by omega) (by omega)]) (by rw [f6 67 (by omega) (by omega)]),
        dtF_cg (y := fun k => if k = x then X1 52 0 k &&& nI m else X1 52 0 k) (fun k hk => by
          rw [← lf_512 hJ2.2.1 k hk, f5, h12 k]
          by_cases hkx : k = x
          · rw [if_pos hkx]
            show _ = if k = x then X1 52 0 k &&& nI m else X1 52 0 k
            rw [if_pos hkx, lf_512 hJ1.2.1 k hk]
          · rw [if_neg hkx]
            show _ = if k = x then X1 52 0 k &&& nI m else X1 52 0 k
            rw [if_neg hkx, lf_512 hJ1.2.1 k hk]),
        dtF_upd (itF_mono (by rw [b_one (by have := hJ.2.1.1; omega) (by have := hJ.2.1.1; omega)]; exact decide_eq_true rfl) 10), if_pos hx]
    rw [if_pos hk, bind2_some]
    by_cases c : r = (-9 : Int32)
    · rw [if_pos c, eqn_nil, Option.bind_some]
      exact go _ _ hJ2
    · rw [if_neg c, gl_eq, if_pos (by rw [hr, dv_cg k1]), e3, bind3_some, if_pos rfl, if_pos (by rw [hr, hd]), eqn_nil, Option.bind_some]
      exact go _ _ hJ3
