/-! the acts of a turn -/
theorem t_leaf {NL : List (Nat × Nat)} {N L F D W K x : Nat} {p8 : Int32} {X : gM} (hN : 1000000 ≤ N) (hJ : JJ NL L F D W K X) (hx : L = 0 ∨ x < L) (hx' : x ≤ L) : Ts NL (fun al2 nw => Q_law_J125 (gal NL) al2 N nw (nI L) (nI F) (nI K) p8 (nI x) X) := by
  obtain ⟨g1, g2, g3, g4, g5, g6, g7, g8, g9, g10, g11, g12⟩ := id hJ
  have hL : L ≤ 10 := g2.1
  have hW : W ≤ 12 := g9.1
  have h72 : ∀ (a v : Nat) (s3 : Int32), a < 2 → v ≤ 255 → Ts NL (fun al2 nw => Q_law_J172 (gal NL) al2 N nw (nI L) (nI F) (nI K) p8 (nI x) (nI a) s3 (nI v) X) := fun a v s3 ha hv => by
    obtain ⟨v2, hv2, e2⟩ := jl_l s3 2 (by omega)
    have e2 : jlow s3 (2 : Int32) = nI v2 := e2
    obtain ⟨v4, hv4, e4⟩ := jl_l (s3 >>> ((2 : Int32) &&& (31 : Int32))) 6 (by omega)
    have e4 : jlow (s3 >>> ((2 : Int32) &&& (31 : Int32))) (6 : Int32) = nI v4 := e4
    obtain ⟨v6, hv6, e6⟩ := jl_l (s3 >>> ((5 : Int32) &&& (31 : Int32))) 3 (by omega)
    have e6 : jlow (s3 >>> ((5 : Int32) &&& (31 : Int32))) (3 : Int32) = nI v6 := e6
    have a2 : (1 : Int32) + nI v2 = nI (1 + v2) := zn_add 1 v2
    have a4 : (1 : Int32) + nI v4 = nI (1 + v4) := zn_add 1 v4
    have a6 : nI v6 - (1 : Int32) = 0 ∨ nI v6 - (1 : Int32) = 1 ∨ nI v6 - (1 : Int32) = -1 := by
      rcases (by omega : v6 = 0 ∨ v6 = 1 ∨ v6 = 2) with q | q | q
      · rw [q]; exact Or.inr (Or.inr rfl)
      · rw [q]; exact Or.inl rfl
      · rw [q]; exact Or.inr (Or.inl rfl)
    obtain ⟨nw, k, r, r2, X1, X2, hfr, h9, h10, hP, hg, q0, q1⟩ := pk_leaf hN (JJ_gJ hJ) (nI a) (nI (1 + v2)) (nI (1 + v4)) (nI v6 - 1) (nI v)
    rcases v_leaf hJ ha (by omega) (by omega) (by omega) (by omega) a6 hv h9 with ⟨hk, n, hnw⟩ | hk
    · rw [hk] at hP h10
      obtain ⟨hr, hz⟩ := q0 hk
      obtain ⟨L', F', D', W', K', hJ'⟩ := hg
      have hJ' : JJ (NL ++ nw) L' F' D' W' K' X2 := hJ'
      have g1' := hJ'.1
      rw [hnw] at g1'
      obtain ⟨eL, eF, eW, eK⟩ := n_leaf g1 g1' hW hJ'.2.2.2.2.2.2.2.2.1.1
      rw [eL, eF, eW, eK] at hJ'
      have hr' : r = nI L := by rw [hr, gh_leaf h10 hz, hJ'.2.1.2.1, zn_s1 (by omega), Nat.add_sub_cancel]
      refine ts_n hfr (L := L + 1) (F := F) (K := K) ?_
      unfold Q_law_J172 Q_acts0
      rw [gl_eq, e2, gl_eq, e4, gl_eq, e6, a2, a4, hP, bind3_some, if_pos rfl, bind2_some, if_pos hr']
      unfold Q_law_J190 Q_law_J195 Q_law_J209
      rw [if_pos hr', gl_eq, zn_a1]
      exact t_28 hN hJ' (Or.inr (by omega))
    · rw [hk] at hP
      obtain ⟨-, hn, -⟩ := q1 (by rw [hk]; decide)
      rw [hn, List.append_nil] at hg
      rw [hn] at hP
      obtain ⟨D', hJ'⟩ := same_n hJ hg
      refine ts_0 (L := L) (F := F) (K := K) ?_
      unfold Q_law_J172 Q_acts0
      have nL : ¬ (-9 : Int32) = nI L := ng_ne (by omega) (by decide)
      rw [gl_eq, e2, gl_eq, e4, gl_eq, e6, a2, a4, hP, bind3_some, if_neg (by decide), if_pos rfl, eqn_nil, Option.bind_some, bind2_some, if_neg nL, if_pos rfl]
      unfold Q_law_J190 Q_law_J195 Q_law_J209
      rw [if_neg nL, gl_eq, zn_a0]
      exact t_28 hN hJ' hx
  have h41 : ∀ a : Nat, a < 2 → Ts NL (fun al2 nw => Q_law_J141 (gal NL) al2 N nw (nI L) (nI F) (nI K) p8 (nI x) (nI a) X) := fun a ha => by
    obtain ⟨v1, hv1, e1⟩ := jl_l (p8 >>> ((9 : Int32) &&& (31 : Int32))) 3 (by omega)
    have e1 : jlow (p8 >>> ((9 : Int32) &&& (31 : Int32))) (3 : Int32) = nI v1 := e1
    obtain ⟨v4, hv4, e4⟩ := jl_l (p8 >>> ((11 : Int32) &&& (31 : Int32))) 256 (by omega)
    have e4 : jlow (p8 >>> ((11 : Int32) &&& (31 : Int32))) (256 : Int32) = nI v4 := e4
    by_cases c : nI v1 = (0 : Int32)
    · exact ts_eq (fun al2 nw => by unfold Q_law_J141; rw [gl_eq, e1, if_pos c, gl_eq, e4]) (h72 a v4 (p8 >>> ((1 : Int32) &&& (31 : Int32))) ha (by omega))
    · exact ts_eq (fun al2 nw => by unfold Q_law_J141; rw [gl_eq, e1, if_neg c]; rfl) (h72 a 0 (p8 >>> ((1 : Int32) &&& (31 : Int32))) ha (by omega))
  obtain ⟨v, hv, ev⟩ := jl_l p8 2 (by omega)
  have ev : jlow p8 (2 : Int32) = nI v := ev
  by_cases c : nI L = (0 : Int32)
  · exact ts_eq (fun al2 nw => by unfold Q_law_J125; rw [if_pos c]; rfl) (h41 0 (by omega))
  · exact ts_eq (fun al2 nw => by unfold Q_law_J125; rw [if_neg c, gl_eq, ev]) (h41 v hv)
theorem t_word {NL : List (Nat × Nat)} {N L F D W K x : Nat} {p8 : Int32} {X : gM} (hN : 1000000 ≤ N) (hJ : JJ NL L F D W K X) (hx : L = 0 ∨ x < L) : Ts NL (fun al2 nw => Q_law_J307 (gal NL) al2 N nw (nI L) (nI F) (nI K) p8 (nI x) X) := by
  obtain ⟨g1, g2, g3, g4, g5, g6, g7, g8, g9, g10, g11, g12⟩ := id hJ
  have hL : L ≤ 10 := g2.1
  have hW : W ≤ 12 := g9.1
  obtain ⟨v1, hv1, e1⟩ := jl_l (p8 >>> ((4 : Int32) &&& (31 : Int32))) 3 (by omega)
  have e1 : jlow (p8 >>> ((4 : Int32) &&& (31 : Int32))) (3 : Int32) = nI v1 := e1
  have h63 : ∀ {ML : List (Nat × Nat)} {D' W' : Nat} {Y : gM}, JJ ML L F D' W' K Y → Rs ML L F K (Q_law_J363 (gal ML) N (nI L) (nI F) (nI K) p8 (nI x) Y) := fun h => t_28 hN h hx
  by_cases c : nI v1 = (0 : Int32)
  · refine ts_0 (L := L) (F := F) (K := K) ?_
    unfold Q_law_J307 Q_law_J312 Q_law_J337
    rw [gl_eq, e1, if_pos c, eqn_nil, Option.bind_some, if_neg (by decide), if_neg (by decide), if_pos (by decide)]
    exact h63 hJ
  · obtain ⟨nw, k, r, r2, X1, X2, hfr, h9, h10, hP, hg, q0, q1⟩ := pk_word hN (JJ_gJ hJ)
    rcases v_word hN hJ h9 with ⟨hk, v, hv, hr⟩ | hk
    · rw [hk] at hP
      have hJ2 : ∃ D' W', JJ (NL ++ nw) L F D' W' K X2 := by
        rcases w_word h9 hk with hn | ⟨j, hj, hn⟩
        · rw [hn, List.append_nil] at hg ⊢
          obtain ⟨D', h⟩ := same_n hJ hg
          exact ⟨D', W, h⟩
        · obtain ⟨L', F', D', W', K', hJ'⟩ := hg
          have hJ' : JJ (NL ++ nw) L' F' D' W' K' X2 := hJ'
          have g1' := hJ'.1
          rw [hn] at g1'
          obtain ⟨eL, eF, eK⟩ := n_word g1 hj g1' hW hJ'.2.2.2.2.2.2.2.2.1.1
          rw [eL, eF, eK] at hJ'
          exact ⟨D', W', hJ'⟩
      obtain ⟨D', W', hJ'⟩ := hJ2
      refine ts_n hfr (L := L) (F := F) (K := K) ?_
      unfold Q_law_J307 Q_law_J312 Q_acts3 Q_law_J337
      rw [gl_eq, e1, if_neg c, hP, bind3_some, if_pos rfl, bind2_some, if_neg (by decide), hr, if_neg (zn_nn (by omega)), if_pos ((zn_ltl (k := 12) (by omega) (by decide)).mpr hv)]
      exact h63 hJ'
    · rw [hk] at hP
      obtain ⟨-, hn, -⟩ := q1 (by rw [hk]; decide)
      rw [hn, List.append_nil] at hg
      rw [hn] at hP
      obtain ⟨D', hJ'⟩ := same_n hJ hg
      refine ts_0 (L := L) (F := F) (K := K) ?_
      unfold Q_law_J307 Q_law_J312 Q_acts3 Q_law_J337
      rw [gl_eq, e1, if_neg c, hP, bind3_some, if_neg (by decide), if_pos rfl, eqn_nil, Option.bind_some, bind2_some, if_neg (by decide), if_pos (by decide)]
      unfold Q_law_J356
      rw [if_pos rfl]
      exact h63 hJ'
theorem t_work {NL : List (Nat × Nat)} {N L F D W K x : Nat} {p8 : Int32} {X : gM} (hN : 1000000 ≤ N) (hJ : JJ NL L F D W K X) (hx : L = 0 ∨ x < L) : Ts NL (fun al2 nw => bind2 (Q_acts4 (gal NL) N nw (0 : Int32) (0 : Int32) (0 : Int32) X) fun r89 X88 => if r89 = nI K then (Q_law_J404 al2 N (nI L) (nI F) (nI K) p8 (nI x) r89 X88) else (if r89 = (-9 : Int32) then (Q_law_J404 al2 N (nI L) (nI F) (nI K) p8 (nI x) r89 X88) else (Q_law_J409 al2 N (nI L) (nI F) (nI K) p8 (nI x) r89 (0 : Int32) X88))) := by
  obtain ⟨g1, g2, g3, g4, g5, g6, g7, g8, g9, g10, g11, g12⟩ := id hJ
  have hL : L ≤ 10 := g2.1
  have hW : W ≤ 12 := g9.1
  have hK : K ≤ 4 := g10.1
  obtain ⟨nw, k, r, r2, X1, X2, hfr, h9, h10, hP, hg, q0, q1⟩ := pk_work hN (JJ_gJ hJ)
  rcases v_work hJ h9 with ⟨hk, hr, hn⟩ | hk
  · rw [hk] at hP
    obtain ⟨L', F', D', W', K', hJ'⟩ := hg
    have hJ' : JJ (NL ++ nw) L' F' D' W' K' X2 := hJ'
    have g1' := hJ'.1
    rw [hn] at g1'
    obtain ⟨eL, eF, eW, eK⟩ := n_work g1 g1' hW hJ'.2.2.2.2.2.2.2.2.1.1
    rw [eL, eF, eW, eK] at hJ'
    refine ts_n hfr (L := L) (F := F) (K := K + 1) ?_
    unfold Q_acts4
    rw [hP, bind3_some, if_pos rfl, bind2_some, if_pos hr]
    unfold Q_law_J404 Q_law_J409 Q_law_J425
    rw [if_pos hr, gl_eq, zn_a1]
    exact t_28 hN hJ' hx
  · rw [hk] at hP
    obtain ⟨-, hn, -⟩ := q1 (by rw [hk]; decide)
    rw [hn, List.append_nil] at hg
    rw [hn] at hP
    obtain ⟨D', hJ'⟩ := same_n hJ hg
    have nK : ¬ (-9 : Int32) = nI K := ng_ne (by omega) (by decide)
    refine ts_0 (L := L) (F := F) (K := K) ?_
    unfold Q_acts4
    rw [hP, bind3_some, if_neg (by decide), if_pos rfl, eqn_nil, Option.bind_some, bind2_some, if_neg nK, if_pos rfl]
    unfold Q_law_J404 Q_law_J409 Q_law_J425
    rw [if_neg nK, gl_eq, zn_a0]
    exact t_28 hN hJ' hx
theorem t_fact {NL : List (Nat × Nat)} {N L F D W K x : Nat} {p8 s2 s3 s4 : Int32} {X : gM} (hN : 1000000 ≤ N) (hJ : JJ NL L F D W K X) (hx : L = 0 ∨ x < L) : Ts NL (fun al2 nw => Q_law_J743 (gal NL) al2 N nw (nI L) (nI F) (nI K) p8 (nI x) s2 s3 s4 X) := by
  obtain ⟨g1, g2, g3, g4, g5, g6, g7, g8, g9, g10, g11, g12⟩ := id hJ
  have hL : L ≤ 10 := g2.1
  have hW : W ≤ 12 := g9.1
  have hF : F ≤ 12 := g7.1
  have key : ∀ b : Int32, b = 0 ∨ b = 1 → (∀ nw, Q_acts5 (gal NL) N nw s2 s3 s4 X = bind3 (P_fact (gal NL) N nw s2 s3 s4 b X) fun k r Y => if k = 0 then (some (r, Y)) else (if k = 3 then (eqn nw []).bind fun _ => some ((-9 : Int32), Y) else (if k = 1 then (eqn nw []).bind fun _ => some ((-8 : Int32), Y) else (if k = 2 then (eqn nw []).bind fun _ => some ((-7 : Int32), Y) else (none))))) → Ts NL (fun al2 nw => Q_law_J743 (gal NL) al2 N nw (nI L) (nI F) (nI K) p8 (nI x) s2 s3 s4 X) := fun b hb hQ => by
    obtain ⟨nw, k, r, r2, X1, X2, hfr, h9, h10, hP, hg, q0, q1⟩ := pk_fact hN (JJ_gJ hJ) s2 s3 s4 b hb
    by_cases hk : k = 0
    · rw [hk] at hP h10
      have hn := v_fact hJ h9 hk
      obtain ⟨hr, hz⟩ := q0 hk
      obtain ⟨L', F', D', W', K', hJ'⟩ := hg
      have hJ' : JJ (NL ++ nw) L' F' D' W' K' X2 := hJ'
      have g1' := hJ'.1
      rw [hn] at g1'
      obtain ⟨eL, eF, eW, eK⟩ := n_fact g1 g1' hW hJ'.2.2.2.2.2.2.2.2.1.1
      rw [eL, eF, eW, eK] at hJ'
      have hr' : r = nI F := by rw [hr, gh_fact h10 hz, hJ'.2.2.2.2.2.2.1.2.1, zn_s1 (by omega), Nat.add_sub_cancel]
      refine ts_n hfr (L := L) (F := F + 1) (K := K) ?_
      unfold Q_law_J743
      rw [hQ, hP, bind3_some, if_pos rfl, bind2_some, if_pos hr']
      unfold Q_law_J775 Q_law_J780 Q_law_J794
      rw [if_pos hr', gl_eq, zn_a1]
      exact t_28 hN hJ' hx
    · obtain ⟨-, hn, hk3⟩ := q1 hk
      rw [hn, List.append_nil] at hg
      rw [hn] at hP
      obtain ⟨D', hJ'⟩ := same_n hJ hg
      have h75 : ∀ r : Int32, r < 0 → Rs NL L F K (Q_law_J775 (gal NL) N (nI L) (nI F) (nI K) p8 (nI x) r X2) := fun r hr => by
        unfold Q_law_J775 Q_law_J780 Q_law_J794
        rw [if_neg (ng_ne (by omega) hr), gl_eq, zn_a0]
        exact t_28 hN hJ' hx
      refine ts_0 (L := L) (F := F) (K := K) ?_
      unfold Q_law_J743
      rw [hQ, hP, bind3_some]
      rcases hk3 with e | e | e
      · rw [if_neg hk, if_neg (by omega), if_pos e, eqn_nil, Option.bind_some, bind2_some, if_neg (ng_ne (by omega) (by decide)), if_neg (by decide), if_pos rfl]
        exact h75 _ (by decide)
      · rw [if_neg hk, if_neg (by omega), if_neg (by omega), if_pos e, eqn_nil, Option.bind_some, bind2_some, if_neg (ng_ne (by omega) (by decide)), if_neg (by decide), if_neg (by decide), if_pos rfl]
        exact h75 _ (by decide)
      · rw [if_neg hk, if_pos e, eqn_nil, Option.bind_some, bind2_some, if_neg (ng_ne (by omega) (by decide)), if_pos rfl]
        exact h75 _ (by decide)
  by_cases c : ((s2 + s3) - (s2 + s3) / (2 : Int32) * (2 : Int32)) = (0 : Int32)
  · exact key 1 (Or.inr rfl) (fun nw => by unfold Q_acts5; rw [if_pos c])
  · exact key 0 (Or.inl rfl) (fun nw => by unfold Q_acts5; rw [if_neg c])
