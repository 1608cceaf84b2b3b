/-! a whole turn -/
set_option maxHeartbeats 4000000 in
theorem t_214 {NL : List (Nat × Nat)} {N L F D W K x : Nat} {p8 p9 : Int32} {X : gM} (hN : 1000000 ≤ N) (hJ : JJ NL L F D W K X) (hx : x < L) : Ts NL (fun al2 nw => Q_law_J214 (gal NL) al2 N nw (nI L) (nI F) (nI K) 1 p8 p9 (nI x) X) := by
  have hL : L ≤ 10 := hJ.2.1.1
  have hF : F ≤ 12 := hJ.2.2.2.2.2.2.1.1
  have hx2 : L = 0 ∨ x < L := Or.inr hx
  have go : ∀ D' Y, JJ NL L F D' W K Y → Rs NL L F K (Q_law_J1028 (gal NL) N (nI L) (nI F) (nI K) 1 p8 (nI x) Y) := fun D' Y hY => t_28 hN hY hx2
  unfold Q_law_J214
  refine ts_ite (fun _ => ts_ite (fun _ => ts_ite (fun _ => ts_ite (fun _ => ts_ite (fun _ => ts_ite (fun _ => ts_ite (fun _ => ts_ite (fun _ => ts_ite (fun _ => ?_) (fun _ => ?_)) (fun _ => ?_)) (fun _ => ?_)) (fun _ => ?_)) (fun _ => ?_)) (fun _ => ?_)) (fun _ => ?_)) (fun _ => ?_)) (fun _ => ?_)
  · exact ts_0 (t_date hN hJ hx)
  · obtain ⟨a, ha, ea⟩ := jl_l p8 21 (by omega)
    have ea : jlow p8 (21 : Int32) = nI a := ea
    obtain ⟨b, hb, eb⟩ := jl_l (p8 >>> ((5 : Int32) &&& (31 : Int32))) 21 (by omega)
    have eb : jlow (p8 >>> ((5 : Int32) &&& (31 : Int32))) (21 : Int32) = nI b := eb
    obtain ⟨c, hc, ec⟩ := jl_l (p8 >>> ((9 : Int32) &&& (31 : Int32))) 4 (by omega)
    have ec : jlow (p8 >>> ((9 : Int32) &&& (31 : Int32))) (4 : Int32) = nI c := ec
    obtain ⟨d, hd, ed⟩ := jl_l (p8 >>> ((12 : Int32) &&& (31 : Int32))) 4 (by omega)
    have ed : jlow (p8 >>> ((12 : Int32) &&& (31 : Int32))) (4 : Int32) = nI d := ed
    obtain ⟨k, r, r2, X1, X2, h9, h10, hP, hg, -, -⟩ := pk_hand hN (JJ_gJ hJ) (nI x) (nI a) (nI b) (nI c) (nI d)
    obtain ⟨D', hJ'⟩ := same_n hJ hg
    obtain ⟨hk, n, n1, n2, hr⟩ := v_hand hN hJ hx (by omega) (by omega) (by omega) (by omega) h9
    refine ts_0 (L := L) (F := F) (K := K) ?_
    rw [gl_eq, ea, gl_eq, eb, gl_eq, ec, gl_eq, ed, hP, bind3_some, if_pos hk, hr, if_neg (fun q => by
      have := (zn_ltl (k := 1) (by omega) (by decide)).mp q
      have e8 : (OfNat.ofNat 1 : Nat) = 1 := rfl
      omega), if_neg (fun q => by
      have := (zn_lt (by omega) (by omega)).mp q
      omega), eqn_nil, Option.bind_some]
    exact go _ _ hJ'
  · refine ts_ite (fun c => ts_0 (L := L) (F := F) (K := K) ?_) (fun c => ts_0 (L := L) (F := F) (K := K) ?_)
    · rw [eqn_nil, Option.bind_some]
      have hF0 : F = 0 := (zn_eql (k := 0) (by omega) (by decide)).mp c
      exact t_hold (f := 0) hN hJ hx2 (Or.inl hF0)
    · have hF0 : F ≠ 0 := fun q => c (by rw [q]; rfl)
      obtain ⟨a, ha, ea⟩ := jl_ok (p8 >>> ((7 : Int32) &&& (31 : Int32))) (n := F) (by omega) (by omega)
      have hz : nz (nI F) = some (nI F) := if_neg c
      rw [hz, Option.bind_some, gl_eq, ea, eqn_nil, Option.bind_some]
      exact t_hold hN hJ hx2 (Or.inr ha)
  · have cL : ¬ nI L = (0 : Int32) := fun q => by
      have h0 : L = 0 := (zn_eql (k := 0) (by omega) (by decide)).mp q
      omega
    have hz : nz (nI L) = some (nI L) := if_neg cL
    by_cases c : jlow p8 (5 : Int32) = (3 : Int32)
    · exact ts_eq (fun al2 nw => by rw [gl_eq, gl_eq, if_pos c, gl_eq]) (t_fact (p8 := p8) (s2 := jlow p8 (5 : Int32)) (s3 := nI x) (s4 := jlow (p8 >>> ((7 : Int32) &&& (31 : Int32))) (8 : Int32)) hN hJ hx2)
    · exact ts_eq (fun al2 nw => by rw [gl_eq, gl_eq, if_neg c, hz, Option.bind_some, gl_eq]) (t_fact (p8 := p8) (s2 := jlow p8 (5 : Int32)) (s3 := nI x) (s4 := jlow (p8 >>> ((7 : Int32) &&& (31 : Int32))) (nI L)) hN hJ hx2)
  · obtain ⟨a, ha, ea⟩ := jl_l p8 3 (by omega)
    have ea : jlow p8 (3 : Int32) = nI a := ea
    obtain ⟨b, hb, eb⟩ := jl_l (p8 >>> ((2 : Int32) &&& (31 : Int32))) 10 (by omega)
    have eb : jlow (p8 >>> ((2 : Int32) &&& (31 : Int32))) (10 : Int32) = nI b := eb
    obtain ⟨c, hc, ec⟩ := jl_l (p8 >>> ((6 : Int32) &&& (31 : Int32))) 10 (by omega)
    have ec : jlow (p8 >>> ((6 : Int32) &&& (31 : Int32))) (10 : Int32) = nI c := ec
    obtain ⟨k, r, r2, X1, X2, h9, h10, hP, hg, -, -⟩ := pk_light hN (JJ_gJ hJ) (nI a) (nI b) (nI c)
    obtain ⟨D', hJ'⟩ := same_n hJ hg
    have hk := v_light hN hJ ha hb hc h9
    refine ts_0 (L := L) (F := F) (K := K) ?_
    rw [gl_eq, ea, gl_eq, eb, gl_eq, ec, hP, bind3_some, if_pos hk, eqn_nil, Option.bind_some]
    exact go _ _ hJ'
  · obtain ⟨a, ha, ea⟩ := jl_l (p8 >>> ((6 : Int32) &&& (31 : Int32))) 6 (by omega)
    have ea : jlow (p8 >>> ((6 : Int32) &&& (31 : Int32))) (6 : Int32) = nI a := ea
    obtain ⟨b, hb, eb⟩ := jl_l (p8 >>> ((9 : Int32) &&& (31 : Int32))) 3 (by omega)
    have eb : jlow (p8 >>> ((9 : Int32) &&& (31 : Int32))) (3 : Int32) = nI b := eb
    obtain ⟨c, hc, ec⟩ := jl_l (p8 >>> ((13 : Int32) &&& (31 : Int32))) 20 (by omega)
    have ec : jlow (p8 >>> ((13 : Int32) &&& (31 : Int32))) (20 : Int32) = nI c := ec
    refine ts_0 (L := L) (F := F) (K := K) ?_
    rw [gl_eq, ea, gl_eq, eb, gl_eq]
    by_cases h0 : jlow (p8 >>> ((11 : Int32) &&& (31 : Int32))) (5 : Int32) = (0 : Int32)
    · rw [if_pos h0, eqn_nil, Option.bind_some]
      exact t_image hN hJ hx (by omega) hb (Or.inl rfl)
    · rw [if_neg h0, gl_eq, ec, eqn_nil, Option.bind_some]
      exact t_image hN hJ hx (by omega) hb (Or.inr ⟨c, hc, rfl⟩)
  · obtain ⟨a, ha, ea⟩ := jl_l p8 3 (by omega)
    have ea : jlow p8 (3 : Int32) = nI a := ea
    obtain ⟨b, hb, eb⟩ := jl_l (p8 >>> ((6 : Int32) &&& (31 : Int32))) 6 (by omega)
    have eb : jlow (p8 >>> ((6 : Int32) &&& (31 : Int32))) (6 : Int32) = nI b := eb
    obtain ⟨c, hc, ec⟩ := jl_l (p8 >>> ((9 : Int32) &&& (31 : Int32))) 4 (by omega)
    have ec : jlow (p8 >>> ((9 : Int32) &&& (31 : Int32))) (4 : Int32) = nI c := ec
    obtain ⟨d, hd, ed⟩ := jl_l (p8 >>> ((12 : Int32) &&& (31 : Int32))) 10 (by omega)
    have ed : jlow (p8 >>> ((12 : Int32) &&& (31 : Int32))) (10 : Int32) = nI d := ed
    obtain ⟨k, r, r2, X1, X2, h9, h10, hP, hg, -, -⟩ := pk_give hN (JJ_gJ hJ) (nI a) (nI x) 0 (nI b) (nI c) (nI d)
    obtain ⟨D', hJ'⟩ := same_n hJ hg
    have hv := v_give ha (by omega : c < 26) hd h9
    refine ts_0 (L := L) (F := F) (K := K) ?_
    unfold Q_gives
    rw [gl_eq, ea, gl_eq, eb, gl_eq, ec, gl_eq, ed, hP, bind3_some]
    rcases hv with hk | hk | ⟨hk, n, hn, hr⟩
    · rw [hk, if_neg (by decide), if_neg (by decide), if_pos rfl, bind2_some, if_pos (by decide), eqn_nil, Option.bind_some]
      unfold Q_law_J492
      rw [if_pos rfl]
      exact go _ _ hJ'
    · rw [hk, if_neg (by decide), if_pos rfl, bind2_some, if_pos (by decide), eqn_nil, Option.bind_some]
      unfold Q_law_J492
      rw [if_neg (by decide), if_pos rfl]
      exact go _ _ hJ'
    · rw [if_pos hk, bind2_some, hr, if_neg (zn_nn (by omega)), if_pos ((zn_lel (k := 3) (by omega) (by decide)).mpr hn), eqn_nil, Option.bind_some]
      exact go _ _ hJ'
  · exact t_work hN hJ hx2
  · obtain ⟨a, ha, ea⟩ := jl_l p8 4 (by omega)
    have ea : jlow p8 (4 : Int32) = nI a := ea
    obtain ⟨k, r, r2, X1, X2, h9, h10, hP, hg, -, -⟩ := pk_type hN (JJ_gJ hJ) (nI a)
    obtain ⟨D', hJ'⟩ := same_n hJ hg
    have hw := t_word (p8 := p8) hN hJ' hx2
    rcases v_type hJ (by omega : a < 26) h9 with ⟨hk, hr⟩ | hk
    · exact ts_eq (fun al2 nw => by unfold Q_acts2; rw [gl_eq, ea, hP, bind3_some, if_pos hk, bind2_some, if_pos hr]) hw
    · exact ts_eq (fun al2 nw => by unfold Q_acts2; rw [gl_eq, ea, hP, bind3_some, hk, if_neg (by decide), if_pos rfl, bind2_some, if_neg (by decide), if_pos rfl]) hw
  · obtain ⟨a, ha, ea⟩ := jl_l p8 2 (by omega)
    have ea : jlow p8 (2 : Int32) = nI a := ea
    obtain ⟨b, hb, eb⟩ := jl_l (p8 >>> ((1 : Int32) &&& (31 : Int32))) 2 (by omega)
    have eb : jlow (p8 >>> ((1 : Int32) &&& (31 : Int32))) (2 : Int32) = nI b := eb
    have e2 : (2 : Int32) + nI b = nI (2 + b) := zn_add 2 b
    obtain ⟨k, r, r2, X1, X2, h9, h10, hP, hg, -, -⟩ := pk_sheets hN (JJ_gJ hJ) (nI a) (nI (2 + b))
    obtain ⟨D', hJ'⟩ := same_n hJ hg
    refine ts_0 (L := L) (F := F) (K := K) ?_
    unfold Q_acts1
    rw [gl_eq, ea, gl_eq, eb, e2, hP, bind3_some]
    rcases v_sheets hJ ha (by omega) h9 with ⟨hk, v, v1, v4, hr⟩ | hk
    · rw [if_pos hk, bind2_some, hr, if_neg (fun q => by
        have := (zn_ltl (k := 1) (by omega) (by decide)).mp q
        have e8 : (OfNat.ofNat 1 : Nat) = 1 := rfl
        omega), if_pos ((zn_lel (k := 4) (by omega) (by decide)).mpr v4), eqn_nil, Option.bind_some]
      exact go _ _ hJ'
    · rw [hk, if_neg (by decide), if_pos rfl, bind2_some, if_pos (by decide), eqn_nil, Option.bind_some]
      unfold Q_law_J256
      rw [if_pos rfl]
      exact go _ _ hJ'
theorem t_108 {NL : List (Nat × Nat)} {N L F D W K x : Nat} {p8 p9 : Int32} {X : gM} (hN : 1000000 ≤ N) (hJ : JJ NL L F D W K X) (hx : (L = 0 ∧ x = 0) ∨ x < L) : Ts NL (fun al2 nw => Q_law_J108 (gal NL) al2 N nw (nI L) (nI F) (nI K) 1 p8 p9 (nI x) X) := by
  have hL : L ≤ 10 := hJ.2.1.1
  have hlf := t_leaf (p8 := p8) hN hJ (x := x) (by omega) (by omega)
  unfold Q_law_J108
  refine ts_ite (fun _ => hlf) (fun c => ?_)
  have hx2 : x < L := by
    rcases hx with ⟨q, -⟩ | q
    · exact absurd (by rw [q]; rfl) c
    · exact q
  exact ts_ite (fun _ => t_214 hN hJ hx2) (fun _ => ts_ite (fun _ => t_214 hN hJ hx2) (fun _ => hlf))
def J29 (NL : List (Nat × Nat)) (X : gM) (a b c : Nat) : Prop := ∃ D W, JJ NL a b D W c X
theorem m_turn : gTn J29 1000000 := fun NL X a b c hJ L xs i hL hi => by
  obtain ⟨D, W, hJ⟩ := hJ
  have ha : a ≤ 10 := hJ.2.1.1
  have key : Ts NL (fun al2 nw => Q_turn (gal NL) al2 1000000 nw L xs (nI a) (nI b) (nI c) 1 (nI i) X) := by
    have h1 : (1 : Int32) + nI i = nI (1 + i) := zn_add 1 i
    have h2 : nn (nI (1 + i)) = some (nI (1 + i)) := if_neg (zn_nn (by omega))
    by_cases c0 : nI a = (0 : Int32)
    · have ha0 : a = 0 := (zn_eql (k := 0) (by omega) (by decide)).mp c0
      exact ts_eq (fun al2 nw => by unfold Q_turn; rw [h1, h2, Option.bind_some, gl_eq, gl_eq, if_pos c0]; rfl) (t_108 (x := 0) (p8 := jcell L xs (nI (1 + i))) (p9 := jlow (jcell L xs (nI (1 + i)) >>> ((20 : Int32) &&& (31 : Int32))) (30 : Int32)) (Nat.le_refl _) hJ (Or.inl ⟨ha0, rfl⟩))
    · have ha0 : a ≠ 0 := fun q => c0 (by rw [q]; rfl)
      obtain ⟨x, hx, ex⟩ := jl_ok (jcell L xs (nI (1 + i)) >>> ((3 : Int32) &&& (31 : Int32))) (n := a) (by omega) (by omega)
      have hz : nz (nI a) = some (nI a) := if_neg c0
      exact ts_eq (fun al2 nw => by unfold Q_turn; rw [h1, h2, Option.bind_some, gl_eq, gl_eq, if_neg c0, hz, Option.bind_some, gl_eq, ex]) (t_108 (x := x) (p8 := jcell L xs (nI (1 + i))) (p9 := jlow (jcell L xs (nI (1 + i)) >>> ((20 : Int32) &&& (31 : Int32))) (30 : Int32)) (Nat.le_refl _) hJ (Or.inr hx))
  obtain ⟨nw, L', F', K', hfr, D', W', X', e, hJ'⟩ := key
  exact ⟨nw, X', L', F', K', hfr, e, D', W', hJ'⟩
